section
variable {p : Program} {l : Launch} {e : Env} {s : State} {m : MethodId} {args : Array Value} {below : List Frame} {meth : Method} {c : Code} {E : Ev} {K : Kd} {z : Nat}

theorem dX12_plan_0 : decode cX12_plan 0 = .ok (.aload_n 0, 1) := by decide +kernel
theorem dX12_plan_1 : decode cX12_plan 1 = .ok (.iload_n 1, 1) := by decide +kernel
theorem dX12_plan_2 : decode cX12_plan 2 = .ok (.iload_n 2, 1) := by decide +kernel
theorem dX12_plan_3 : decode cX12_plan 3 = .ok (.iload_n 3, 1) := by decide +kernel
theorem dX12_plan_4 : decode cX12_plan 4 = .ok (.iload 4, 2) := by decide +kernel
theorem dX12_plan_6 : decode cX12_plan 6 = .ok (.iload 5, 2) := by decide +kernel
theorem dX12_plan_8 : decode cX12_plan 8 = .ok (.invokevirtual 276, 3) := by decide +kernel
theorem dX12_plan_11 : decode cX12_plan 11 = .ok (.aload_n 0, 1) := by decide +kernel
theorem dX12_plan_12 : decode cX12_plan 12 = .ok (.iload_n 1, 1) := by decide +kernel
theorem dX12_plan_13 : decode cX12_plan 13 = .ok (.invokevirtual 280, 3) := by decide +kernel
theorem dX12_plan_16 : decode cX12_plan 16 = .ok (.aload_n 0, 1) := by decide +kernel
theorem dX12_plan_17 : decode cX12_plan 17 = .ok (.getfield 52, 3) := by decide +kernel
theorem dX12_plan_20 : decode cX12_plan 20 = .ok (.aload_n 0, 1) := by decide +kernel
theorem dX12_plan_21 : decode cX12_plan 21 = .ok (.getfield 35, 3) := by decide +kernel
theorem dX12_plan_24 : decode cX12_plan 24 = .ok (.iload_n 1, 1) := by decide +kernel
theorem dX12_plan_25 : decode cX12_plan 25 = .ok (.iload_n 2, 1) := by decide +kernel
theorem dX12_plan_26 : decode cX12_plan 26 = .ok (.iload_n 3, 1) := by decide +kernel
theorem dX12_plan_27 : decode cX12_plan 27 = .ok (.iload 4, 2) := by decide +kernel
theorem dX12_plan_29 : decode cX12_plan 29 = .ok (.iload 5, 2) := by decide +kernel
theorem dX12_plan_31 : decode cX12_plan 31 = .ok (.invokevirtual 283, 3) := by decide +kernel
theorem dX12_plan_34 : decode cX12_plan 34 = .ok (.ifCond .eq 11, 3) := by decide +kernel
theorem dX12_plan_37 : decode cX12_plan 37 = .ok (.new 331, 3) := by decide +kernel
theorem dX12_plan_40 : decode cX12_plan 40 = .ok (.dup, 1) := by decide +kernel
theorem dX12_plan_41 : decode cX12_plan 41 = .ok (.invokespecial 333, 3) := by decide +kernel
theorem dX12_plan_44 : decode cX12_plan 44 = .ok (.athrow, 1) := by decide +kernel
theorem dX12_plan_45 : decode cX12_plan 45 = .ok (.aload_n 0, 1) := by decide +kernel
theorem dX12_plan_46 : decode cX12_plan 46 = .ok (.invokevirtual 325, 3) := by decide +kernel
theorem dX12_plan_49 : decode cX12_plan 49 = .ok (.aload_n 0, 1) := by decide +kernel
theorem dX12_plan_50 : decode cX12_plan 50 = .ok (.getfield 35, 3) := by decide +kernel
theorem dX12_plan_53 : decode cX12_plan 53 = .ok (.getfield 213, 3) := by decide +kernel
theorem dX12_plan_56 : decode cX12_plan 56 = .ok (.iload_n 1, 1) := by decide +kernel
theorem dX12_plan_57 : decode cX12_plan 57 = .ok (.aaload, 1) := by decide +kernel
theorem dX12_plan_58 : decode cX12_plan 58 = .ok (.iload_n 2, 1) := by decide +kernel
theorem dX12_plan_59 : decode cX12_plan 59 = .ok (.iload_n 3, 1) := by decide +kernel
theorem dX12_plan_60 : decode cX12_plan 60 = .ok (.iload 4, 2) := by decide +kernel
theorem dX12_plan_62 : decode cX12_plan 62 = .ok (.iload 5, 2) := by decide +kernel
theorem dX12_plan_64 : decode cX12_plan 64 = .ok (.invokevirtual 334, 3) := by decide +kernel
theorem dX12_plan_67 : decode cX12_plan 67 = .ok (.aload_n 0, 1) := by decide +kernel
theorem dX12_plan_68 : decode cX12_plan 68 = .ok (.getfield 35, 3) := by decide +kernel
theorem dX12_plan_71 : decode cX12_plan 71 = .ok (.iload_n 2, 1) := by decide +kernel
theorem dX12_plan_72 : decode cX12_plan 72 = .ok (.iconst 1, 1) := by decide +kernel
theorem dX12_plan_73 : decode cX12_plan 73 = .ok (.iadd, 1) := by decide +kernel
theorem dX12_plan_74 : decode cX12_plan 74 = .ok (.aload_n 0, 1) := by decide +kernel
theorem dX12_plan_75 : decode cX12_plan 75 = .ok (.getfield 35, 3) := by decide +kernel
theorem dX12_plan_78 : decode cX12_plan 78 = .ok (.iload_n 1, 1) := by decide +kernel
theorem dX12_plan_79 : decode cX12_plan 79 = .ok (.invokevirtual 233, 3) := by decide +kernel
theorem dX12_plan_82 : decode cX12_plan 82 = .ok (.invokevirtual 165, 3) := by decide +kernel
theorem dX12_plan_85 : decode cX12_plan 85 = .ok (.ireturn, 1) := by decide +kernel
theorem hd_X12_plan : yX12_plan.cls = RX12 ∧ yX12_plan.cls ≠ "java/lang/invoke/MethodHandle" ∧ yX12_plan.cls ≠ "java/lang/invoke/VarHandle" ∧ (parseMethodDescriptor yX12_plan.desc).map (fun d => d.parameters.length) = some 5 := by decide +kernel
theorem hs_X12_plan : yX12_plan.cls ≠ "java/lang/invoke/MethodHandle" ∧ yX12_plan.cls ≠ "java/lang/invoke/VarHandle" ∧ (parseMethodDescriptor yX12_plan.desc).map (fun d => d.parameters.length) = some 5 := by decide +kernel
set_option maxHeartbeats 4000000 in
set_option maxRecDepth 100000 in
theorem k_X12_plan (l : Launch) (hls : l.stackTraces = false) (E : Ev) (K : Kd) (z : Nat) (o : Nat) (a_1 : Int32) (a_2 : Int32) (a_3 : Int32) (a_4 : Int32) (a_5 : Int32) (w : Wd) (ho : K o = some (10, 0)) {r : Int32 ⊕ Nat} {w' : Wd} (hf : f_X12_plan K o a_1 a_2 a_3 a_4 a_5 w = some (r, w')) : vx_Met l yX12_plan (Cond.code yX12_plan cX12_plan 6 (Option.some Jvm.ClassFile.FieldType.int) :: bt) ({ frames := 8, cells := 7, slots := 42, locals := 137 } : Room) (va_Pc [rv E (some o), .int a_1, .int a_2, .int a_3, .int a_4, .int a_5] (HB E K w z)) (XI E K z w' r) (XX E K w' r) 7 42 (hA E) := by
  refine vx_ofW (cc := cX12_plan) (maxL := 6) (ret := (Option.some Jvm.ClassFile.FieldType.int)) (by decide) rfl ?_
  intro p e s m args below meth c s₁ B hml hout hv
  obtain ⟨rfl, hz, hP, hKs, hT, hb0⟩ := hv
  have C : CX p l e s m _ meth c cX12_plan 6 RX12 (Option.some Jvm.ClassFile.FieldType.int) E := ⟨B.exec, B.bytes, hml, findClass_of_methodNamed B.named, fun w h => atoms_spec (ws := Cond.code yX12_plan cX12_plan 6 (Option.some Jvm.ClassFile.FieldType.int) :: bt) B.pre w (List.mem_cons_of_mem _ h), hKs, hT, by rw [hz]; exact hb0, B.notSynchronized, B.returns⟩
  have hH : HQ E K z w s s.heap [] := ⟨hP, va_S.rf, hz⟩
  obtain ⟨hx, hb, hml, hown, hts, hKs, hT, hb0, hlocks, hret⟩ := id C
  have hl := lv_entry [rv E (some o), .int a_1, .int a_2, .int a_3, .int a_4, .int a_5] (n := 6) (by simp [lg_len_nil, lg_len_i, lg_len_j, lg_len_q, lg_len_f, lg_len_d, lg_len_r])
  rw [lg_entry_eq]
  generalize (lg_sl [rv E (some o), .int a_1, .int a_2, .int a_3, .int a_4, .int a_5] ++ List.replicate (6 - (lg_sl [rv E (some o), .int a_1, .int a_2, .int a_3, .int a_4, .int a_5]).length) Slot.unset).toArray = ls at hl ⊢
  replace hl : lv_has ls 6 [(0, rv E (some o)), (1, .int a_1), (2, .int a_2), (3, .int a_3), (4, .int a_4), (5, .int a_5)] := by simpa only [lv_args, cat_q, cat_i, cat_j, reduceIte, Nat.reduceEqDiff, Nat.reduceAdd, Nat.zero_add] using hl
  generalize s.heap = H at hH ⊢
  unfold f_X12_plan at hf
  refine hl_aload_n hx hb dX12_plan_0 rfl (lv_at hl 0 rfl) ?_
  refine lv_iload_n hx hb dX12_plan_1 rfl (lv_at hl 1 rfl) ?_
  refine lv_iload_n hx hb dX12_plan_2 rfl (lv_at hl 2 rfl) ?_
  refine lv_iload_n hx hb dX12_plan_3 rfl (lv_at hl 3 rfl) ?_
  refine lv_iload hx hb dX12_plan_4 (lv_at hl 4 rfl) ?_
  refine lv_iload hx hb dX12_plan_6 (lv_at hl 5 rfl) ?_
  obtain ⟨q1, hq1, hf⟩ := bnd hf
  refine hxV_v hx hb hml hown hts hKs hT hb0 hH (As := [.int a_1, .int a_2, .int a_3, .int a_4, .int a_5]) (rest := []) (k_X12_requireHearing l hls E K H.size o a_1 a_2 a_3 a_4 a_5 w ho hq1) (gV m5_186 m5_188 ms_38 m1_1 m5_189) hd_X12_requireHearing ⟨Nat.le_of_ble_eq_true rfl, Nat.le_of_ble_eq_true rfl, rfl, rfl⟩ rfl ho rfl rfl rfl hl.1 rfl rc0 rfl dX12_plan_8 ⟨Nat.le_of_ble_eq_true rfl, Nat.le_of_ble_eq_true rfl⟩ ⟨Nat.le_of_ble_eq_true rfl, Nat.le_of_ble_eq_true rfl⟩ hout hlocks (fun x hx9 => (fun h9 => ⟨(congrArg Prod.fst h9).symm, (congrArg Prod.snd h9).symm⟩) (Option.some.inj ((xk_inr hx9).symm.trans hf))) (fun v2 hv2 H locs hH => ?_)
  replace hf := (xk_inl hv2).symm.trans hf
  refine hl_aload_n hx hb dX12_plan_11 rfl (lv_at hl 0 rfl) ?_
  refine lv_iload_n hx hb dX12_plan_12 rfl (lv_at hl 1 rfl) ?_
  obtain ⟨q3, hq3, hf⟩ := bnd hf
  refine hxV_v hx hb hml hown hts hKs hT hb0 hH (As := [.int a_1]) (rest := []) (k_X12_requireUnfinished l hls E K H.size o a_1 q1.2 ho hq3) (gV m5_190 m5_192 ms_39 m1_1 m5_193) hd_X12_requireUnfinished ⟨Nat.le_of_ble_eq_true rfl, Nat.le_of_ble_eq_true rfl, rfl, rfl⟩ rfl ho rfl rfl rfl hl.1 rfl rc0 rfl dX12_plan_13 ⟨Nat.le_of_ble_eq_true rfl, Nat.le_of_ble_eq_true rfl⟩ ⟨Nat.le_of_ble_eq_true rfl, Nat.le_of_ble_eq_true rfl⟩ hout hlocks (fun x hx9 => (fun h9 => ⟨(congrArg Prod.fst h9).symm, (congrArg Prod.snd h9).symm⟩) (Option.some.inj ((xk_inr hx9).symm.trans hf))) (fun v4 hv4 H locs hH => ?_)
  replace hf := (xk_inl hv4).symm.trans hf
  refine hl_aload_n hx hb dX12_plan_16 rfl (lv_at hl 0 rfl) ?_
  refine g12_11 hx hb hts hown hKs hH rfl ho m2_230 dX12_plan_17 ?_
  refine hl_aload_n hx hb dX12_plan_20 rfl (lv_at hl 0 rfl) ?_
  refine g12_5 hx hb hts hown hKs hH rfl ho m2_224 dX12_plan_21 ?_
  refine lv_iload_n hx hb dX12_plan_24 rfl (lv_at hl 1 rfl) ?_
  refine lv_iload_n hx hb dX12_plan_25 rfl (lv_at hl 2 rfl) ?_
  refine lv_iload_n hx hb dX12_plan_26 rfl (lv_at hl 3 rfl) ?_
  refine lv_iload hx hb dX12_plan_27 (lv_at hl 4 rfl) ?_
  refine lv_iload hx hb dX12_plan_29 (lv_at hl 5 rfl) ?_
  obtain ⟨a5, ha5, hf⟩ := bnd hf
  replace ha5 := chk_some ha5
  obtain ⟨q6, hq6, hf⟩ := bnd hf
  refine hcV_i hx hb hml hown hts hKs hT hb0 hH (As := [rv E (wR q3.2 1205 o), .int a_1, .int a_2, .int a_3, .int a_4, .int a_5]) (rest := []) (k_X6_faultOf l E K H.size a5 (wR q3.2 1205 o) a_1 a_2 a_3 a_4 a_5 q3.2 ha5.2 hq6) (gV m5_209 m5_210 m5_211 m1_14 m5_212) hd_X6_faultOf ⟨Nat.le_of_ble_eq_true rfl, Nat.le_of_ble_eq_true rfl, rfl, rfl⟩ ha5.1 ha5.2 rfl rfl rfl hl.1 rfl rc0 rfl dX12_plan_31 ⟨Nat.le_of_ble_eq_true rfl, Nat.le_of_ble_eq_true rfl⟩ (fun H locs hH => ?_)
  refine lv_if_eq (tgt := 45) hx hb dX12_plan_34 (by decide) (fun c7 => ?_) (fun c7 => ?_)
  · replace hf := (if_pos c7).symm.trans hf
    refine hl_aload_n hx hb dX12_plan_45 rfl (lv_at hl 0 rfl) ?_
    obtain ⟨q8, hq8, hf⟩ := bnd hf
    refine hcV_v hx hb hml hown hts hKs hT hb0 hH (As := []) (rest := []) (k_X12_remember l E K H.size o q6.2 ho hq8) (gV m4_82 m4_84 ms_23 m1_1 m4_85) hd_X12_remember ⟨Nat.le_of_ble_eq_true rfl, Nat.le_of_ble_eq_true rfl, rfl, rfl⟩ rfl ho rfl rfl rfl hl.1 rfl rc0 rfl dX12_plan_46 ⟨Nat.le_of_ble_eq_true rfl, Nat.le_of_ble_eq_true rfl⟩ (fun H locs hH => ?_)
    refine hl_aload_n hx hb dX12_plan_49 rfl (lv_at hl 0 rfl) ?_
    refine g12_5 hx hb hts hown hKs hH rfl ho m2_224 dX12_plan_50 ?_
    obtain ⟨a9, ha9, hf⟩ := bnd hf
    replace ha9 := chk_some ha9
    refine gn10_5 hx hb hts hown hKs hH ha9.1 ha9.2 m2_135 dX12_plan_53 ?_
    refine lv_iload_n hx hb dX12_plan_56 rfl (lv_at hl 1 rfl) ?_
    obtain ⟨a10, ha10, hf⟩ := bnd hf
    replace ha10 := cha_some ha10
    obtain ⟨j11, hj11, hf⟩ := bnd hf
    refine hw_aald27 hx hb hKs hH ha10.1 ha10.2 hj11 dX12_plan_57 ?_
    refine lv_iload_n hx hb dX12_plan_58 rfl (lv_at hl 2 rfl) ?_
    refine lv_iload_n hx hb dX12_plan_59 rfl (lv_at hl 3 rfl) ?_
    refine lv_iload hx hb dX12_plan_60 (lv_at hl 4 rfl) ?_
    refine lv_iload hx hb dX12_plan_62 (lv_at hl 5 rfl) ?_
    obtain ⟨a12, ha12, hf⟩ := bnd hf
    replace ha12 := chk_some ha12
    obtain ⟨q13, hq13, hf⟩ := bnd hf
    refine hcV_v hx hb hml hown hts hKs hT hb0 hH (As := [.int a_2, .int a_3, .int a_4, .int a_5]) (rest := []) (k_X7_setHearing l E K H.size a12 a_2 a_3 a_4 a_5 q8 ha12.2 hq13) (gV m6_64 m4_186 m4_187 m1_13 m4_188) hd_X7_setHearing ⟨Nat.le_of_ble_eq_true rfl, Nat.le_of_ble_eq_true rfl, rfl, rfl⟩ ha12.1 ha12.2 rfl rfl rfl hl.1 rfl rc0 rfl dX12_plan_64 ⟨Nat.le_of_ble_eq_true rfl, Nat.le_of_ble_eq_true rfl⟩ (fun H locs hH => ?_)
    refine hl_aload_n hx hb dX12_plan_67 rfl (lv_at hl 0 rfl) ?_
    refine g12_5 hx hb hts hown hKs hH rfl ho m2_224 dX12_plan_68 ?_
    refine lv_iload_n hx hb dX12_plan_71 rfl (lv_at hl 2 rfl) ?_
    refine lv_iconst (v := 1) hx hb dX12_plan_72 (by decide) ?_
    refine lv_iadd hx hb dX12_plan_73 ?_
    refine hl_aload_n hx hb dX12_plan_74 rfl (lv_at hl 0 rfl) ?_
    refine g12_5 hx hb hts hown hKs hH rfl ho m2_224 dX12_plan_75 ?_
    refine lv_iload_n hx hb dX12_plan_78 rfl (lv_at hl 1 rfl) ?_
    obtain ⟨a14, ha14, hf⟩ := bnd hf
    replace ha14 := chk_some ha14
    obtain ⟨q15, hq15, hf⟩ := bnd hf
    refine hcV_i hx hb hml hown hts hKs hT hb0 hH (As := [.int a_1]) (rest := [.int ((a_2 + 1)), rv E (wR q13 1205 o)]) (k_X10_limitDay l E K H.size a14 a_1 q13 ha14.2 hq15) (gV m5_145 m4_66 m4_67 m1_12 m4_68) hd_X10_limitDay ⟨Nat.le_of_ble_eq_true rfl, Nat.le_of_ble_eq_true rfl, rfl, rfl⟩ ha14.1 ha14.2 rfl rfl rfl hl.1 rfl (rcI (rcV rc0)) rfl dX12_plan_79 ⟨Nat.le_of_ble_eq_true rfl, Nat.le_of_ble_eq_true rfl⟩ (fun H locs hH => ?_)
    obtain ⟨q16, hq16, hf⟩ := bnd hf
    refine hcV_i hx hb hml hown hts hKs hT hb0 hH (As := [.int ((a_2 + 1)), .int (q15.1)]) (rest := []) (k_X10_countWorking l E K H.size a14 (a_2 + 1) q15.1 q15.2 ha14.2 hq16) (gV m5_70 m4_75 m4_76 m1_12 m4_77) hd_X10_countWorking ⟨Nat.le_of_ble_eq_true rfl, Nat.le_of_ble_eq_true rfl, rfl, rfl⟩ ha14.1 ha14.2 rfl rfl rfl hl.1 rfl rc0 rfl dX12_plan_82 ⟨Nat.le_of_ble_eq_true rfl, Nat.le_of_ble_eq_true rfl⟩ (fun H locs hH => ?_)
    exact hx_iret hx hb (Nat.le_of_ble_eq_true rfl) (Nat.le_of_ble_eq_true rfl) hret hf hH hlocks dX12_plan_85
  · replace hf := (if_neg c7).symm.trans hf
    exact hx_throw hx hb hls (code := 3) hml hl.1 hown hts hKs hT hb0 hH (by decide) rfl m5_194 m1_29 hat_RX12_333 dX12_plan_37 dX12_plan_40 dX12_plan_41 dX12_plan_44 hout (Nat.le_of_ble_eq_true rfl) rc0 (Nat.le_of_ble_eq_true rfl) (Nat.le_of_ble_eq_true rfl) (Nat.le_of_ble_eq_true rfl) hlocks hf (Nat.le_of_ble_eq_true rfl) (Nat.le_of_ble_eq_true rfl)

theorem dX12_printDay_0 : decode cX12_printDay 0 = .ok (.aload_n 0, 1) := by decide +kernel
theorem dX12_printDay_1 : decode cX12_printDay 1 = .ok (.iload_n 1, 1) := by decide +kernel
theorem dX12_printDay_2 : decode cX12_printDay 2 = .ok (.invokevirtual 154, 3) := by decide +kernel
theorem dX12_printDay_5 : decode cX12_printDay 5 = .ok (.aload_n 0, 1) := by decide +kernel
theorem dX12_printDay_6 : decode cX12_printDay 6 = .ok (.iconst 0, 1) := by decide +kernel
theorem dX12_printDay_7 : decode cX12_printDay 7 = .ok (.putfield 369, 3) := by decide +kernel
theorem dX12_printDay_10 : decode cX12_printDay 10 = .ok (.iconst 0, 1) := by decide +kernel
theorem dX12_printDay_11 : decode cX12_printDay 11 = .ok (.istore_n 2, 1) := by decide +kernel
theorem dX12_printDay_12 : decode cX12_printDay 12 = .ok (.iload_n 2, 1) := by decide +kernel
theorem dX12_printDay_13 : decode cX12_printDay 13 = .ok (.bipush 8, 2) := by decide +kernel
theorem dX12_printDay_15 : decode cX12_printDay 15 = .ok (.if_icmp .ge 73, 3) := by decide +kernel
theorem dX12_printDay_18 : decode cX12_printDay 18 = .ok (.iconst 0, 1) := by decide +kernel
theorem dX12_printDay_19 : decode cX12_printDay 19 = .ok (.istore_n 3, 1) := by decide +kernel
theorem dX12_printDay_20 : decode cX12_printDay 20 = .ok (.iload_n 3, 1) := by decide +kernel
theorem dX12_printDay_21 : decode cX12_printDay 21 = .ok (.aload_n 0, 1) := by decide +kernel
theorem dX12_printDay_22 : decode cX12_printDay 22 = .ok (.getfield 35, 3) := by decide +kernel
theorem dX12_printDay_25 : decode cX12_printDay 25 = .ok (.getfield 87, 3) := by decide +kernel
theorem dX12_printDay_28 : decode cX12_printDay 28 = .ok (.iconst 0, 1) := by decide +kernel
theorem dX12_printDay_29 : decode cX12_printDay 29 = .ok (.invokevirtual 105, 3) := by decide +kernel
theorem dX12_printDay_32 : decode cX12_printDay 32 = .ok (.if_icmp .ge 50, 3) := by decide +kernel
theorem dX12_printDay_35 : decode cX12_printDay 35 = .ok (.aload_n 0, 1) := by decide +kernel
theorem dX12_printDay_36 : decode cX12_printDay 36 = .ok (.getfield 35, 3) := by decide +kernel
theorem dX12_printDay_39 : decode cX12_printDay 39 = .ok (.iload_n 3, 1) := by decide +kernel
theorem dX12_printDay_40 : decode cX12_printDay 40 = .ok (.iload_n 1, 1) := by decide +kernel
theorem dX12_printDay_41 : decode cX12_printDay 41 = .ok (.iload_n 2, 1) := by decide +kernel
theorem dX12_printDay_42 : decode cX12_printDay 42 = .ok (.invokevirtual 272, 3) := by decide +kernel
theorem dX12_printDay_45 : decode cX12_printDay 45 = .ok (.istore 4, 2) := by decide +kernel
theorem dX12_printDay_47 : decode cX12_printDay 47 = .ok (.iload 4, 2) := by decide +kernel
theorem dX12_printDay_49 : decode cX12_printDay 49 = .ok (.iconst (-1), 1) := by decide +kernel
theorem dX12_printDay_50 : decode cX12_printDay 50 = .ok (.if_icmp .eq 26, 3) := by decide +kernel
theorem dX12_printDay_53 : decode cX12_printDay 53 = .ok (.aload_n 0, 1) := by decide +kernel
theorem dX12_printDay_54 : decode cX12_printDay 54 = .ok (.getfield 35, 3) := by decide +kernel
theorem dX12_printDay_57 : decode cX12_printDay 57 = .ok (.getfield 213, 3) := by decide +kernel
theorem dX12_printDay_60 : decode cX12_printDay 60 = .ok (.iload 4, 2) := by decide +kernel
theorem dX12_printDay_62 : decode cX12_printDay 62 = .ok (.aaload, 1) := by decide +kernel
theorem dX12_printDay_63 : decode cX12_printDay 63 = .ok (.getfield 257, 3) := by decide +kernel
theorem dX12_printDay_66 : decode cX12_printDay 66 = .ok (.iload_n 2, 1) := by decide +kernel
theorem dX12_printDay_67 : decode cX12_printDay 67 = .ok (.if_icmp .ne 9, 3) := by decide +kernel
theorem dX12_printDay_70 : decode cX12_printDay 70 = .ok (.aload_n 0, 1) := by decide +kernel
theorem dX12_printDay_71 : decode cX12_printDay 71 = .ok (.iload 4, 2) := by decide +kernel
theorem dX12_printDay_73 : decode cX12_printDay 73 = .ok (.invokevirtual 372, 3) := by decide +kernel
theorem dX12_printDay_76 : decode cX12_printDay 76 = .ok (.iinc 3 1, 3) := by decide +kernel
theorem dX12_printDay_79 : decode cX12_printDay 79 = .ok (.goto (-59), 3) := by decide +kernel
theorem dX12_printDay_82 : decode cX12_printDay 82 = .ok (.iinc 2 1, 3) := by decide +kernel
theorem dX12_printDay_85 : decode cX12_printDay 85 = .ok (.goto (-73), 3) := by decide +kernel
theorem dX12_printDay_88 : decode cX12_printDay 88 = .ok (.aload_n 0, 1) := by decide +kernel
theorem dX12_printDay_89 : decode cX12_printDay 89 = .ok (.getfield 369, 3) := by decide +kernel
theorem dX12_printDay_92 : decode cX12_printDay 92 = .ok (.ireturn, 1) := by decide +kernel
theorem hd_X12_printDay : yX12_printDay.cls = RX12 ∧ yX12_printDay.cls ≠ "java/lang/invoke/MethodHandle" ∧ yX12_printDay.cls ≠ "java/lang/invoke/VarHandle" ∧ (parseMethodDescriptor yX12_printDay.desc).map (fun d => d.parameters.length) = some 1 := by decide +kernel
theorem hs_X12_printDay : yX12_printDay.cls ≠ "java/lang/invoke/MethodHandle" ∧ yX12_printDay.cls ≠ "java/lang/invoke/VarHandle" ∧ (parseMethodDescriptor yX12_printDay.desc).map (fun d => d.parameters.length) = some 1 := by decide +kernel
set_option maxHeartbeats 4000000 in
set_option maxRecDepth 100000 in
theorem l_X12_printDay_L20 (C : CX p l e s m args meth c cX12_printDay 5 RX12 (Option.some Jvm.ClassFile.FieldType.int) E) {o : Nat} (ho : K o = some (10, 0)) {r : Int32 ⊕ Nat} {w' : Wd} (k : Int32 → Int32 → Int32 → Wd → Option ((Int32 ⊕ Nat) × Wd)) (hk : ∀ (v1_20 : Int32) (v2_20 : Int32) (v3_20 : Int32) (w : Wd) (H : Heap) (locs : List Loc) (ls : Array Slot), HQ E K z w s H locs → lv_has ls 5 [(1, .int v1_20), (2, .int v2_20), (3, .int v3_20), (0, rv E (some o))] → k v1_20 v2_20 v3_20 w = some (r, w') → W p l e ({ frames := 7, cells := 1, slots := 6, locals := 111 } : Room) s m args below meth c H locs 1 6 (vx_MQ below (XI E K z w' r) (XX E K w' r) args s 1 6 (hA E)) (F0 m 82 ls [])) : ∀ (n : Nat) (v1_20 : Int32) (v2_20 : Int32) (v3_20 : Int32) (w : Wd) (H : Heap) (locs : List Loc) (ls : Array Slot), HQ E K z w s H locs → lv_has ls 5 [(1, .int v1_20), (2, .int v2_20), (3, .int v3_20), (0, rv E (some o))] → f_X12_printDay_L20 K o k n v1_20 v2_20 v3_20 w = some (r, w') → W p l e ({ frames := 7, cells := 1, slots := 6, locals := 111 } : Room) s m args below meth c H locs 1 6 (vx_MQ below (XI E K z w' r) (XX E K w' r) args s 1 6 (hA E)) (F0 m 20 ls []) := by
  obtain ⟨hx, hb, hml, hown, hts, hKs, hT, hb0, hlocks, hret⟩ := id C
  intro n
  induction n with
  | zero =>
    intro v1_20 v2_20 v3_20 w H locs ls hH hl hf
    cases hf
  | succ n ih =>
    intro v1_20 v2_20 v3_20 w H locs ls hH hl hf
    rw [f_X12_printDay_L20] at hf
    refine lv_iload_n hx hb dX12_printDay_20 rfl (lv_at hl 2 rfl) ?_
    refine hl_aload_n hx hb dX12_printDay_21 rfl (lv_at hl 3 rfl) ?_
    refine g12_5 hx hb hts hown hKs hH rfl ho m2_224 dX12_printDay_22 ?_
    obtain ⟨a7, ha7, hf⟩ := bnd hf
    replace ha7 := chk_some ha7
    refine gn10_0 hx hb hts hown hKs hH ha7.1 ha7.2 m2_122 dX12_printDay_25 ?_
    refine lv_iconst (v := 0) hx hb dX12_printDay_28 (by decide) ?_
    obtain ⟨a8, ha8, hf⟩ := bnd hf
    replace ha8 := chk_some ha8
    obtain ⟨q9, hq9, hf⟩ := bnd hf
    refine hcV_i hx hb hml hown hts hKs hT hb0 hH (As := [.int 0]) (rest := [.int v3_20]) (k_X9_size l E K H.size a8 0 w ha8.2 hq9) (gV m3_229 m3_151 m3_152 m1_2 m3_153) hd_X9_size ⟨Nat.le_of_ble_eq_true rfl, Nat.le_of_ble_eq_true rfl, rfl, rfl⟩ ha8.1 ha8.2 rfl rfl rfl hl.1 rfl (rcI rc0) rfl dX12_printDay_29 ⟨Nat.le_of_ble_eq_true rfl, Nat.le_of_ble_eq_true rfl⟩ (fun H locs hH => ?_)
    refine lv_icmp_ge (tgt := 82) hx hb dX12_printDay_32 (by decide) (fun c10 => ?_) (fun c10 => ?_)
    · replace hf := (if_pos c10).symm.trans hf
      exact hk v1_20 v2_20 v3_20 _ _ _ _ hH (lv_sub hl [0, 1, 2, 3] rfl) hf
    · replace hf := (if_neg c10).symm.trans hf
      refine hl_aload_n hx hb dX12_printDay_35 rfl (lv_at hl 3 rfl) ?_
      refine g12_5 hx hb hts hown hKs hH rfl ho m2_224 dX12_printDay_36 ?_
      refine lv_iload_n hx hb dX12_printDay_39 rfl (lv_at hl 2 rfl) ?_
      refine lv_iload_n hx hb dX12_printDay_40 rfl (lv_at hl 0 rfl) ?_
      refine lv_iload_n hx hb dX12_printDay_41 rfl (lv_at hl 1 rfl) ?_
      obtain ⟨a11, ha11, hf⟩ := bnd hf
      replace ha11 := chk_some ha11
      obtain ⟨q12, hq12, hf⟩ := bnd hf
      refine hcV_i hx hb hml hown hts hKs hT hb0 hH (As := [.int v3_20, .int v1_20, .int v2_20]) (rest := []) (k_X10_caseTaking l E K H.size a11 v3_20 v1_20 v2_20 q9.2 ha11.2 hq12) (gV m5_172 m5_173 m5_174 m1_12 m5_175) hd_X10_caseTaking ⟨Nat.le_of_ble_eq_true rfl, Nat.le_of_ble_eq_true rfl, rfl, rfl⟩ ha11.1 ha11.2 rfl rfl rfl hl.1 rfl rc0 rfl dX12_printDay_42 ⟨Nat.le_of_ble_eq_true rfl, Nat.le_of_ble_eq_true rfl⟩ (fun H locs hH => ?_)
      refine lv_istore (i := 4) (lv' := [(4, .int (q12.1)), (1, .int v1_20), (2, .int v2_20), (3, .int v3_20), (0, rv E (some o))]) hx hb dX12_printDay_45 hl (by decide) rfl (fun ls hl => ?_)
      refine lv_iload hx hb dX12_printDay_47 (lv_at hl 0 rfl) ?_
      refine lv_iconst (v := (-1)) hx hb dX12_printDay_49 (by decide) ?_
      refine lv_icmp_eq (tgt := 76) hx hb dX12_printDay_50 (by decide) (fun c13 => ?_) (fun c13 => ?_)
      · replace hf := (if_pos c13).symm.trans hf
        refine lv_iinc (v := (v3_20 + 1)) (lv' := [(3, .int ((v3_20 + 1))), (4, .int (q12.1)), (1, .int v1_20), (2, .int v2_20), (0, rv E (some o))]) hx hb dX12_printDay_76 hl (k := 3) rfl rfl (by decide) rfl (fun ls hl => ?_)
        refine lv_goto (tgt := 20) hx hb dX12_printDay_79 (by decide) ?_
        exact ih v1_20 v2_20 (v3_20 + 1) _ _ _ _ hH (lv_sub hl [2, 3, 0, 4] rfl) hf
      · replace hf := (if_neg c13).symm.trans hf
        refine hl_aload_n hx hb dX12_printDay_53 rfl (lv_at hl 4 rfl) ?_
        refine g12_5 hx hb hts hown hKs hH rfl ho m2_224 dX12_printDay_54 ?_
        obtain ⟨a14, ha14, hf⟩ := bnd hf
        replace ha14 := chk_some ha14
        refine gn10_5 hx hb hts hown hKs hH ha14.1 ha14.2 m2_135 dX12_printDay_57 ?_
        refine lv_iload hx hb dX12_printDay_60 (lv_at hl 0 rfl) ?_
        obtain ⟨a15, ha15, hf⟩ := bnd hf
        replace ha15 := cha_some ha15
        obtain ⟨j16, hj16, hf⟩ := bnd hf
        refine hw_aald27 hx hb hKs hH ha15.1 ha15.2 hj16 dX12_printDay_62 ?_
        obtain ⟨a17, ha17, hf⟩ := bnd hf
        replace ha17 := chk_some ha17
        refine gn7_3 hx hb hts hown hKs hH ha17.1 ha17.2 m2_80 dX12_printDay_63 ?_
        refine lv_iload_n hx hb dX12_printDay_66 rfl (lv_at hl 2 rfl) ?_
        refine lv_icmp_ne (tgt := 76) hx hb dX12_printDay_67 (by decide) (fun c18 => ?_) (fun c18 => ?_)
        · replace hf := (if_neg c18).symm.trans hf
          refine lv_iinc (v := (v3_20 + 1)) (lv' := [(3, .int ((v3_20 + 1))), (4, .int (q12.1)), (1, .int v1_20), (2, .int v2_20), (0, rv E (some o))]) hx hb dX12_printDay_76 hl (k := 3) rfl rfl (by decide) rfl (fun ls hl => ?_)
          refine lv_goto (tgt := 20) hx hb dX12_printDay_79 (by decide) ?_
          exact ih v1_20 v2_20 (v3_20 + 1) _ _ _ _ hH (lv_sub hl [2, 3, 0, 4] rfl) hf
        · replace hf := (if_pos c18).symm.trans hf
          refine hl_aload_n hx hb dX12_printDay_70 rfl (lv_at hl 4 rfl) ?_
          refine lv_iload hx hb dX12_printDay_71 (lv_at hl 0 rfl) ?_
          obtain ⟨q19, hq19, hf⟩ := bnd hf
          refine hcV_v hx hb hml hown hts hKs hT hb0 hH (As := [.int (q12.1)]) (rest := []) (k_X12_printHearing l E K H.size o q12.1 q12.2 ho hq19) (gV m6_138 m6_140 ms_42 m1_1 m6_141) hd_X12_printHearing ⟨Nat.le_of_ble_eq_true rfl, Nat.le_of_ble_eq_true rfl, rfl, rfl⟩ rfl ho rfl rfl rfl hl.1 rfl rc0 rfl dX12_printDay_73 ⟨Nat.le_of_ble_eq_true rfl, Nat.le_of_ble_eq_true rfl⟩ (fun H locs hH => ?_)
          refine lv_iinc (v := (v3_20 + 1)) (lv' := [(3, .int ((v3_20 + 1))), (4, .int (q12.1)), (1, .int v1_20), (2, .int v2_20), (0, rv E (some o))]) hx hb dX12_printDay_76 hl (k := 3) rfl rfl (by decide) rfl (fun ls hl => ?_)
          refine lv_goto (tgt := 20) hx hb dX12_printDay_79 (by decide) ?_
          exact ih v1_20 v2_20 (v3_20 + 1) _ _ _ _ hH (lv_sub hl [2, 3, 0, 4] rfl) hf
set_option maxHeartbeats 4000000 in
set_option maxRecDepth 100000 in
theorem l_X12_printDay_L12 (C : CX p l e s m args meth c cX12_printDay 5 RX12 (Option.some Jvm.ClassFile.FieldType.int) E) {o : Nat} (ho : K o = some (10, 0)) {r : Int32 ⊕ Nat} {w' : Wd} (k : Int32 → Int32 → Wd → Option ((Int32 ⊕ Nat) × Wd)) (hk : ∀ (v1_12 : Int32) (v2_12 : Int32) (w : Wd) (H : Heap) (locs : List Loc) (ls : Array Slot), HQ E K z w s H locs → lv_has ls 5 [(1, .int v1_12), (2, .int v2_12), (0, rv E (some o))] → k v1_12 v2_12 w = some (r, w') → W p l e ({ frames := 7, cells := 1, slots := 6, locals := 111 } : Room) s m args below meth c H locs 1 6 (vx_MQ below (XI E K z w' r) (XX E K w' r) args s 1 6 (hA E)) (F0 m 88 ls [])) : ∀ (n : Nat) (v1_12 : Int32) (v2_12 : Int32) (w : Wd) (H : Heap) (locs : List Loc) (ls : Array Slot), HQ E K z w s H locs → lv_has ls 5 [(1, .int v1_12), (2, .int v2_12), (0, rv E (some o))] → f_X12_printDay_L12 K o k n v1_12 v2_12 w = some (r, w') → W p l e ({ frames := 7, cells := 1, slots := 6, locals := 111 } : Room) s m args below meth c H locs 1 6 (vx_MQ below (XI E K z w' r) (XX E K w' r) args s 1 6 (hA E)) (F0 m 12 ls []) := by
  obtain ⟨hx, hb, hml, hown, hts, hKs, hT, hb0, hlocks, hret⟩ := id C
  intro n
  induction n with
  | zero =>
    intro v1_12 v2_12 w H locs ls hH hl hf
    cases hf
  | succ n ih =>
    intro v1_12 v2_12 w H locs ls hH hl hf
    rw [f_X12_printDay_L12] at hf
    refine lv_iload_n hx hb dX12_printDay_12 rfl (lv_at hl 1 rfl) ?_
    refine lv_bipush (v := 8) hx hb dX12_printDay_13 (by decide) ?_
    refine lv_icmp_ge (tgt := 88) hx hb dX12_printDay_15 (by decide) (fun c5 => ?_) (fun c5 => ?_)
    · replace hf := (if_pos c5).symm.trans hf
      exact hk v1_12 v2_12 _ _ _ _ hH (lv_sub hl [0, 1, 2] rfl) hf
    · replace hf := (if_neg c5).symm.trans hf
      refine lv_iconst (v := 0) hx hb dX12_printDay_18 (by decide) ?_
      refine lv_istore_n (i := 3) (lv' := [(3, .int 0), (1, .int v1_12), (2, .int v2_12), (0, rv E (some o))]) hx hb dX12_printDay_19 rfl hl (by decide) rfl (fun ls hl => ?_)
      refine l_X12_printDay_L20  C ho _ (fun v1_20 v2_20 v3_20 w6 H locs ls hH hl hf => ?_) fu v1_12 v2_12 0 w _ _ _ hH (lv_sub hl [1, 2, 0, 3] rfl) hf
      refine lv_iinc (v := (v2_20 + 1)) (lv' := [(2, .int ((v2_20 + 1))), (1, .int v1_20), (3, .int v3_20), (0, rv E (some o))]) hx hb dX12_printDay_82 hl (k := 1) rfl rfl (by decide) rfl (fun ls hl => ?_)
      refine lv_goto (tgt := 12) hx hb dX12_printDay_85 (by decide) ?_
      exact ih v1_20 (v2_20 + 1) _ _ _ _ hH (lv_sub hl [1, 0, 3] rfl) hf
set_option maxHeartbeats 4000000 in
set_option maxRecDepth 100000 in
theorem k_X12_printDay (l : Launch) (hls : l.stackTraces = false) (E : Ev) (K : Kd) (z : Nat) (o : Nat) (a_1 : Int32) (w : Wd) (ho : K o = some (10, 0)) {r : Int32 ⊕ Nat} {w' : Wd} (hf : f_X12_printDay K o a_1 w = some (r, w')) : vx_Met l yX12_printDay (Cond.code yX12_printDay cX12_printDay 5 (Option.some Jvm.ClassFile.FieldType.int) :: bt) ({ frames := 7, cells := 1, slots := 6, locals := 111 } : Room) (va_Pc [rv E (some o), .int a_1] (HB E K w z)) (XI E K z w' r) (XX E K w' r) 1 6 (hA E) := by
  refine vx_ofW (cc := cX12_printDay) (maxL := 5) (ret := (Option.some Jvm.ClassFile.FieldType.int)) (by decide) rfl ?_
  intro p e s m args below meth c s₁ B hml hout hv
  obtain ⟨rfl, hz, hP, hKs, hT, hb0⟩ := hv
  have C : CX p l e s m _ meth c cX12_printDay 5 RX12 (Option.some Jvm.ClassFile.FieldType.int) E := ⟨B.exec, B.bytes, hml, findClass_of_methodNamed B.named, fun w h => atoms_spec (ws := Cond.code yX12_printDay cX12_printDay 5 (Option.some Jvm.ClassFile.FieldType.int) :: bt) B.pre w (List.mem_cons_of_mem _ h), hKs, hT, by rw [hz]; exact hb0, B.notSynchronized, B.returns⟩
  have hH : HQ E K z w s s.heap [] := ⟨hP, va_S.rf, hz⟩
  obtain ⟨hx, hb, hml, hown, hts, hKs, hT, hb0, hlocks, hret⟩ := id C
  have hl := lv_entry [rv E (some o), .int a_1] (n := 5) (by simp [lg_len_nil, lg_len_i, lg_len_j, lg_len_q, lg_len_f, lg_len_d, lg_len_r])
  rw [lg_entry_eq]
  generalize (lg_sl [rv E (some o), .int a_1] ++ List.replicate (5 - (lg_sl [rv E (some o), .int a_1]).length) Slot.unset).toArray = ls at hl ⊢
  replace hl : lv_has ls 5 [(0, rv E (some o)), (1, .int a_1)] := by simpa only [lv_args, cat_q, cat_i, cat_j, reduceIte, Nat.reduceEqDiff, Nat.reduceAdd, Nat.zero_add] using hl
  generalize s.heap = H at hH ⊢
  unfold f_X12_printDay at hf
  refine hl_aload_n hx hb dX12_printDay_0 rfl (lv_at hl 0 rfl) ?_
  refine lv_iload_n hx hb dX12_printDay_1 rfl (lv_at hl 1 rfl) ?_
  obtain ⟨q1, hq1, hf⟩ := bnd hf
  refine hxV_v hx hb hml hown hts hKs hT hb0 hH (As := [.int a_1]) (rest := []) (k_X12_requireDay l hls E K H.size o a_1 w ho hq1) (gV m5_54 m5_56 ms_33 m1_1 m5_57) hd_X12_requireDay ⟨Nat.le_of_ble_eq_true rfl, Nat.le_of_ble_eq_true rfl, rfl, rfl⟩ rfl ho rfl rfl rfl hl.1 rfl rc0 rfl dX12_printDay_2 ⟨Nat.le_of_ble_eq_true rfl, Nat.le_of_ble_eq_true rfl⟩ ⟨Nat.le_of_ble_eq_true rfl, Nat.le_of_ble_eq_true rfl⟩ hout hlocks (fun x hx9 => (fun h9 => ⟨(congrArg Prod.fst h9).symm, (congrArg Prod.snd h9).symm⟩) (Option.some.inj ((xk_inr hx9).symm.trans hf))) (fun v2 hv2 H locs hH => ?_)
  replace hf := (xk_inl hv2).symm.trans hf
  refine hl_aload_n hx hb dX12_printDay_5 rfl (lv_at hl 0 rfl) ?_
  refine lv_iconst (v := 0) hx hb dX12_printDay_6 (by decide) ?_
  obtain ⟨w3, hw3, hf⟩ := bnd hf
  replace hw3 := Option.some.inj hw3
  refine p12_15 (v := 0) hx hb hts hown hKs hH rfl ho m2_234 dX12_printDay_7 (fun H locs hH => ?_)
  rw [hw3] at hH
  refine lv_iconst (v := 0) hx hb dX12_printDay_10 (by decide) ?_
  refine lv_istore_n (i := 2) (lv' := [(2, .int 0), (0, rv E (some o)), (1, .int a_1)]) hx hb dX12_printDay_11 rfl hl (by decide) rfl (fun ls hl => ?_)
  refine l_X12_printDay_L12  C ho _ (fun v1_12 v2_12 w4 H locs ls hH hl hf => ?_) fu a_1 0 w3 _ _ _ hH (lv_sub hl [2, 0, 1] rfl) hf
  refine hl_aload_n hx hb dX12_printDay_88 rfl (lv_at hl 2 rfl) ?_
  refine g12_15 hx hb hts hown hKs hH rfl ho m2_234 dX12_printDay_89 ?_
  exact hx_iret hx hb (Nat.le_of_ble_eq_true rfl) (Nat.le_of_ble_eq_true rfl) hret hf hH hlocks dX12_printDay_92

theorem dX13_wordHere_0 : decode cX13_wordHere 0 = .ok (.iconst 0, 1) := by decide +kernel
theorem dX13_wordHere_1 : decode cX13_wordHere 1 = .ok (.istore_n 1, 1) := by decide +kernel
theorem dX13_wordHere_2 : decode cX13_wordHere 2 = .ok (.iconst 0, 1) := by decide +kernel
theorem dX13_wordHere_3 : decode cX13_wordHere 3 = .ok (.istore_n 2, 1) := by decide +kernel
theorem dX13_wordHere_4 : decode cX13_wordHere 4 = .ok (.iload_n 2, 1) := by decide +kernel
theorem dX13_wordHere_5 : decode cX13_wordHere 5 = .ok (.ldc_w 366, 3) := by decide +kernel
theorem dX13_wordHere_8 : decode cX13_wordHere 8 = .ok (.invokevirtual 368, 3) := by decide +kernel
theorem dX13_wordHere_11 : decode cX13_wordHere 11 = .ok (.if_icmp .ge 121, 3) := by decide +kernel
theorem dX13_wordHere_14 : decode cX13_wordHere 14 = .ok (.iconst 0, 1) := by decide +kernel
theorem dX13_wordHere_15 : decode cX13_wordHere 15 = .ok (.istore_n 3, 1) := by decide +kernel
theorem dX13_wordHere_16 : decode cX13_wordHere 16 = .ok (.ldc_w 366, 3) := by decide +kernel
theorem dX13_wordHere_19 : decode cX13_wordHere 19 = .ok (.iload_n 2, 1) := by decide +kernel
theorem dX13_wordHere_20 : decode cX13_wordHere 20 = .ok (.iload_n 3, 1) := by decide +kernel
theorem dX13_wordHere_21 : decode cX13_wordHere 21 = .ok (.iadd, 1) := by decide +kernel
theorem dX13_wordHere_22 : decode cX13_wordHere 22 = .ok (.invokevirtual 372, 3) := by decide +kernel
theorem dX13_wordHere_25 : decode cX13_wordHere 25 = .ok (.bipush 32, 2) := by decide +kernel
theorem dX13_wordHere_27 : decode cX13_wordHere 27 = .ok (.if_icmp .eq 46, 3) := by decide +kernel
theorem dX13_wordHere_30 : decode cX13_wordHere 30 = .ok (.aload_n 0, 1) := by decide +kernel
theorem dX13_wordHere_31 : decode cX13_wordHere 31 = .ok (.getfield 343, 3) := by decide +kernel
theorem dX13_wordHere_34 : decode cX13_wordHere 34 = .ok (.iload_n 3, 1) := by decide +kernel
theorem dX13_wordHere_35 : decode cX13_wordHere 35 = .ok (.iadd, 1) := by decide +kernel
theorem dX13_wordHere_36 : decode cX13_wordHere 36 = .ok (.aload_n 0, 1) := by decide +kernel
theorem dX13_wordHere_37 : decode cX13_wordHere 37 = .ok (.getfield 337, 3) := by decide +kernel
theorem dX13_wordHere_40 : decode cX13_wordHere 40 = .ok (.if_icmp .ge 33, 3) := by decide +kernel
theorem dX13_wordHere_43 : decode cX13_wordHere 43 = .ok (.aload_n 0, 1) := by decide +kernel
theorem dX13_wordHere_44 : decode cX13_wordHere 44 = .ok (.getfield 61, 3) := by decide +kernel
theorem dX13_wordHere_47 : decode cX13_wordHere 47 = .ok (.aload_n 0, 1) := by decide +kernel
theorem dX13_wordHere_48 : decode cX13_wordHere 48 = .ok (.getfield 343, 3) := by decide +kernel
theorem dX13_wordHere_51 : decode cX13_wordHere 51 = .ok (.iload_n 3, 1) := by decide +kernel
theorem dX13_wordHere_52 : decode cX13_wordHere 52 = .ok (.iadd, 1) := by decide +kernel
theorem dX13_wordHere_53 : decode cX13_wordHere 53 = .ok (.baload, 1) := by decide +kernel
theorem dX13_wordHere_54 : decode cX13_wordHere 54 = .ok (.ldc_w 366, 3) := by decide +kernel
theorem dX13_wordHere_57 : decode cX13_wordHere 57 = .ok (.iload_n 2, 1) := by decide +kernel
theorem dX13_wordHere_58 : decode cX13_wordHere 58 = .ok (.iload_n 3, 1) := by decide +kernel
theorem dX13_wordHere_59 : decode cX13_wordHere 59 = .ok (.iadd, 1) := by decide +kernel
theorem dX13_wordHere_60 : decode cX13_wordHere 60 = .ok (.invokevirtual 372, 3) := by decide +kernel
theorem dX13_wordHere_63 : decode cX13_wordHere 63 = .ok (.if_icmp .ne 10, 3) := by decide +kernel
theorem dX13_wordHere_66 : decode cX13_wordHere 66 = .ok (.iload_n 3, 1) := by decide +kernel
theorem dX13_wordHere_67 : decode cX13_wordHere 67 = .ok (.iconst 1, 1) := by decide +kernel
theorem dX13_wordHere_68 : decode cX13_wordHere 68 = .ok (.iadd, 1) := by decide +kernel
theorem dX13_wordHere_69 : decode cX13_wordHere 69 = .ok (.istore_n 3, 1) := by decide +kernel
theorem dX13_wordHere_70 : decode cX13_wordHere 70 = .ok (.goto (-54), 3) := by decide +kernel
theorem dX13_wordHere_73 : decode cX13_wordHere 73 = .ok (.ldc_w 366, 3) := by decide +kernel
theorem dX13_wordHere_76 : decode cX13_wordHere 76 = .ok (.iload_n 2, 1) := by decide +kernel
theorem dX13_wordHere_77 : decode cX13_wordHere 77 = .ok (.iload_n 3, 1) := by decide +kernel
theorem dX13_wordHere_78 : decode cX13_wordHere 78 = .ok (.iadd, 1) := by decide +kernel
theorem dX13_wordHere_79 : decode cX13_wordHere 79 = .ok (.invokevirtual 372, 3) := by decide +kernel
theorem dX13_wordHere_82 : decode cX13_wordHere 82 = .ok (.bipush 32, 2) := by decide +kernel
theorem dX13_wordHere_84 : decode cX13_wordHere 84 = .ok (.if_icmp .ne 18, 3) := by decide +kernel
theorem dX13_wordHere_87 : decode cX13_wordHere 87 = .ok (.aload_n 0, 1) := by decide +kernel
theorem dX13_wordHere_88 : decode cX13_wordHere 88 = .ok (.getfield 343, 3) := by decide +kernel
theorem dX13_wordHere_91 : decode cX13_wordHere 91 = .ok (.iload_n 3, 1) := by decide +kernel
theorem dX13_wordHere_92 : decode cX13_wordHere 92 = .ok (.iadd, 1) := by decide +kernel
theorem dX13_wordHere_93 : decode cX13_wordHere 93 = .ok (.aload_n 0, 1) := by decide +kernel
theorem dX13_wordHere_94 : decode cX13_wordHere 94 = .ok (.getfield 337, 3) := by decide +kernel
theorem dX13_wordHere_97 : decode cX13_wordHere 97 = .ok (.if_icmp .ne 5, 3) := by decide +kernel
theorem dX13_wordHere_100 : decode cX13_wordHere 100 = .ok (.iload_n 1, 1) := by decide +kernel
theorem dX13_wordHere_101 : decode cX13_wordHere 101 = .ok (.ireturn, 1) := by decide +kernel
theorem dX13_wordHere_102 : decode cX13_wordHere 102 = .ok (.ldc_w 366, 3) := by decide +kernel
theorem dX13_wordHere_105 : decode cX13_wordHere 105 = .ok (.iload_n 2, 1) := by decide +kernel
theorem dX13_wordHere_106 : decode cX13_wordHere 106 = .ok (.invokevirtual 372, 3) := by decide +kernel
theorem dX13_wordHere_109 : decode cX13_wordHere 109 = .ok (.bipush 32, 2) := by decide +kernel
theorem dX13_wordHere_111 : decode cX13_wordHere 111 = .ok (.if_icmp .eq 10, 3) := by decide +kernel
theorem dX13_wordHere_114 : decode cX13_wordHere 114 = .ok (.iload_n 2, 1) := by decide +kernel
theorem dX13_wordHere_115 : decode cX13_wordHere 115 = .ok (.iconst 1, 1) := by decide +kernel
theorem dX13_wordHere_116 : decode cX13_wordHere 116 = .ok (.iadd, 1) := by decide +kernel
theorem dX13_wordHere_117 : decode cX13_wordHere 117 = .ok (.istore_n 2, 1) := by decide +kernel
theorem dX13_wordHere_118 : decode cX13_wordHere 118 = .ok (.goto (-16), 3) := by decide +kernel
theorem dX13_wordHere_121 : decode cX13_wordHere 121 = .ok (.iload_n 2, 1) := by decide +kernel
theorem dX13_wordHere_122 : decode cX13_wordHere 122 = .ok (.iconst 1, 1) := by decide +kernel
theorem dX13_wordHere_123 : decode cX13_wordHere 123 = .ok (.iadd, 1) := by decide +kernel
theorem dX13_wordHere_124 : decode cX13_wordHere 124 = .ok (.istore_n 2, 1) := by decide +kernel
theorem dX13_wordHere_125 : decode cX13_wordHere 125 = .ok (.iload_n 1, 1) := by decide +kernel
theorem dX13_wordHere_126 : decode cX13_wordHere 126 = .ok (.iconst 1, 1) := by decide +kernel
theorem dX13_wordHere_127 : decode cX13_wordHere 127 = .ok (.iadd, 1) := by decide +kernel
theorem dX13_wordHere_128 : decode cX13_wordHere 128 = .ok (.istore_n 1, 1) := by decide +kernel
theorem dX13_wordHere_129 : decode cX13_wordHere 129 = .ok (.goto (-125), 3) := by decide +kernel
theorem dX13_wordHere_132 : decode cX13_wordHere 132 = .ok (.iconst (-1), 1) := by decide +kernel
theorem dX13_wordHere_133 : decode cX13_wordHere 133 = .ok (.ireturn, 1) := by decide +kernel
theorem hd_X13_wordHere : yX13_wordHere.cls = RX13 ∧ yX13_wordHere.cls ≠ "java/lang/invoke/MethodHandle" ∧ yX13_wordHere.cls ≠ "java/lang/invoke/VarHandle" ∧ (parseMethodDescriptor yX13_wordHere.desc).map (fun d => d.parameters.length) = some 0 := by decide +kernel
theorem hs_X13_wordHere : yX13_wordHere.cls ≠ "java/lang/invoke/MethodHandle" ∧ yX13_wordHere.cls ≠ "java/lang/invoke/VarHandle" ∧ (parseMethodDescriptor yX13_wordHere.desc).map (fun d => d.parameters.length) = some 0 := by decide +kernel
set_option maxHeartbeats 4000000 in
set_option maxRecDepth 100000 in
theorem l_X13_wordHere_L16 (C : CX p l e s m args meth c cX13_wordHere 4 RX13 (Option.some Jvm.ClassFile.FieldType.int) E) {o : Nat} (ho : K o = some (11, 0)) {r : Int32} {w' : Wd} (k : Int32 → Int32 → Int32 → Wd → Option (Int32 × Wd)) (hk : ∀ (v1_16 : Int32) (v2_16 : Int32) (v3_16 : Int32) (w : Wd) (H : Heap) (locs : List Loc) (ls : Array Slot), HQ E K z w s H locs → lv_has ls 4 [(1, .int v1_16), (2, .int v2_16), (3, .int v3_16), (0, rv E (some o))] → k v1_16 v2_16 v3_16 w = some (r, w') → W p l e ({ frames := 4, cells := 0, slots := 0, locals := 85 } : Room) s m args below meth c H locs 0 0 (MQ below (QI E K z w' r) args s 0 0 (hA E)) (F0 m 73 ls [])) : ∀ (n : Nat) (v1_16 : Int32) (v2_16 : Int32) (v3_16 : Int32) (w : Wd) (H : Heap) (locs : List Loc) (ls : Array Slot), HQ E K z w s H locs → lv_has ls 4 [(1, .int v1_16), (2, .int v2_16), (3, .int v3_16), (0, rv E (some o))] → f_X13_wordHere_L16 K o k n v1_16 v2_16 v3_16 w = some (r, w') → W p l e ({ frames := 4, cells := 0, slots := 0, locals := 85 } : Room) s m args below meth c H locs 0 0 (MQ below (QI E K z w' r) args s 0 0 (hA E)) (F0 m 16 ls []) := by
  obtain ⟨hx, hb, hml, hown, hts, hKs, hT, hb0, hlocks, hret⟩ := id C
  intro n
  induction n with
  | zero =>
    intro v1_16 v2_16 v3_16 w H locs ls hH hl hf
    cases hf
  | succ n ih =>
    intro v1_16 v2_16 v3_16 w H locs ls hH hl hf
    rw [f_X13_wordHere_L16] at hf
    refine hw_ldcS hx hb hown hKs dX13_wordHere_16 ?_
    refine lv_iload_n hx hb dX13_wordHere_19 rfl (lv_at hl 1 rfl) ?_
    refine lv_iload_n hx hb dX13_wordHere_20 rfl (lv_at hl 2 rfl) ?_
    refine lv_iadd hx hb dX13_wordHere_21 ?_
    obtain ⟨q5, hq5, hf⟩ := bnd hf
    refine hcG_i hH (va_runV (As := [.int ((v2_16 + v3_16))]) (rest := []) ⟨hx, hb, hml, hown, hts⟩ (k_J0_charAt_5068e l E K H.size (v2_16 + v3_16) w hq5) (cwV _ hts (gV m9_6 m9_7 m9_8 m1_19 m9_9) rfl rfl rfl hd_J0_charAt_5068e ⟨Nat.le_of_ble_eq_true rfl, Nat.le_of_ble_eq_true rfl⟩) ⟨HB.blind, strRecv hT hH, HB.pre hKs hT hb0 hH⟩ rfl rfl hl.1 rfl (lv_room rc0) dX13_wordHere_22 ⟨Nat.zero_le _, Nat.zero_le _⟩) (fun H locs hH => ?_)
    refine lv_bipush (v := 32) hx hb dX13_wordHere_25 (by decide) ?_
    refine lv_icmp_eq (tgt := 73) hx hb dX13_wordHere_27 (by decide) (fun c6 => ?_) (fun c6 => ?_)
    · replace hf := (if_pos c6).symm.trans hf
      exact hk v1_16 v2_16 v3_16 _ _ _ _ hH (lv_sub hl [0, 1, 2, 3] rfl) hf
    · replace hf := (if_neg c6).symm.trans hf
      refine hl_aload_n hx hb dX13_wordHere_30 rfl (lv_at hl 3 rfl) ?_
      refine g13_27 hx hb hts hown hKs hH rfl ho m6_208 dX13_wordHere_31 ?_
      refine lv_iload_n hx hb dX13_wordHere_34 rfl (lv_at hl 2 rfl) ?_
      refine lv_iadd hx hb dX13_wordHere_35 ?_
      refine hl_aload_n hx hb dX13_wordHere_36 rfl (lv_at hl 3 rfl) ?_
      refine g13_26 hx hb hts hown hKs hH rfl ho m6_207 dX13_wordHere_37 ?_
      refine lv_icmp_ge (tgt := 73) hx hb dX13_wordHere_40 (by decide) (fun c7 => ?_) (fun c7 => ?_)
      · replace hf := (if_pos c7).symm.trans hf
        exact hk v1_16 v2_16 v3_16 _ _ _ _ hH (lv_sub hl [0, 1, 2, 3] rfl) hf
      · replace hf := (if_neg c7).symm.trans hf
        refine hl_aload_n hx hb dX13_wordHere_43 rfl (lv_at hl 3 rfl) ?_
        refine g13_23 hx hb hts hown hKs hH rfl ho m6_204 dX13_wordHere_44 ?_
        refine hl_aload_n hx hb dX13_wordHere_47 rfl (lv_at hl 3 rfl) ?_
        refine g13_27 hx hb hts hown hKs hH rfl ho m6_208 dX13_wordHere_48 ?_
        refine lv_iload_n hx hb dX13_wordHere_51 rfl (lv_at hl 2 rfl) ?_
        refine lv_iadd hx hb dX13_wordHere_52 ?_
        obtain ⟨a8, ha8, hf⟩ := bnd hf
        replace ha8 := cha_some ha8
        obtain ⟨j9, hj9, hf⟩ := bnd hf
        refine hw_bald hx hb hKs hH ha8.1 ha8.2 hj9 dX13_wordHere_53 ?_
        refine hw_ldcS hx hb hown hKs dX13_wordHere_54 ?_
        refine lv_iload_n hx hb dX13_wordHere_57 rfl (lv_at hl 1 rfl) ?_
        refine lv_iload_n hx hb dX13_wordHere_58 rfl (lv_at hl 2 rfl) ?_
        refine lv_iadd hx hb dX13_wordHere_59 ?_
        obtain ⟨q10, hq10, hf⟩ := bnd hf
        refine hcG_i hH (va_runV (As := [.int ((v2_16 + v3_16))]) (rest := [.int ((aI q5.2 a8.1 j9))]) ⟨hx, hb, hml, hown, hts⟩ (k_J0_charAt_5068e l E K H.size (v2_16 + v3_16) q5.2 hq10) (cwV _ hts (gV m9_6 m9_7 m9_8 m1_19 m9_9) rfl rfl rfl hd_J0_charAt_5068e ⟨Nat.le_of_ble_eq_true rfl, Nat.le_of_ble_eq_true rfl⟩) ⟨HB.blind, strRecv hT hH, HB.pre hKs hT hb0 hH⟩ rfl rfl hl.1 rfl (lv_room (rcI rc0)) dX13_wordHere_60 ⟨Nat.zero_le _, Nat.zero_le _⟩) (fun H locs hH => ?_)
        refine lv_icmp_ne (tgt := 73) hx hb dX13_wordHere_63 (by decide) (fun c11 => ?_) (fun c11 => ?_)
        · replace hf := (if_neg c11).symm.trans hf
          exact hk v1_16 v2_16 v3_16 _ _ _ _ hH (lv_sub hl [0, 1, 2, 3] rfl) hf
        · replace hf := (if_pos c11).symm.trans hf
          refine lv_iload_n hx hb dX13_wordHere_66 rfl (lv_at hl 2 rfl) ?_
          refine lv_iconst (v := 1) hx hb dX13_wordHere_67 (by decide) ?_
          refine lv_iadd hx hb dX13_wordHere_68 ?_
          refine lv_istore_n (i := 3) (lv' := [(3, .int ((v3_16 + 1))), (1, .int v1_16), (2, .int v2_16), (0, rv E (some o))]) hx hb dX13_wordHere_69 rfl hl (by decide) rfl (fun ls hl => ?_)
          refine lv_goto (tgt := 16) hx hb dX13_wordHere_70 (by decide) ?_
          exact ih v1_16 v2_16 (v3_16 + 1) _ _ _ _ hH (lv_sub hl [1, 2, 0, 3] rfl) hf
set_option maxHeartbeats 4000000 in
set_option maxRecDepth 100000 in
theorem l_X13_wordHere_L102 (C : CX p l e s m args meth c cX13_wordHere 4 RX13 (Option.some Jvm.ClassFile.FieldType.int) E) {o : Nat} (ho : K o = some (11, 0)) {r : Int32} {w' : Wd} (k : Int32 → Int32 → Int32 → Wd → Option (Int32 × Wd)) (hk : ∀ (v1_102 : Int32) (v2_102 : Int32) (v3_102 : Int32) (w : Wd) (H : Heap) (locs : List Loc) (ls : Array Slot), HQ E K z w s H locs → lv_has ls 4 [(1, .int v1_102), (2, .int v2_102), (3, .int v3_102), (0, rv E (some o))] → k v1_102 v2_102 v3_102 w = some (r, w') → W p l e ({ frames := 4, cells := 0, slots := 0, locals := 85 } : Room) s m args below meth c H locs 0 0 (MQ below (QI E K z w' r) args s 0 0 (hA E)) (F0 m 121 ls [])) : ∀ (n : Nat) (v1_102 : Int32) (v2_102 : Int32) (v3_102 : Int32) (w : Wd) (H : Heap) (locs : List Loc) (ls : Array Slot), HQ E K z w s H locs → lv_has ls 4 [(1, .int v1_102), (2, .int v2_102), (3, .int v3_102), (0, rv E (some o))] → f_X13_wordHere_L102 K o k n v1_102 v2_102 v3_102 w = some (r, w') → W p l e ({ frames := 4, cells := 0, slots := 0, locals := 85 } : Room) s m args below meth c H locs 0 0 (MQ below (QI E K z w' r) args s 0 0 (hA E)) (F0 m 102 ls []) := by
  obtain ⟨hx, hb, hml, hown, hts, hKs, hT, hb0, hlocks, hret⟩ := id C
  intro n
  induction n with
  | zero =>
    intro v1_102 v2_102 v3_102 w H locs ls hH hl hf
    cases hf
  | succ n ih =>
    intro v1_102 v2_102 v3_102 w H locs ls hH hl hf
    rw [f_X13_wordHere_L102] at hf
    refine hw_ldcS hx hb hown hKs dX13_wordHere_102 ?_
    refine lv_iload_n hx hb dX13_wordHere_105 rfl (lv_at hl 1 rfl) ?_
    obtain ⟨q15, hq15, hf⟩ := bnd hf
    refine hcG_i hH (va_runV (As := [.int v2_102]) (rest := []) ⟨hx, hb, hml, hown, hts⟩ (k_J0_charAt_5068e l E K H.size v2_102 w hq15) (cwV _ hts (gV m9_6 m9_7 m9_8 m1_19 m9_9) rfl rfl rfl hd_J0_charAt_5068e ⟨Nat.le_of_ble_eq_true rfl, Nat.le_of_ble_eq_true rfl⟩) ⟨HB.blind, strRecv hT hH, HB.pre hKs hT hb0 hH⟩ rfl rfl hl.1 rfl (lv_room rc0) dX13_wordHere_106 ⟨Nat.zero_le _, Nat.zero_le _⟩) (fun H locs hH => ?_)
    refine lv_bipush (v := 32) hx hb dX13_wordHere_109 (by decide) ?_
    refine lv_icmp_eq (tgt := 121) hx hb dX13_wordHere_111 (by decide) (fun c16 => ?_) (fun c16 => ?_)
    · replace hf := (if_pos c16).symm.trans hf
      exact hk v1_102 v2_102 v3_102 _ _ _ _ hH (lv_sub hl [0, 1, 2, 3] rfl) hf
    · replace hf := (if_neg c16).symm.trans hf
      refine lv_iload_n hx hb dX13_wordHere_114 rfl (lv_at hl 1 rfl) ?_
      refine lv_iconst (v := 1) hx hb dX13_wordHere_115 (by decide) ?_
      refine lv_iadd hx hb dX13_wordHere_116 ?_
      refine lv_istore_n (i := 2) (lv' := [(2, .int ((v2_102 + 1))), (1, .int v1_102), (3, .int v3_102), (0, rv E (some o))]) hx hb dX13_wordHere_117 rfl hl (by decide) rfl (fun ls hl => ?_)
      refine lv_goto (tgt := 102) hx hb dX13_wordHere_118 (by decide) ?_
      exact ih v1_102 (v2_102 + 1) v3_102 _ _ _ _ hH (lv_sub hl [1, 0, 2, 3] rfl) hf
set_option maxHeartbeats 4000000 in
set_option maxRecDepth 100000 in
theorem l_X13_wordHere_L4 (C : CX p l e s m args meth c cX13_wordHere 4 RX13 (Option.some Jvm.ClassFile.FieldType.int) E) {o : Nat} (ho : K o = some (11, 0)) {r : Int32} {w' : Wd} (k : Int32 → Int32 → Wd → Option (Int32 × Wd)) (hk : ∀ (v1_4 : Int32) (v2_4 : Int32) (w : Wd) (H : Heap) (locs : List Loc) (ls : Array Slot), HQ E K z w s H locs → lv_has ls 4 [(1, .int v1_4), (2, .int v2_4), (0, rv E (some o))] → k v1_4 v2_4 w = some (r, w') → W p l e ({ frames := 4, cells := 0, slots := 0, locals := 85 } : Room) s m args below meth c H locs 0 0 (MQ below (QI E K z w' r) args s 0 0 (hA E)) (F0 m 132 ls [])) : ∀ (n : Nat) (v1_4 : Int32) (v2_4 : Int32) (w : Wd) (H : Heap) (locs : List Loc) (ls : Array Slot), HQ E K z w s H locs → lv_has ls 4 [(1, .int v1_4), (2, .int v2_4), (0, rv E (some o))] → f_X13_wordHere_L4 K o k n v1_4 v2_4 w = some (r, w') → W p l e ({ frames := 4, cells := 0, slots := 0, locals := 85 } : Room) s m args below meth c H locs 0 0 (MQ below (QI E K z w' r) args s 0 0 (hA E)) (F0 m 4 ls []) := by
  obtain ⟨hx, hb, hml, hown, hts, hKs, hT, hb0, hlocks, hret⟩ := id C
  intro n
  induction n with
  | zero =>
    intro v1_4 v2_4 w H locs ls hH hl hf
    cases hf
  | succ n ih =>
    intro v1_4 v2_4 w H locs ls hH hl hf
    rw [f_X13_wordHere_L4] at hf
    refine lv_iload_n hx hb dX13_wordHere_4 rfl (lv_at hl 1 rfl) ?_
    refine hw_ldcS hx hb hown hKs dX13_wordHere_5 ?_
    obtain ⟨q2, hq2, hf⟩ := bnd hf
    refine hcG_i hH (va_runV (As := []) (rest := [.int v2_4]) ⟨hx, hb, hml, hown, hts⟩ (k_J0_length_8abf5 l E K H.size w hq2) (cwV _ hts (gV m8_236 m8_237 m8_238 m1_19 m8_239) rfl rfl rfl hd_J0_length_8abf5 ⟨Nat.le_of_ble_eq_true rfl, Nat.le_of_ble_eq_true rfl⟩) ⟨HB.blind, strRecv hT hH, HB.pre hKs hT hb0 hH⟩ rfl rfl hl.1 rfl (lv_room (rcI rc0)) dX13_wordHere_8 ⟨Nat.zero_le _, Nat.zero_le _⟩) (fun H locs hH => ?_)
    refine lv_icmp_ge (tgt := 132) hx hb dX13_wordHere_11 (by decide) (fun c3 => ?_) (fun c3 => ?_)
    · replace hf := (if_pos c3).symm.trans hf
      exact hk v1_4 v2_4 _ _ _ _ hH (lv_sub hl [0, 1, 2] rfl) hf
    · replace hf := (if_neg c3).symm.trans hf
      refine lv_iconst (v := 0) hx hb dX13_wordHere_14 (by decide) ?_
      refine lv_istore_n (i := 3) (lv' := [(3, .int 0), (1, .int v1_4), (2, .int v2_4), (0, rv E (some o))]) hx hb dX13_wordHere_15 rfl hl (by decide) rfl (fun ls hl => ?_)
      refine l_X13_wordHere_L16  C ho _ (fun v1_16 v2_16 v3_16 w4 H locs ls hH hl hf => ?_) fu v1_4 v2_4 0 q2.2 _ _ _ hH (lv_sub hl [1, 2, 0, 3] rfl) hf
      refine hw_ldcS hx hb hown hKs dX13_wordHere_73 ?_
      refine lv_iload_n hx hb dX13_wordHere_76 rfl (lv_at hl 1 rfl) ?_
      refine lv_iload_n hx hb dX13_wordHere_77 rfl (lv_at hl 2 rfl) ?_
      refine lv_iadd hx hb dX13_wordHere_78 ?_
      obtain ⟨q12, hq12, hf⟩ := bnd hf
      refine hcG_i hH (va_runV (As := [.int ((v2_16 + v3_16))]) (rest := []) ⟨hx, hb, hml, hown, hts⟩ (k_J0_charAt_5068e l E K H.size (v2_16 + v3_16) w4 hq12) (cwV _ hts (gV m9_6 m9_7 m9_8 m1_19 m9_9) rfl rfl rfl hd_J0_charAt_5068e ⟨Nat.le_of_ble_eq_true rfl, Nat.le_of_ble_eq_true rfl⟩) ⟨HB.blind, strRecv hT hH, HB.pre hKs hT hb0 hH⟩ rfl rfl hl.1 rfl (lv_room rc0) dX13_wordHere_79 ⟨Nat.zero_le _, Nat.zero_le _⟩) (fun H locs hH => ?_)
      refine lv_bipush (v := 32) hx hb dX13_wordHere_82 (by decide) ?_
      refine lv_icmp_ne (tgt := 102) hx hb dX13_wordHere_84 (by decide) (fun c13 => ?_) (fun c13 => ?_)
      · replace hf := (if_neg c13).symm.trans hf
        refine l_X13_wordHere_L102  C ho _ (fun v1_102 v2_102 v3_102 w14 H locs ls hH hl hf => ?_) fu v1_16 v2_16 v3_16 q12.2 _ _ _ hH (lv_sub hl [0, 1, 2, 3] rfl) hf
        refine lv_iload_n hx hb dX13_wordHere_121 rfl (lv_at hl 1 rfl) ?_
        refine lv_iconst (v := 1) hx hb dX13_wordHere_122 (by decide) ?_
        refine lv_iadd hx hb dX13_wordHere_123 ?_
        refine lv_istore_n (i := 2) (lv' := [(2, .int ((v2_102 + 1))), (1, .int v1_102), (3, .int v3_102), (0, rv E (some o))]) hx hb dX13_wordHere_124 rfl hl (by decide) rfl (fun ls hl => ?_)
        refine lv_iload_n hx hb dX13_wordHere_125 rfl (lv_at hl 1 rfl) ?_
        refine lv_iconst (v := 1) hx hb dX13_wordHere_126 (by decide) ?_
        refine lv_iadd hx hb dX13_wordHere_127 ?_
        refine lv_istore_n (i := 1) (lv' := [(1, .int ((v1_102 + 1))), (2, .int ((v2_102 + 1))), (3, .int v3_102), (0, rv E (some o))]) hx hb dX13_wordHere_128 rfl hl (by decide) rfl (fun ls hl => ?_)
        refine lv_goto (tgt := 4) hx hb dX13_wordHere_129 (by decide) ?_
        exact ih (v1_102 + 1) (v2_102 + 1) _ _ _ _ hH (lv_sub hl [0, 1, 3] rfl) hf
      · replace hf := (if_pos c13).symm.trans hf
        refine hl_aload_n hx hb dX13_wordHere_87 rfl (lv_at hl 3 rfl) ?_
        refine g13_27 hx hb hts hown hKs hH rfl ho m6_208 dX13_wordHere_88 ?_
        refine lv_iload_n hx hb dX13_wordHere_91 rfl (lv_at hl 2 rfl) ?_
        refine lv_iadd hx hb dX13_wordHere_92 ?_
        refine hl_aload_n hx hb dX13_wordHere_93 rfl (lv_at hl 3 rfl) ?_
        refine g13_26 hx hb hts hown hKs hH rfl ho m6_207 dX13_wordHere_94 ?_
        refine lv_icmp_ne (tgt := 102) hx hb dX13_wordHere_97 (by decide) (fun c17 => ?_) (fun c17 => ?_)
        · replace hf := (if_neg c17).symm.trans hf
          refine l_X13_wordHere_L102  C ho _ (fun v1_102 v2_102 v3_102 w18 H locs ls hH hl hf => ?_) fu v1_16 v2_16 v3_16 q12.2 _ _ _ hH (lv_sub hl [0, 1, 2, 3] rfl) hf
          refine lv_iload_n hx hb dX13_wordHere_121 rfl (lv_at hl 1 rfl) ?_
          refine lv_iconst (v := 1) hx hb dX13_wordHere_122 (by decide) ?_
          refine lv_iadd hx hb dX13_wordHere_123 ?_
          refine lv_istore_n (i := 2) (lv' := [(2, .int ((v2_102 + 1))), (1, .int v1_102), (3, .int v3_102), (0, rv E (some o))]) hx hb dX13_wordHere_124 rfl hl (by decide) rfl (fun ls hl => ?_)
          refine lv_iload_n hx hb dX13_wordHere_125 rfl (lv_at hl 1 rfl) ?_
          refine lv_iconst (v := 1) hx hb dX13_wordHere_126 (by decide) ?_
          refine lv_iadd hx hb dX13_wordHere_127 ?_
          refine lv_istore_n (i := 1) (lv' := [(1, .int ((v1_102 + 1))), (2, .int ((v2_102 + 1))), (3, .int v3_102), (0, rv E (some o))]) hx hb dX13_wordHere_128 rfl hl (by decide) rfl (fun ls hl => ?_)
          refine lv_goto (tgt := 4) hx hb dX13_wordHere_129 (by decide) ?_
          exact ih (v1_102 + 1) (v2_102 + 1) _ _ _ _ hH (lv_sub hl [0, 1, 3] rfl) hf
        · replace hf := (if_pos c17).symm.trans hf
          refine lv_iload_n hx hb dX13_wordHere_100 rfl (lv_at hl 0 rfl) ?_
          exact hw_iret hx hb hret hf hH hlocks dX13_wordHere_101
set_option maxHeartbeats 4000000 in
set_option maxRecDepth 100000 in
theorem k_X13_wordHere (l : Launch) (E : Ev) (K : Kd) (z : Nat) (o : Nat) (w : Wd) (ho : K o = some (11, 0)) {r : Int32} {w' : Wd} (hf : f_X13_wordHere K o w = some (r, w')) : Met l yX13_wordHere (Cond.code yX13_wordHere cX13_wordHere 4 (Option.some Jvm.ClassFile.FieldType.int) :: bt) ({ frames := 4, cells := 0, slots := 0, locals := 85 } : Room) (va_Pc [rv E (some o)] (HB E K w z)) (QI E K z w' r) 0 0 (hA E) := by
  refine Met.ofW (cc := cX13_wordHere) (maxL := 4) (ret := (Option.some Jvm.ClassFile.FieldType.int)) (by decide) rfl ?_
  intro p e s m args below meth c s₁ B hml hv
  obtain ⟨rfl, hz, hP, hKs, hT, hb0⟩ := hv
  have C : CX p l e s m _ meth c cX13_wordHere 4 RX13 (Option.some Jvm.ClassFile.FieldType.int) E := ⟨B.exec, B.bytes, hml, findClass_of_methodNamed B.named, fun w h => atoms_spec (ws := Cond.code yX13_wordHere cX13_wordHere 4 (Option.some Jvm.ClassFile.FieldType.int) :: bt) B.pre w (List.mem_cons_of_mem _ h), hKs, hT, by rw [hz]; exact hb0, B.notSynchronized, B.returns⟩
  have hH : HQ E K z w s s.heap [] := ⟨hP, va_S.rf, hz⟩
  obtain ⟨hx, hb, hml, hown, hts, hKs, hT, hb0, hlocks, hret⟩ := id C
  have hl := lv_entry [rv E (some o)] (n := 4) (by simp [lg_len_nil, lg_len_i, lg_len_j, lg_len_q, lg_len_f, lg_len_d, lg_len_r])
  rw [lg_entry_eq]
  generalize (lg_sl [rv E (some o)] ++ List.replicate (4 - (lg_sl [rv E (some o)]).length) Slot.unset).toArray = ls at hl ⊢
  replace hl : lv_has ls 4 [(0, rv E (some o))] := by simpa only [lv_args, cat_q, cat_i, cat_j, reduceIte, Nat.reduceEqDiff, Nat.reduceAdd, Nat.zero_add] using hl
  generalize s.heap = H at hH ⊢
  unfold f_X13_wordHere at hf
  refine lv_iconst (v := 0) hx hb dX13_wordHere_0 (by decide) ?_
  refine lv_istore_n (i := 1) (lv' := [(1, .int 0), (0, rv E (some o))]) hx hb dX13_wordHere_1 rfl hl (by decide) rfl (fun ls hl => ?_)
  refine lv_iconst (v := 0) hx hb dX13_wordHere_2 (by decide) ?_
  refine lv_istore_n (i := 2) (lv' := [(2, .int 0), (1, .int 0), (0, rv E (some o))]) hx hb dX13_wordHere_3 rfl hl (by decide) rfl (fun ls hl => ?_)
  refine l_X13_wordHere_L4  C ho _ (fun v1_4 v2_4 w1 H locs ls hH hl hf => ?_) fu 0 0 w _ _ _ hH (lv_sub hl [1, 0, 2] rfl) hf
  refine lv_iconst (v := (-1)) hx hb dX13_wordHere_132 (by decide) ?_
  exact hw_iret hx hb hret hf hH hlocks dX13_wordHere_133

theorem dX1_countFewest_0 : decode cX1_countFewest 0 = .ok (.aload_n 0, 1) := by decide +kernel
theorem dX1_countFewest_1 : decode cX1_countFewest 1 = .ok (.aload_n 1, 1) := by decide +kernel
theorem dX1_countFewest_2 : decode cX1_countFewest 2 = .ok (.invokevirtual 21, 3) := by decide +kernel
theorem dX1_countFewest_5 : decode cX1_countFewest 5 = .ok (.iconst 0, 1) := by decide +kernel
theorem dX1_countFewest_6 : decode cX1_countFewest 6 = .ok (.istore_n 2, 1) := by decide +kernel
theorem dX1_countFewest_7 : decode cX1_countFewest 7 = .ok (.iload_n 2, 1) := by decide +kernel
theorem dX1_countFewest_8 : decode cX1_countFewest 8 = .ok (.aload_n 0, 1) := by decide +kernel
theorem dX1_countFewest_9 : decode cX1_countFewest 9 = .ok (.getfield 25, 3) := by decide +kernel
theorem dX1_countFewest_12 : decode cX1_countFewest 12 = .ok (.if_icmp .gt 28, 3) := by decide +kernel
theorem dX1_countFewest_15 : decode cX1_countFewest 15 = .ok (.aload_n 0, 1) := by decide +kernel
theorem dX1_countFewest_16 : decode cX1_countFewest 16 = .ok (.iconst 0, 1) := by decide +kernel
theorem dX1_countFewest_17 : decode cX1_countFewest 17 = .ok (.aload_n 0, 1) := by decide +kernel
theorem dX1_countFewest_18 : decode cX1_countFewest 18 = .ok (.getfield 29, 3) := by decide +kernel
theorem dX1_countFewest_21 : decode cX1_countFewest 21 = .ok (.invokestatic 32, 3) := by decide +kernel
theorem dX1_countFewest_24 : decode cX1_countFewest 24 = .ok (.iconst 0, 1) := by decide +kernel
theorem dX1_countFewest_25 : decode cX1_countFewest 25 = .ok (.iload_n 2, 1) := by decide +kernel
theorem dX1_countFewest_26 : decode cX1_countFewest 26 = .ok (.invokestatic 36, 3) := by decide +kernel
theorem dX1_countFewest_29 : decode cX1_countFewest 29 = .ok (.ifCond .eq 5, 3) := by decide +kernel
theorem dX1_countFewest_32 : decode cX1_countFewest 32 = .ok (.iload_n 2, 1) := by decide +kernel
theorem dX1_countFewest_33 : decode cX1_countFewest 33 = .ok (.ireturn, 1) := by decide +kernel
theorem dX1_countFewest_34 : decode cX1_countFewest 34 = .ok (.iinc 2 1, 3) := by decide +kernel
theorem dX1_countFewest_37 : decode cX1_countFewest 37 = .ok (.goto (-30), 3) := by decide +kernel
theorem dX1_countFewest_40 : decode cX1_countFewest 40 = .ok (.iconst (-1), 1) := by decide +kernel
theorem dX1_countFewest_41 : decode cX1_countFewest 41 = .ok (.ireturn, 1) := by decide +kernel
theorem hd_X1_countFewest : yX1_countFewest.cls = RX1 ∧ yX1_countFewest.cls ≠ "java/lang/invoke/MethodHandle" ∧ yX1_countFewest.cls ≠ "java/lang/invoke/VarHandle" ∧ (parseMethodDescriptor yX1_countFewest.desc).map (fun d => d.parameters.length) = some 1 := by decide +kernel
theorem hs_X1_countFewest : yX1_countFewest.cls ≠ "java/lang/invoke/MethodHandle" ∧ yX1_countFewest.cls ≠ "java/lang/invoke/VarHandle" ∧ (parseMethodDescriptor yX1_countFewest.desc).map (fun d => d.parameters.length) = some 1 := by decide +kernel
set_option maxHeartbeats 4000000 in
set_option maxRecDepth 100000 in
theorem l_X1_countFewest_L7 (C : CX p l e s m args meth c cX1_countFewest 3 RX1 (Option.some Jvm.ClassFile.FieldType.int) E) {o : Nat} (ho : K o = some (0, 0)) {r : Int32} {w' : Wd} (k : Option Nat → Int32 → Wd → Option (Int32 × Wd)) (hk : ∀ (v1_7 : Option Nat) (v2_7 : Int32) (w : Wd) (H : Heap) (locs : List Loc) (ls : Array Slot), HQ E K z w s H locs → lv_has ls 3 [(1, rv E v1_7), (2, .int v2_7), (0, rv E (some o))] → k v1_7 v2_7 w = some (r, w') → W p l e ({ frames := 17, cells := 0, slots := 0, locals := 469 } : Room) s m args below meth c H locs 0 0 (MQ below (QI E K z w' r) args s 0 0 (hA E)) (F0 m 40 ls [])) : ∀ (n : Nat) (v1_7 : Option Nat) (v2_7 : Int32) (w : Wd) (H : Heap) (locs : List Loc) (ls : Array Slot), HQ E K z w s H locs → lv_has ls 3 [(1, rv E v1_7), (2, .int v2_7), (0, rv E (some o))] → f_X1_countFewest_L7 K o k n v1_7 v2_7 w = some (r, w') → W p l e ({ frames := 17, cells := 0, slots := 0, locals := 469 } : Room) s m args below meth c H locs 0 0 (MQ below (QI E K z w' r) args s 0 0 (hA E)) (F0 m 7 ls []) := by
  obtain ⟨hx, hb, hml, hown, hts, hKs, hT, hb0, hlocks, hret⟩ := id C
  intro n
  induction n with
  | zero =>
    intro v1_7 v2_7 w H locs ls hH hl hf
    cases hf
  | succ n ih =>
    intro v1_7 v2_7 w H locs ls hH hl hf
    rw [f_X1_countFewest_L7] at hf
    refine lv_iload_n hx hb dX1_countFewest_7 rfl (lv_at hl 1 rfl) ?_
    refine hl_aload_n hx hb dX1_countFewest_8 rfl (lv_at hl 2 rfl) ?_
    refine g1_4 hx hb hts hown hKs hH rfl ho m2_207 dX1_countFewest_9 ?_
    refine lv_icmp_gt (tgt := 40) hx hb dX1_countFewest_12 (by decide) (fun c3 => ?_) (fun c3 => ?_)
    · replace hf := (if_pos c3).symm.trans hf
      exact hk v1_7 v2_7 _ _ _ _ hH (lv_sub hl [0, 1, 2] rfl) hf
    · replace hf := (if_neg c3).symm.trans hf
      refine hl_aload_n hx hb dX1_countFewest_15 rfl (lv_at hl 2 rfl) ?_
      refine lv_iconst (v := 0) hx hb dX1_countFewest_16 (by decide) ?_
      refine hl_aload_n hx hb dX1_countFewest_17 rfl (lv_at hl 2 rfl) ?_
      refine g1_3 hx hb hts hown hKs hH rfl ho m2_206 dX1_countFewest_18 ?_
      obtain ⟨q4, hq4, hf⟩ := bnd hf
      refine hcM_i hx hb hml hown hts hKs hT hb0 hH (As := [.int ((wI w 103 o))]) (rest := [.int 0, rv E (some o)]) (k_X12_allOf l E K H.size (wI w 103 o) w hq4) m4_37 m4_38 m1_1 m4_39 hs_X12_allOf ⟨Nat.le_of_ble_eq_true rfl, Nat.le_of_ble_eq_true rfl, rfl, rfl⟩ hl.1 rfl (rcI (rcV rc0)) rfl dX1_countFewest_21 ⟨Nat.zero_le _, Nat.zero_le _⟩ (fun H locs hH => ?_)
      refine lv_iconst (v := 0) hx hb dX1_countFewest_24 (by decide) ?_
      refine lv_iload_n hx hb dX1_countFewest_25 rfl (lv_at hl 1 rfl) ?_
      obtain ⟨q5, hq5, hf⟩ := bnd hf
      refine hcS_i hx hb hml hown hts hKs hT hb0 hH (As := [rv E (some o), .int 0, .int (q4.1), .int 0, .int v2_7]) (rest := []) (k_X1_gives l E K 14 H.size (some o) 0 q4.1 0 v2_7 q4.2 hq5) (gS m4_41 m4_42 m1_15 m4_43) hs_X1_gives ⟨Nat.le_of_ble_eq_true rfl, Nat.le_of_ble_eq_true rfl, rfl, rfl⟩ hl.1 rfl rc0 rfl dX1_countFewest_26 ⟨Nat.zero_le _, Nat.zero_le _⟩ (fun H locs hH => ?_)
      refine lv_if_eq (tgt := 34) hx hb dX1_countFewest_29 (by decide) (fun c6 => ?_) (fun c6 => ?_)
      · replace hf := (if_pos c6).symm.trans hf
        refine lv_iinc (v := (v2_7 + 1)) (lv' := [(2, .int ((v2_7 + 1))), (1, rv E v1_7), (0, rv E (some o))]) hx hb dX1_countFewest_34 hl (k := 1) rfl rfl (by decide) (by simp [List.filter_cons, cat_q, cat_i, cat_j, imax, imin]) (fun ls hl => ?_)
        refine lv_goto (tgt := 7) hx hb dX1_countFewest_37 (by decide) ?_
        exact ih v1_7 (v2_7 + 1) _ _ _ _ hH (lv_sub hl [1, 0, 2] rfl) hf
      · replace hf := (if_neg c6).symm.trans hf
        refine lv_iload_n hx hb dX1_countFewest_32 rfl (lv_at hl 1 rfl) ?_
        exact hw_iret hx hb hret hf hH hlocks dX1_countFewest_33
set_option maxHeartbeats 4000000 in
set_option maxRecDepth 100000 in
theorem k_X1_countFewest (l : Launch) (E : Ev) (K : Kd) (z : Nat) (o : Nat) (a_1 : Option Nat) (w : Wd) (ho : K o = some (0, 0)) {r : Int32} {w' : Wd} (hf : f_X1_countFewest K o a_1 w = some (r, w')) : Met l yX1_countFewest (Cond.code yX1_countFewest cX1_countFewest 3 (Option.some Jvm.ClassFile.FieldType.int) :: bt) ({ frames := 17, cells := 0, slots := 0, locals := 469 } : Room) (va_Pc [rv E (some o), rv E a_1] (HB E K w z)) (QI E K z w' r) 0 0 (hA E) := by
  refine Met.ofW (cc := cX1_countFewest) (maxL := 3) (ret := (Option.some Jvm.ClassFile.FieldType.int)) (by decide) rfl ?_
  intro p e s m args below meth c s₁ B hml hv
  obtain ⟨rfl, hz, hP, hKs, hT, hb0⟩ := hv
  have C : CX p l e s m _ meth c cX1_countFewest 3 RX1 (Option.some Jvm.ClassFile.FieldType.int) E := ⟨B.exec, B.bytes, hml, findClass_of_methodNamed B.named, fun w h => atoms_spec (ws := Cond.code yX1_countFewest cX1_countFewest 3 (Option.some Jvm.ClassFile.FieldType.int) :: bt) B.pre w (List.mem_cons_of_mem _ h), hKs, hT, by rw [hz]; exact hb0, B.notSynchronized, B.returns⟩
  have hH : HQ E K z w s s.heap [] := ⟨hP, va_S.rf, hz⟩
  obtain ⟨hx, hb, hml, hown, hts, hKs, hT, hb0, hlocks, hret⟩ := id C
  have hl := lv_entry [rv E (some o), rv E a_1] (n := 3) (by simp [lg_len_nil, lg_len_i, lg_len_j, lg_len_q, lg_len_f, lg_len_d, lg_len_r])
  rw [lg_entry_eq]
  generalize (lg_sl [rv E (some o), rv E a_1] ++ List.replicate (3 - (lg_sl [rv E (some o), rv E a_1]).length) Slot.unset).toArray = ls at hl ⊢
  replace hl : lv_has ls 3 [(0, rv E (some o)), (1, rv E a_1)] := by simpa only [lv_args, cat_q, cat_i, cat_j, reduceIte, Nat.reduceEqDiff, Nat.reduceAdd, Nat.zero_add] using hl
  generalize s.heap = H at hH ⊢
  unfold f_X1_countFewest at hf
  refine hl_aload_n hx hb dX1_countFewest_0 rfl (lv_at hl 0 rfl) ?_
  refine hl_aload_n hx hb dX1_countFewest_1 rfl (lv_at hl 1 rfl) ?_
  obtain ⟨q1, hq1, hf⟩ := bnd hf
  refine hcV_v hx hb hml hown hts hKs hT hb0 hH (As := [rv E a_1]) (rest := []) (k_X1_prepare l E K H.size o a_1 w ho hq1) (gV m4_31 m4_33 ms_19 m1_15 m4_34) hd_X1_prepare ⟨Nat.le_of_ble_eq_true rfl, Nat.le_of_ble_eq_true rfl, rfl, rfl⟩ rfl ho rfl rfl rfl hl.1 rfl rc0 rfl dX1_countFewest_2 ⟨Nat.zero_le _, Nat.zero_le _⟩ (fun H locs hH => ?_)
  refine lv_iconst (v := 0) hx hb dX1_countFewest_5 (by decide) ?_
  refine lv_istore_n (i := 2) (lv' := [(2, .int 0), (0, rv E (some o)), (1, rv E a_1)]) hx hb dX1_countFewest_6 rfl hl (by decide) (by simp [List.filter_cons, cat_q, cat_i, cat_j, imax, imin]) (fun ls hl => ?_)
  refine l_X1_countFewest_L7  C ho _ (fun v1_7 v2_7 w2 H locs ls hH hl hf => ?_) fu a_1 0 q1 _ _ _ hH (lv_sub hl [2, 0, 1] rfl) hf
  refine lv_iconst (v := (-1)) hx hb dX1_countFewest_40 (by decide) ?_
  exact hw_iret hx hb hret hf hH hlocks dX1_countFewest_41

theorem dX5_init_0 : decode cX5_init 0 = .ok (.aload_n 0, 1) := by decide +kernel
theorem dX5_init_1 : decode cX5_init 1 = .ok (.invokespecial 3, 3) := by decide +kernel
theorem dX5_init_4 : decode cX5_init 4 = .ok (.aload_n 0, 1) := by decide +kernel
theorem dX5_init_5 : decode cX5_init 5 = .ok (.new 9, 3) := by decide +kernel
theorem dX5_init_8 : decode cX5_init 8 = .ok (.dup, 1) := by decide +kernel
theorem dX5_init_9 : decode cX5_init 9 = .ok (.invokespecial 11, 3) := by decide +kernel
theorem dX5_init_12 : decode cX5_init 12 = .ok (.putfield 12, 3) := by decide +kernel
theorem dX5_init_15 : decode cX5_init 15 = .ok (.aload_n 0, 1) := by decide +kernel
theorem dX5_init_16 : decode cX5_init 16 = .ok (.new 18, 3) := by decide +kernel
theorem dX5_init_19 : decode cX5_init 19 = .ok (.dup, 1) := by decide +kernel
theorem dX5_init_20 : decode cX5_init 20 = .ok (.invokespecial 20, 3) := by decide +kernel
theorem dX5_init_23 : decode cX5_init 23 = .ok (.putfield 21, 3) := by decide +kernel
theorem dX5_init_26 : decode cX5_init 26 = .ok (.aload_n 0, 1) := by decide +kernel
theorem dX5_init_27 : decode cX5_init 27 = .ok (.iconst (-1), 1) := by decide +kernel
theorem dX5_init_28 : decode cX5_init 28 = .ok (.putfield 25, 3) := by decide +kernel
theorem dX5_init_31 : decode cX5_init 31 = .ok (.return_, 1) := by decide +kernel
theorem hd_X5_init : yX5_init.cls = RX5 ∧ yX5_init.cls ≠ "java/lang/invoke/MethodHandle" ∧ yX5_init.cls ≠ "java/lang/invoke/VarHandle" ∧ (parseMethodDescriptor yX5_init.desc).map (fun d => d.parameters.length) = some 0 := by decide +kernel
theorem hs_X5_init : yX5_init.cls ≠ "java/lang/invoke/MethodHandle" ∧ yX5_init.cls ≠ "java/lang/invoke/VarHandle" ∧ (parseMethodDescriptor yX5_init.desc).map (fun d => d.parameters.length) = some 0 := by decide +kernel
set_option maxHeartbeats 4000000 in
set_option maxRecDepth 100000 in
theorem k_X5_init (l : Launch) (E : Ev) (K : Kd) (n : Nat) (o : Nat) (w : Wd) {K' : Kd} {n' : Nat} {w' : Wd} (hf : f_X5_init K n o w = some (K', n', w')) : Met l yX5_init (Cond.code yX5_init cX5_init 1 (Option.none : Option Jvm.ClassFile.FieldType) :: bt) ({ frames := 4, cells := 36, slots := 296, locals := 85 } : Room) (va_Pc [rv E (some o)] (HB E K w (E.2.1 + n))) (QV E K' (E.2.1 + n') w') 36 296 (hA E) := by
  refine Met.ofW (cc := cX5_init) (maxL := 1) (ret := (Option.none : Option Jvm.ClassFile.FieldType)) (by decide) rfl ?_
  intro p e s m args below meth c s₁ B hml hv
  have hn2 : meth.name = "<init>" := (name_of_methodNamed B.named B.method).1
  obtain ⟨rfl, hz, hP, hKs, hT, hb0⟩ := hv
  have C : CX p l e s m _ meth c cX5_init 1 RX5 (Option.none : Option Jvm.ClassFile.FieldType) E := ⟨B.exec, B.bytes, hml, findClass_of_methodNamed B.named, fun w h => atoms_spec (ws := Cond.code yX5_init cX5_init 1 (Option.none : Option Jvm.ClassFile.FieldType) :: bt) B.pre w (List.mem_cons_of_mem _ h), hKs, hT, by rw [hz]; exact hb0, B.notSynchronized, B.returns⟩
  have hH : HQ E K (E.2.1 + n) w s s.heap [] := ⟨hP, va_S.rf, hz⟩
  obtain ⟨hx, hb, hml, hown, hts, hKs, hT, hb0, hlocks, hret⟩ := id C
  have hl := lv_entry [rv E (some o)] (n := 1) (by simp [lg_len_nil, lg_len_i, lg_len_j, lg_len_q, lg_len_f, lg_len_d, lg_len_r])
  rw [lg_entry_eq]
  generalize (lg_sl [rv E (some o)] ++ List.replicate (1 - (lg_sl [rv E (some o)]).length) Slot.unset).toArray = ls at hl ⊢
  replace hl : lv_has ls 1 [(0, rv E (some o))] := by simpa only [lv_args, cat_q, cat_i, cat_j, reduceIte, Nat.reduceEqDiff, Nat.reduceAdd, Nat.zero_add] using hl
  generalize s.heap = H at hH ⊢
  unfold f_X5_init at hf
  refine hl_aload_n hx hb dX5_init_0 rfl (lv_at hl 0 rfl) ?_
  refine hw_obj hx hb hml hl.1 hown hts m1_232 m1_37 m1_38 dX5_init_1 (Nat.le_of_ble_eq_true rfl) (Nat.le_of_ble_eq_true rfl) ?_
  refine hl_aload_n hx hb dX5_init_4 rfl (lv_at hl 0 rfl) ?_
  refine hw_new (ci := 7) (C := RX8) (T := TX8) (N := 7) hx hb hts iX8 tyX8 tyX8_ok hown m1_233 (hts _ m1_234) m1_9 hKs hb0 hH rfl rfl (fun j hj => dfX8 j hj) (Nat.le_of_ble_eq_true rfl) (Nat.le_of_ble_eq_true rfl) dX5_init_5 (fun H hH => ?_)
  obtain ⟨K1, hK1, hf⟩ := bnd hf
  replace hK1 := Option.some.inj hK1
  obtain ⟨w2, hw2, hf⟩ := bnd hf
  replace hw2 := Option.some.inj hw2
  rw [hK1, hw2] at hH
  refine lv_dup hx hb dX5_init_8 rv_cat ?_
  obtain ⟨q3, hq3, hf⟩ := bnd hf
  refine hcA hH (va_runIN (As := []) (rest := [rv E (some n), rv E (some o)]) ⟨hx, hb, hml, hown, hts⟩ (k_X8_init l E K1 (n + 1) n w2 hq3) ⟨va_cnB _ hts (gC m1_237) rfl rfl rfl (hKs.2.1 _ m1_235) (hts _ m1_9) hs_X8_init ⟨Nat.le_of_ble_eq_true rfl, Nat.le_of_ble_eq_true rfl⟩, rfl, hts _ m1_236⟩ ⟨HB.blind, HB.preN hKs hT hb0 hH⟩ rfl rfl hl.1 rfl (lv_room (rcV (rcV rc0))) dX5_init_9 ⟨Nat.le_of_ble_eq_true rfl, Nat.le_of_ble_eq_true rfl⟩) (fun H locs hH => ?_)
  obtain ⟨a4, ha4, hf⟩ := bnd hf
  replace ha4 := chk_some ha4
  obtain ⟨w5, hw5, hf⟩ := bnd hf
  replace hw5 := Option.some.inj hw5
  refine pf5_0 (v := (some n)) hx hb hts hown hKs hH ha4.1 ha4.2 hn2 m2_30 dX5_init_12 (fun H locs hH => ?_)
  rw [hw5] at hH
  refine hl_aload_n hx hb dX5_init_15 rfl (lv_at hl 0 rfl) ?_
  refine hw_new (ci := 8) (C := RX9) (T := TX9) (N := 15) hx hb hts iX9 tyX9 tyX9_ok hown m2_28 (hts _ m1_40) m1_2 hKs hb0 hH rfl rfl (fun j hj => dfX9 j hj) (Nat.le_of_ble_eq_true rfl) (Nat.le_of_ble_eq_true rfl) dX5_init_16 (fun H hH => ?_)
  obtain ⟨K6, hK6, hf⟩ := bnd hf
  replace hK6 := Option.some.inj hK6
  obtain ⟨w7, hw7, hf⟩ := bnd hf
  replace hw7 := Option.some.inj hw7
  rw [hK6, hw7] at hH
  refine lv_dup hx hb dX5_init_19 rv_cat ?_
  obtain ⟨q8, hq8, hf⟩ := bnd hf
  refine hcA hH (va_runI (As := []) (rest := [rv E (some q3.2.1), rv E (some o)]) ⟨hx, hb, hml, hown, hts⟩ (k_X9_init l E K6 (q3.2.1 + 1) q3.2.1 w7 hq8) (cwI _ hts (gC m1_43) rfl rfl rfl (hts _ m1_2) (hts _ m2_29) (hts _ m1_42) rfl hs_X9_init ⟨Nat.le_of_ble_eq_true rfl, Nat.le_of_ble_eq_true rfl⟩) ⟨HB.blind, HB.preN hKs hT hb0 hH⟩ rfl rfl hl.1 rfl (lv_room (rcV (rcV rc0))) dX5_init_20 ⟨Nat.le_of_ble_eq_true rfl, Nat.le_of_ble_eq_true rfl⟩) (fun H locs hH => ?_)
  obtain ⟨a9, ha9, hf⟩ := bnd hf
  replace ha9 := chk_some ha9
  obtain ⟨w10, hw10, hf⟩ := bnd hf
  replace hw10 := Option.some.inj hw10
  refine p5_1 (v := (some q3.2.1)) hx hb hts hown hKs hH ha9.1 ha9.2 m2_31 dX5_init_23 (fun H locs hH => ?_)
  rw [hw10] at hH
  refine hl_aload_n hx hb dX5_init_26 rfl (lv_at hl 0 rfl) ?_
  refine lv_iconst (v := (-1)) hx hb dX5_init_27 (by decide) ?_
  obtain ⟨w11, hw11, hf⟩ := bnd hf
  replace hw11 := Option.some.inj hw11
  refine p5_3 (v := (-1)) hx hb hts hown hKs hH ha9.1 ha9.2 m2_34 dX5_init_28 (fun H locs hH => ?_)
  rw [hw11] at hH
  exact hw_aret hx hb (Nat.le_of_ble_eq_true rfl) (Nat.le_of_ble_eq_true rfl) hret hf hH hlocks dX5_init_31

theorem dX5_takesRoom_0 : decode cX5_takesRoom 0 = .ok (.aload_n 0, 1) := by decide +kernel
theorem dX5_takesRoom_1 : decode cX5_takesRoom 1 = .ok (.iconst 0, 1) := by decide +kernel
theorem dX5_takesRoom_2 : decode cX5_takesRoom 2 = .ok (.invokevirtual 129, 3) := by decide +kernel
theorem dX5_takesRoom_5 : decode cX5_takesRoom 5 = .ok (.ifCond .eq 22, 3) := by decide +kernel
theorem dX5_takesRoom_8 : decode cX5_takesRoom 8 = .ok (.aload_n 0, 1) := by decide +kernel
theorem dX5_takesRoom_9 : decode cX5_takesRoom 9 = .ok (.getstatic 132, 3) := by decide +kernel
theorem dX5_takesRoom_12 : decode cX5_takesRoom 12 = .ok (.invokevirtual 55, 3) := by decide +kernel
theorem dX5_takesRoom_15 : decode cX5_takesRoom 15 = .ok (.ifCond .eq 12, 3) := by decide +kernel
theorem dX5_takesRoom_18 : decode cX5_takesRoom 18 = .ok (.aload_n 0, 1) := by decide +kernel
theorem dX5_takesRoom_19 : decode cX5_takesRoom 19 = .ok (.bipush 7, 2) := by decide +kernel
theorem dX5_takesRoom_21 : decode cX5_takesRoom 21 = .ok (.invokevirtual 135, 3) := by decide +kernel
theorem dX5_takesRoom_24 : decode cX5_takesRoom 24 = .ok (.ifCond .ne 5, 3) := by decide +kernel
theorem dX5_takesRoom_27 : decode cX5_takesRoom 27 = .ok (.iconst 0, 1) := by decide +kernel
theorem dX5_takesRoom_28 : decode cX5_takesRoom 28 = .ok (.ireturn, 1) := by decide +kernel
theorem dX5_takesRoom_29 : decode cX5_takesRoom 29 = .ok (.aload_n 0, 1) := by decide +kernel
theorem dX5_takesRoom_30 : decode cX5_takesRoom 30 = .ok (.getfield 21, 3) := by decide +kernel
theorem dX5_takesRoom_33 : decode cX5_takesRoom 33 = .ok (.getfield 138, 3) := by decide +kernel
theorem dX5_takesRoom_36 : decode cX5_takesRoom 36 = .ok (.aload_n 0, 1) := by decide +kernel
theorem dX5_takesRoom_37 : decode cX5_takesRoom 37 = .ok (.getfield 21, 3) := by decide +kernel
theorem dX5_takesRoom_40 : decode cX5_takesRoom 40 = .ok (.iconst 0, 1) := by decide +kernel
theorem dX5_takesRoom_41 : decode cX5_takesRoom 41 = .ok (.invokevirtual 141, 3) := by decide +kernel
theorem dX5_takesRoom_44 : decode cX5_takesRoom 44 = .ok (.iconst 1, 1) := by decide +kernel
theorem dX5_takesRoom_45 : decode cX5_takesRoom 45 = .ok (.isub, 1) := by decide +kernel
theorem dX5_takesRoom_46 : decode cX5_takesRoom 46 = .ok (.aload_n 0, 1) := by decide +kernel
theorem dX5_takesRoom_47 : decode cX5_takesRoom 47 = .ok (.getfield 144, 3) := by decide +kernel
theorem dX5_takesRoom_50 : decode cX5_takesRoom 50 = .ok (.aload_n 0, 1) := by decide +kernel
theorem dX5_takesRoom_51 : decode cX5_takesRoom 51 = .ok (.getfield 147, 3) := by decide +kernel
theorem dX5_takesRoom_54 : decode cX5_takesRoom 54 = .ok (.aload_n 0, 1) := by decide +kernel
theorem dX5_takesRoom_55 : decode cX5_takesRoom 55 = .ok (.getfield 144, 3) := by decide +kernel
theorem dX5_takesRoom_58 : decode cX5_takesRoom 58 = .ok (.isub, 1) := by decide +kernel
theorem dX5_takesRoom_59 : decode cX5_takesRoom 59 = .ok (.iconst 1, 1) := by decide +kernel
theorem dX5_takesRoom_60 : decode cX5_takesRoom 60 = .ok (.iadd, 1) := by decide +kernel
theorem dX5_takesRoom_61 : decode cX5_takesRoom 61 = .ok (.invokestatic 150, 3) := by decide +kernel
theorem dX5_takesRoom_64 : decode cX5_takesRoom 64 = .ok (.iastore, 1) := by decide +kernel
theorem dX5_takesRoom_65 : decode cX5_takesRoom 65 = .ok (.iconst 1, 1) := by decide +kernel
theorem dX5_takesRoom_66 : decode cX5_takesRoom 66 = .ok (.ireturn, 1) := by decide +kernel
theorem hd_X5_takesRoom : yX5_takesRoom.cls = RX5 ∧ yX5_takesRoom.cls ≠ "java/lang/invoke/MethodHandle" ∧ yX5_takesRoom.cls ≠ "java/lang/invoke/VarHandle" ∧ (parseMethodDescriptor yX5_takesRoom.desc).map (fun d => d.parameters.length) = some 0 := by decide +kernel
theorem hs_X5_takesRoom : yX5_takesRoom.cls ≠ "java/lang/invoke/MethodHandle" ∧ yX5_takesRoom.cls ≠ "java/lang/invoke/VarHandle" ∧ (parseMethodDescriptor yX5_takesRoom.desc).map (fun d => d.parameters.length) = some 0 := by decide +kernel
set_option maxHeartbeats 4000000 in
set_option maxRecDepth 100000 in
theorem k_X5_takesRoom (l : Launch) (E : Ev) (K : Kd) (z : Nat) (o : Nat) (w : Wd) (ho : K o = some (4, 0)) {r : Bool} {w' : Wd} (hf : f_X5_takesRoom K o w = some (r, w')) : Met l yX5_takesRoom (Cond.code yX5_takesRoom cX5_takesRoom 1 (Option.some Jvm.ClassFile.FieldType.boolean) :: bt) ({ frames := 4, cells := 0, slots := 0, locals := 86 } : Room) (va_Pc [rv E (some o)] (HB E K w z)) (QI E K z w' (b2i r)) 0 0 (hA E) := by
  refine Met.ofW (cc := cX5_takesRoom) (maxL := 1) (ret := (Option.some Jvm.ClassFile.FieldType.boolean)) (by decide) rfl ?_
  intro p e s m args below meth c s₁ B hml hv
  obtain ⟨rfl, hz, hP, hKs, hT, hb0⟩ := hv
  have C : CX p l e s m _ meth c cX5_takesRoom 1 RX5 (Option.some Jvm.ClassFile.FieldType.boolean) E := ⟨B.exec, B.bytes, hml, findClass_of_methodNamed B.named, fun w h => atoms_spec (ws := Cond.code yX5_takesRoom cX5_takesRoom 1 (Option.some Jvm.ClassFile.FieldType.boolean) :: bt) B.pre w (List.mem_cons_of_mem _ h), hKs, hT, by rw [hz]; exact hb0, B.notSynchronized, B.returns⟩
  have hH : HQ E K z w s s.heap [] := ⟨hP, va_S.rf, hz⟩
  obtain ⟨hx, hb, hml, hown, hts, hKs, hT, hb0, hlocks, hret⟩ := id C
  have hl := lv_entry [rv E (some o)] (n := 1) (by simp [lg_len_nil, lg_len_i, lg_len_j, lg_len_q, lg_len_f, lg_len_d, lg_len_r])
  rw [lg_entry_eq]
  generalize (lg_sl [rv E (some o)] ++ List.replicate (1 - (lg_sl [rv E (some o)]).length) Slot.unset).toArray = ls at hl ⊢
  replace hl : lv_has ls 1 [(0, rv E (some o))] := by simpa only [lv_args, cat_q, cat_i, cat_j, reduceIte, Nat.reduceEqDiff, Nat.reduceAdd, Nat.zero_add] using hl
  generalize s.heap = H at hH ⊢
  unfold f_X5_takesRoom at hf
  refine hl_aload_n hx hb dX5_takesRoom_0 rfl (lv_at hl 0 rfl) ?_
  refine lv_iconst (v := 0) hx hb dX5_takesRoom_1 (by decide) ?_
  obtain ⟨q1, hq1, hf⟩ := bnd hf
  refine hcV_i hx hb hml hown hts hKs hT hb0 hH (As := [.int 0]) (rest := []) (k_X5_takesNewName l E K H.size o 0 w ho hq1) (gV m3_119 m3_121 ms_6 m1_8 m3_122) hd_X5_takesNewName ⟨Nat.le_of_ble_eq_true rfl, Nat.le_of_ble_eq_true rfl, rfl, rfl⟩ rfl ho rfl rfl rfl hl.1 rfl rc0 rfl dX5_takesRoom_2 ⟨Nat.zero_le _, Nat.zero_le _⟩ (fun H locs hH => ?_)
  refine lv_if_eq (tgt := 27) hx hb dX5_takesRoom_5 (by decide) (fun c2 => ?_) (fun c2 => ?_)
  · replace hf := (if_pos c2).symm.trans hf
    refine lv_iconst (v := 0) hx hb dX5_takesRoom_27 (by decide) ?_
    exact hw_zret hx hb hret rfl hf hH hlocks dX5_takesRoom_28
  · replace hf := (if_neg c2).symm.trans hf
    refine hl_aload_n hx hb dX5_takesRoom_8 rfl (lv_at hl 0 rfl) ?_
    refine hw_tok hx hb 2 (by decide) hts hown hT hH m3_136 dX5_takesRoom_9 ?_
    obtain ⟨q3, hq3, hf⟩ := bnd hf
    refine hcV_i hx hb hml hown hts hKs hT hb0 hH (As := [re E (some 2)]) (rest := []) (k_X5_takes l E K H.size o (some 2) q1.2 ho hq3) (gV m3_138 m3_140 ms_7 m1_8 m3_141) hd_X5_takes ⟨Nat.le_of_ble_eq_true rfl, Nat.le_of_ble_eq_true rfl, rfl, rfl⟩ rfl ho rfl rfl rfl hl.1 rfl rc0 rfl dX5_takesRoom_12 ⟨Nat.zero_le _, Nat.zero_le _⟩ (fun H locs hH => ?_)
    refine lv_if_eq (tgt := 27) hx hb dX5_takesRoom_15 (by decide) (fun c4 => ?_) (fun c4 => ?_)
    · replace hf := (if_pos c4).symm.trans hf
      refine lv_iconst (v := 0) hx hb dX5_takesRoom_27 (by decide) ?_
      exact hw_zret hx hb hret rfl hf hH hlocks dX5_takesRoom_28
    · replace hf := (if_neg c4).symm.trans hf
      refine hl_aload_n hx hb dX5_takesRoom_18 rfl (lv_at hl 0 rfl) ?_
      refine lv_bipush (v := 7) hx hb dX5_takesRoom_19 (by decide) ?_
      obtain ⟨q5, hq5, hf⟩ := bnd hf
      refine hcV_i hx hb hml hown hts hKs hT hb0 hH (As := [.int 7]) (rest := []) (k_X5_takesSpan l E K H.size o 7 q3.2 ho hq5) (gV m3_142 m3_144 ms_8 m1_8 m3_145) hd_X5_takesSpan ⟨Nat.le_of_ble_eq_true rfl, Nat.le_of_ble_eq_true rfl, rfl, rfl⟩ rfl ho rfl rfl rfl hl.1 rfl rc0 rfl dX5_takesRoom_21 ⟨Nat.zero_le _, Nat.zero_le _⟩ (fun H locs hH => ?_)
      refine lv_if_ne (tgt := 29) hx hb dX5_takesRoom_24 (by decide) (fun c6 => ?_) (fun c6 => ?_)
      · replace hf := (if_neg c6).symm.trans hf
        refine hl_aload_n hx hb dX5_takesRoom_29 rfl (lv_at hl 0 rfl) ?_
        refine g5_1 hx hb hts hown hKs hH rfl ho m2_31 dX5_takesRoom_30 ?_
        obtain ⟨a7, ha7, hf⟩ := bnd hf
        replace ha7 := chk_some ha7
        refine gn9_1 hx hb hts hown hKs hH ha7.1 ha7.2 m1_155 dX5_takesRoom_33 ?_
        refine hl_aload_n hx hb dX5_takesRoom_36 rfl (lv_at hl 0 rfl) ?_
        refine g5_1 hx hb hts hown hKs hH rfl ho m2_31 dX5_takesRoom_37 ?_
        refine lv_iconst (v := 0) hx hb dX5_takesRoom_40 (by decide) ?_
        obtain ⟨q8, hq8, hf⟩ := bnd hf
        refine hcV_i hx hb hml hown hts hKs hT hb0 hH (As := [.int 0]) (rest := [rv E (wR q5.2 901 a7)]) (k_X9_size l E K H.size a7 0 q5.2 ha7.2 hq8) (gV m3_150 m3_151 m3_152 m1_2 m3_153) hd_X9_size ⟨Nat.le_of_ble_eq_true rfl, Nat.le_of_ble_eq_true rfl, rfl, rfl⟩ ha7.1 ha7.2 rfl rfl rfl hl.1 rfl (rcV rc0) rfl dX5_takesRoom_41 ⟨Nat.zero_le _, Nat.zero_le _⟩ (fun H locs hH => ?_)
        refine lv_iconst (v := 1) hx hb dX5_takesRoom_44 (by decide) ?_
        refine lv_isub hx hb dX5_takesRoom_45 ?_
        refine hl_aload_n hx hb dX5_takesRoom_46 rfl (lv_at hl 0 rfl) ?_
        refine g5_5 hx hb hts hown hKs hH rfl ho m2_37 dX5_takesRoom_47 ?_
        refine hl_aload_n hx hb dX5_takesRoom_50 rfl (lv_at hl 0 rfl) ?_
        refine g5_6 hx hb hts hown hKs hH rfl ho m2_38 dX5_takesRoom_51 ?_
        refine hl_aload_n hx hb dX5_takesRoom_54 rfl (lv_at hl 0 rfl) ?_
        refine g5_5 hx hb hts hown hKs hH rfl ho m2_37 dX5_takesRoom_55 ?_
        refine lv_isub hx hb dX5_takesRoom_58 ?_
        refine lv_iconst (v := 1) hx hb dX5_takesRoom_59 (by decide) ?_
        refine lv_iadd hx hb dX5_takesRoom_60 ?_
        obtain ⟨q9, hq9, hf⟩ := bnd hf
        refine hcM_i hx hb hml hown hts hKs hT hb0 hH (As := [.int ((wI q8.2 505 o)), .int ((((wI q8.2 506 o) - (wI q8.2 505 o)) + 1))]) (rest := [.int ((q8.1 - 1)), rv E (wR q5.2 901 a7)]) (k_X12_slotSet l E K H.size (wI q8.2 505 o) (((wI q8.2 506 o) - (wI q8.2 505 o)) + 1) q8.2 hq9) m3_154 m3_155 m1_1 m3_156 hs_X12_slotSet ⟨Nat.le_of_ble_eq_true rfl, Nat.le_of_ble_eq_true rfl, rfl, rfl⟩ hl.1 rfl (rcI (rcV rc0)) rfl dX5_takesRoom_61 ⟨Nat.zero_le _, Nat.zero_le _⟩ (fun H locs hH => ?_)
        obtain ⟨a10, ha10, hf⟩ := bnd hf
        replace ha10 := cha_some ha10
        obtain ⟨j11, hj11, hf⟩ := bnd hf
        obtain ⟨w12, hw12, hf⟩ := bnd hf
        replace hw12 := Option.some.inj hw12
        refine hw_iast (x := q9.1) hx hb hKs hH ha10.1 ha10.2 hj11 dX5_takesRoom_64 (fun H locs hH => ?_)
        rw [hw12] at hH
        refine lv_iconst (v := 1) hx hb dX5_takesRoom_65 (by decide) ?_
        exact hw_zret hx hb hret rfl hf hH hlocks dX5_takesRoom_66
      · replace hf := (if_pos c6).symm.trans hf
        refine lv_iconst (v := 0) hx hb dX5_takesRoom_27 (by decide) ?_
        exact hw_zret hx hb hret rfl hf hH hlocks dX5_takesRoom_28

theorem dX5_takesOfficer_0 : decode cX5_takesOfficer 0 = .ok (.aload_n 0, 1) := by decide +kernel
theorem dX5_takesOfficer_1 : decode cX5_takesOfficer 1 = .ok (.iconst 1, 1) := by decide +kernel
theorem dX5_takesOfficer_2 : decode cX5_takesOfficer 2 = .ok (.invokevirtual 129, 3) := by decide +kernel
theorem dX5_takesOfficer_5 : decode cX5_takesOfficer 5 = .ok (.ifCond .ne 5, 3) := by decide +kernel
theorem dX5_takesOfficer_8 : decode cX5_takesOfficer 8 = .ok (.iconst 0, 1) := by decide +kernel
theorem dX5_takesOfficer_9 : decode cX5_takesOfficer 9 = .ok (.ireturn, 1) := by decide +kernel
theorem dX5_takesOfficer_10 : decode cX5_takesOfficer 10 = .ok (.iconst 0, 1) := by decide +kernel
theorem dX5_takesOfficer_11 : decode cX5_takesOfficer 11 = .ok (.istore_n 1, 1) := by decide +kernel
theorem dX5_takesOfficer_12 : decode cX5_takesOfficer 12 = .ok (.aload_n 0, 1) := by decide +kernel
theorem dX5_takesOfficer_13 : decode cX5_takesOfficer 13 = .ok (.getfield 12, 3) := by decide +kernel
theorem dX5_takesOfficer_16 : decode cX5_takesOfficer 16 = .ok (.getfield 39, 3) := by decide +kernel
theorem dX5_takesOfficer_19 : decode cX5_takesOfficer 19 = .ok (.getstatic 154, 3) := by decide +kernel
theorem dX5_takesOfficer_22 : decode cX5_takesOfficer 22 = .ok (.if_acmp .ne 64, 3) := by decide +kernel
theorem dX5_takesOfficer_25 : decode cX5_takesOfficer 25 = .ok (.iload_n 1, 1) := by decide +kernel
theorem dX5_takesOfficer_26 : decode cX5_takesOfficer 26 = .ok (.iconst 3, 1) := by decide +kernel
theorem dX5_takesOfficer_27 : decode cX5_takesOfficer 27 = .ok (.if_icmp .lt 9, 3) := by decide +kernel
theorem dX5_takesOfficer_30 : decode cX5_takesOfficer 30 = .ok (.aload_n 0, 1) := by decide +kernel
theorem dX5_takesOfficer_31 : decode cX5_takesOfficer 31 = .ok (.iconst 4, 1) := by decide +kernel
theorem dX5_takesOfficer_32 : decode cX5_takesOfficer 32 = .ok (.invokevirtual 99, 3) := by decide +kernel
theorem dX5_takesOfficer_35 : decode cX5_takesOfficer 35 = .ok (.ireturn, 1) := by decide +kernel
theorem dX5_takesOfficer_36 : decode cX5_takesOfficer 36 = .ok (.aload_n 0, 1) := by decide +kernel
theorem dX5_takesOfficer_37 : decode cX5_takesOfficer 37 = .ok (.getfield 12, 3) := by decide +kernel
theorem dX5_takesOfficer_40 : decode cX5_takesOfficer 40 = .ok (.invokevirtual 112, 3) := by decide +kernel
theorem dX5_takesOfficer_43 : decode cX5_takesOfficer 43 = .ok (.aload_n 0, 1) := by decide +kernel
theorem dX5_takesOfficer_44 : decode cX5_takesOfficer 44 = .ok (.sipush 599, 3) := by decide +kernel
theorem dX5_takesOfficer_47 : decode cX5_takesOfficer 47 = .ok (.invokevirtual 135, 3) := by decide +kernel
theorem dX5_takesOfficer_50 : decode cX5_takesOfficer 50 = .ok (.ifCond .ne 5, 3) := by decide +kernel
theorem dX5_takesOfficer_53 : decode cX5_takesOfficer 53 = .ok (.iconst 0, 1) := by decide +kernel
theorem dX5_takesOfficer_54 : decode cX5_takesOfficer 54 = .ok (.ireturn, 1) := by decide +kernel
theorem dX5_takesOfficer_55 : decode cX5_takesOfficer 55 = .ok (.aload_n 0, 1) := by decide +kernel
theorem dX5_takesOfficer_56 : decode cX5_takesOfficer 56 = .ok (.getfield 21, 3) := by decide +kernel
theorem dX5_takesOfficer_59 : decode cX5_takesOfficer 59 = .ok (.aload_n 0, 1) := by decide +kernel
theorem dX5_takesOfficer_60 : decode cX5_takesOfficer 60 = .ok (.getfield 21, 3) := by decide +kernel
theorem dX5_takesOfficer_63 : decode cX5_takesOfficer 63 = .ok (.iconst 1, 1) := by decide +kernel
theorem dX5_takesOfficer_64 : decode cX5_takesOfficer 64 = .ok (.invokevirtual 141, 3) := by decide +kernel
theorem dX5_takesOfficer_67 : decode cX5_takesOfficer 67 = .ok (.iconst 1, 1) := by decide +kernel
theorem dX5_takesOfficer_68 : decode cX5_takesOfficer 68 = .ok (.isub, 1) := by decide +kernel
theorem dX5_takesOfficer_69 : decode cX5_takesOfficer 69 = .ok (.aload_n 0, 1) := by decide +kernel
theorem dX5_takesOfficer_70 : decode cX5_takesOfficer 70 = .ok (.getfield 144, 3) := by decide +kernel
theorem dX5_takesOfficer_73 : decode cX5_takesOfficer 73 = .ok (.aload_n 0, 1) := by decide +kernel
theorem dX5_takesOfficer_74 : decode cX5_takesOfficer 74 = .ok (.getfield 147, 3) := by decide +kernel
theorem dX5_takesOfficer_77 : decode cX5_takesOfficer 77 = .ok (.invokevirtual 157, 3) := by decide +kernel
theorem dX5_takesOfficer_80 : decode cX5_takesOfficer 80 = .ok (.iinc 1 1, 3) := by decide +kernel
theorem dX5_takesOfficer_83 : decode cX5_takesOfficer 83 = .ok (.goto (-71), 3) := by decide +kernel
theorem dX5_takesOfficer_86 : decode cX5_takesOfficer 86 = .ok (.iconst 1, 1) := by decide +kernel
theorem dX5_takesOfficer_87 : decode cX5_takesOfficer 87 = .ok (.ireturn, 1) := by decide +kernel
theorem hd_X5_takesOfficer : yX5_takesOfficer.cls = RX5 ∧ yX5_takesOfficer.cls ≠ "java/lang/invoke/MethodHandle" ∧ yX5_takesOfficer.cls ≠ "java/lang/invoke/VarHandle" ∧ (parseMethodDescriptor yX5_takesOfficer.desc).map (fun d => d.parameters.length) = some 0 := by decide +kernel
theorem hs_X5_takesOfficer : yX5_takesOfficer.cls ≠ "java/lang/invoke/MethodHandle" ∧ yX5_takesOfficer.cls ≠ "java/lang/invoke/VarHandle" ∧ (parseMethodDescriptor yX5_takesOfficer.desc).map (fun d => d.parameters.length) = some 0 := by decide +kernel
set_option maxHeartbeats 4000000 in
set_option maxRecDepth 100000 in
theorem l_X5_takesOfficer_L12 (C : CX p l e s m args meth c cX5_takesOfficer 2 RX5 (Option.some Jvm.ClassFile.FieldType.boolean) E) {o : Nat} (ho : K o = some (4, 0)) {r : Bool} {w' : Wd} (k : Int32 → Wd → Option (Bool × Wd)) (hk : ∀ (v1_12 : Int32) (w : Wd) (H : Heap) (locs : List Loc) (ls : Array Slot), HQ E K z w s H locs → lv_has ls 2 [(1, .int v1_12), (0, rv E (some o))] → k v1_12 w = some (r, w') → W p l e ({ frames := 4, cells := 0, slots := 0, locals := 86 } : Room) s m args below meth c H locs 0 0 (MQ below (QI E K z w' (b2i r)) args s 0 0 (hA E)) (F0 m 86 ls [])) : ∀ (n : Nat) (v1_12 : Int32) (w : Wd) (H : Heap) (locs : List Loc) (ls : Array Slot), HQ E K z w s H locs → lv_has ls 2 [(1, .int v1_12), (0, rv E (some o))] → f_X5_takesOfficer_L12 K o k n v1_12 w = some (r, w') → W p l e ({ frames := 4, cells := 0, slots := 0, locals := 86 } : Room) s m args below meth c H locs 0 0 (MQ below (QI E K z w' (b2i r)) args s 0 0 (hA E)) (F0 m 12 ls []) := by
  obtain ⟨hx, hb, hml, hown, hts, hKs, hT, hb0, hlocks, hret⟩ := id C
  intro n
  induction n with
  | zero =>
    intro v1_12 w H locs ls hH hl hf
    cases hf
  | succ n ih =>
    intro v1_12 w H locs ls hH hl hf
    rw [f_X5_takesOfficer_L12] at hf
    refine hl_aload_n hx hb dX5_takesOfficer_12 rfl (lv_at hl 1 rfl) ?_
    refine g5_0 hx hb hts hown hKs hH rfl ho m2_30 dX5_takesOfficer_13 ?_
    obtain ⟨a4, ha4, hf⟩ := bnd hf
    replace ha4 := chk_some ha4
    refine gn8_4 hx hb hts hown hKs hH ha4.1 ha4.2 m2_7 dX5_takesOfficer_16 ?_
    refine hw_tok hx hb 4 (by decide) hts hown hT hH m3_161 dX5_takesOfficer_19 ?_
    obtain ⟨_, hg5, hf⟩ := bnd hf
    refine hw_acmp_ne (tgt := 86) hx hb hT (grd_some hg5) rfl dX5_takesOfficer_22 (by decide) (fun c6 => ?_) (fun c6 => ?_)
    · replace hf := (if_neg c6).symm.trans hf
      exact hk v1_12 _ _ _ _ hH (lv_sub hl [0, 1] rfl) hf
    · replace hf := (if_pos c6).symm.trans hf
      refine lv_iload_n hx hb dX5_takesOfficer_25 rfl (lv_at hl 0 rfl) ?_
      refine lv_iconst (v := 3) hx hb dX5_takesOfficer_26 (by decide) ?_
      refine lv_icmp_lt (tgt := 36) hx hb dX5_takesOfficer_27 (by decide) (fun c7 => ?_) (fun c7 => ?_)
      · replace hf := (if_pos c7).symm.trans hf
        refine hl_aload_n hx hb dX5_takesOfficer_36 rfl (lv_at hl 1 rfl) ?_
        refine g5_0 hx hb hts hown hKs hH rfl ho m2_30 dX5_takesOfficer_37 ?_
        obtain ⟨q8, hq8, hf⟩ := bnd hf
        refine hcV_v hx hb hml hown hts hKs hT hb0 hH (As := []) (rest := []) (k_X8_advance l E K H.size a4 w ha4.2 hq8) (gV m3_100 m3_57 m3_58 m1_9 m3_59) hd_X8_advance ⟨Nat.le_of_ble_eq_true rfl, Nat.le_of_ble_eq_true rfl, rfl, rfl⟩ ha4.1 ha4.2 rfl rfl rfl hl.1 rfl rc0 rfl dX5_takesOfficer_40 ⟨Nat.zero_le _, Nat.zero_le _⟩ (fun H locs hH => ?_)
        refine hl_aload_n hx hb dX5_takesOfficer_43 rfl (lv_at hl 1 rfl) ?_
        refine lv_sipush (v := 599) hx hb dX5_takesOfficer_44 (by decide) ?_
        obtain ⟨q9, hq9, hf⟩ := bnd hf
        refine hcV_i hx hb hml hown hts hKs hT hb0 hH (As := [.int 599]) (rest := []) (k_X5_takesSpan l E K H.size o 599 q8 ho hq9) (gV m3_142 m3_144 ms_8 m1_8 m3_145) hd_X5_takesSpan ⟨Nat.le_of_ble_eq_true rfl, Nat.le_of_ble_eq_true rfl, rfl, rfl⟩ rfl ho rfl rfl rfl hl.1 rfl rc0 rfl dX5_takesOfficer_47 ⟨Nat.zero_le _, Nat.zero_le _⟩ (fun H locs hH => ?_)
        refine lv_if_ne (tgt := 55) hx hb dX5_takesOfficer_50 (by decide) (fun c10 => ?_) (fun c10 => ?_)
        · replace hf := (if_neg c10).symm.trans hf
          refine hl_aload_n hx hb dX5_takesOfficer_55 rfl (lv_at hl 1 rfl) ?_
          refine g5_1 hx hb hts hown hKs hH rfl ho m2_31 dX5_takesOfficer_56 ?_
          refine hl_aload_n hx hb dX5_takesOfficer_59 rfl (lv_at hl 1 rfl) ?_
          refine g5_1 hx hb hts hown hKs hH rfl ho m2_31 dX5_takesOfficer_60 ?_
          refine lv_iconst (v := 1) hx hb dX5_takesOfficer_63 (by decide) ?_
          obtain ⟨a11, ha11, hf⟩ := bnd hf
          replace ha11 := chk_some ha11
          obtain ⟨q12, hq12, hf⟩ := bnd hf
          refine hcV_i hx hb hml hown hts hKs hT hb0 hH (As := [.int 1]) (rest := [rv E (wR q9.2 501 o)]) (k_X9_size l E K H.size a11 1 q9.2 ha11.2 hq12) (gV m3_150 m3_151 m3_152 m1_2 m3_153) hd_X9_size ⟨Nat.le_of_ble_eq_true rfl, Nat.le_of_ble_eq_true rfl, rfl, rfl⟩ ha11.1 ha11.2 rfl rfl rfl hl.1 rfl (rcV rc0) rfl dX5_takesOfficer_64 ⟨Nat.zero_le _, Nat.zero_le _⟩ (fun H locs hH => ?_)
          refine lv_iconst (v := 1) hx hb dX5_takesOfficer_67 (by decide) ?_
          refine lv_isub hx hb dX5_takesOfficer_68 ?_
          refine hl_aload_n hx hb dX5_takesOfficer_69 rfl (lv_at hl 1 rfl) ?_
          refine g5_5 hx hb hts hown hKs hH rfl ho m2_37 dX5_takesOfficer_70 ?_
          refine hl_aload_n hx hb dX5_takesOfficer_73 rfl (lv_at hl 1 rfl) ?_
          refine g5_6 hx hb hts hown hKs hH rfl ho m2_38 dX5_takesOfficer_74 ?_
          obtain ⟨q13, hq13, hf⟩ := bnd hf
          refine hcV_v hx hb hml hown hts hKs hT hb0 hH (As := [.int ((q12.1 - 1)), .int ((wI q12.2 505 o)), .int ((wI q12.2 506 o))]) (rest := []) (k_X9_addOff l E K H.size a11 (q12.1 - 1) (wI q12.2 505 o) (wI q12.2 506 o) q12.2 ha11.2 hq13) (gV m3_163 m3_164 m3_165 m1_2 m3_166) hd_X9_addOff ⟨Nat.le_of_ble_eq_true rfl, Nat.le_of_ble_eq_true rfl, rfl, rfl⟩ ha11.1 ha11.2 rfl rfl rfl hl.1 rfl rc0 rfl dX5_takesOfficer_77 ⟨Nat.zero_le _, Nat.zero_le _⟩ (fun H locs hH => ?_)
          refine lv_iinc (v := (v1_12 + 1)) (lv' := [(1, .int ((v1_12 + 1))), (0, rv E (some o))]) hx hb dX5_takesOfficer_80 hl (k := 0) rfl rfl (by decide) rfl (fun ls hl => ?_)
          refine lv_goto (tgt := 12) hx hb dX5_takesOfficer_83 (by decide) ?_
          exact ih (v1_12 + 1) _ _ _ _ hH (lv_sub hl [0, 1] rfl) hf
        · replace hf := (if_pos c10).symm.trans hf
          refine lv_iconst (v := 0) hx hb dX5_takesOfficer_53 (by decide) ?_
          exact hw_zret hx hb hret rfl hf hH hlocks dX5_takesOfficer_54
      · replace hf := (if_neg c7).symm.trans hf
        refine hl_aload_n hx hb dX5_takesOfficer_30 rfl (lv_at hl 1 rfl) ?_
        refine lv_iconst (v := 4) hx hb dX5_takesOfficer_31 (by decide) ?_
        obtain ⟨q14, hq14, hf⟩ := bnd hf
        refine hcV_i hx hb hml hown hts hKs hT hb0 hH (As := [.int 4]) (rest := []) (k_X5_fail l E K H.size o 4 w ho hq14) (gV m3_96 m3_98 ms_3 m1_8 m3_99) hd_X5_fail ⟨Nat.le_of_ble_eq_true rfl, Nat.le_of_ble_eq_true rfl, rfl, rfl⟩ rfl ho rfl rfl rfl hl.1 rfl rc0 rfl dX5_takesOfficer_32 ⟨Nat.zero_le _, Nat.zero_le _⟩ (fun H locs hH => ?_)
        exact hw_zret hx hb hret rfl hf hH hlocks dX5_takesOfficer_35
set_option maxHeartbeats 4000000 in
set_option maxRecDepth 100000 in
theorem k_X5_takesOfficer (l : Launch) (E : Ev) (K : Kd) (z : Nat) (o : Nat) (w : Wd) (ho : K o = some (4, 0)) {r : Bool} {w' : Wd} (hf : f_X5_takesOfficer K o w = some (r, w')) : Met l yX5_takesOfficer (Cond.code yX5_takesOfficer cX5_takesOfficer 2 (Option.some Jvm.ClassFile.FieldType.boolean) :: bt) ({ frames := 4, cells := 0, slots := 0, locals := 86 } : Room) (va_Pc [rv E (some o)] (HB E K w z)) (QI E K z w' (b2i r)) 0 0 (hA E) := by
  refine Met.ofW (cc := cX5_takesOfficer) (maxL := 2) (ret := (Option.some Jvm.ClassFile.FieldType.boolean)) (by decide) rfl ?_
  intro p e s m args below meth c s₁ B hml hv
  obtain ⟨rfl, hz, hP, hKs, hT, hb0⟩ := hv
  have C : CX p l e s m _ meth c cX5_takesOfficer 2 RX5 (Option.some Jvm.ClassFile.FieldType.boolean) E := ⟨B.exec, B.bytes, hml, findClass_of_methodNamed B.named, fun w h => atoms_spec (ws := Cond.code yX5_takesOfficer cX5_takesOfficer 2 (Option.some Jvm.ClassFile.FieldType.boolean) :: bt) B.pre w (List.mem_cons_of_mem _ h), hKs, hT, by rw [hz]; exact hb0, B.notSynchronized, B.returns⟩
  have hH : HQ E K z w s s.heap [] := ⟨hP, va_S.rf, hz⟩
  obtain ⟨hx, hb, hml, hown, hts, hKs, hT, hb0, hlocks, hret⟩ := id C
  have hl := lv_entry [rv E (some o)] (n := 2) (by simp [lg_len_nil, lg_len_i, lg_len_j, lg_len_q, lg_len_f, lg_len_d, lg_len_r])
  rw [lg_entry_eq]
  generalize (lg_sl [rv E (some o)] ++ List.replicate (2 - (lg_sl [rv E (some o)]).length) Slot.unset).toArray = ls at hl ⊢
  replace hl : lv_has ls 2 [(0, rv E (some o))] := by simpa only [lv_args, cat_q, cat_i, cat_j, reduceIte, Nat.reduceEqDiff, Nat.reduceAdd, Nat.zero_add] using hl
  generalize s.heap = H at hH ⊢
  unfold f_X5_takesOfficer at hf
  refine hl_aload_n hx hb dX5_takesOfficer_0 rfl (lv_at hl 0 rfl) ?_
  refine lv_iconst (v := 1) hx hb dX5_takesOfficer_1 (by decide) ?_
  obtain ⟨q1, hq1, hf⟩ := bnd hf
  refine hcV_i hx hb hml hown hts hKs hT hb0 hH (As := [.int 1]) (rest := []) (k_X5_takesNewName l E K H.size o 1 w ho hq1) (gV m3_119 m3_121 ms_6 m1_8 m3_122) hd_X5_takesNewName ⟨Nat.le_of_ble_eq_true rfl, Nat.le_of_ble_eq_true rfl, rfl, rfl⟩ rfl ho rfl rfl rfl hl.1 rfl rc0 rfl dX5_takesOfficer_2 ⟨Nat.zero_le _, Nat.zero_le _⟩ (fun H locs hH => ?_)
  refine lv_if_ne (tgt := 10) hx hb dX5_takesOfficer_5 (by decide) (fun c2 => ?_) (fun c2 => ?_)
  · replace hf := (if_neg c2).symm.trans hf
    refine lv_iconst (v := 0) hx hb dX5_takesOfficer_10 (by decide) ?_
    refine lv_istore_n (i := 1) (lv' := [(1, .int 0), (0, rv E (some o))]) hx hb dX5_takesOfficer_11 rfl hl (by decide) rfl (fun ls hl => ?_)
    refine l_X5_takesOfficer_L12  C ho _ (fun v1_12 w3 H locs ls hH hl hf => ?_) fu 0 q1.2 _ _ _ hH (lv_sub hl [0, 1] rfl) hf
    refine lv_iconst (v := 1) hx hb dX5_takesOfficer_86 (by decide) ?_
    exact hw_zret hx hb hret rfl hf hH hlocks dX5_takesOfficer_87
  · replace hf := (if_pos c2).symm.trans hf
    refine lv_iconst (v := 0) hx hb dX5_takesOfficer_8 (by decide) ?_
    exact hw_zret hx hb hret rfl hf hH hlocks dX5_takesOfficer_9

theorem dX5_takesWitness_0 : decode cX5_takesWitness 0 = .ok (.aload_n 0, 1) := by decide +kernel
theorem dX5_takesWitness_1 : decode cX5_takesWitness 1 = .ok (.iconst 2, 1) := by decide +kernel
theorem dX5_takesWitness_2 : decode cX5_takesWitness 2 = .ok (.invokevirtual 129, 3) := by decide +kernel
theorem dX5_takesWitness_5 : decode cX5_takesWitness 5 = .ok (.ifCond .eq 23, 3) := by decide +kernel
theorem dX5_takesWitness_8 : decode cX5_takesWitness 8 = .ok (.aload_n 0, 1) := by decide +kernel
theorem dX5_takesWitness_9 : decode cX5_takesWitness 9 = .ok (.getstatic 161, 3) := by decide +kernel
theorem dX5_takesWitness_12 : decode cX5_takesWitness 12 = .ok (.invokevirtual 55, 3) := by decide +kernel
theorem dX5_takesWitness_15 : decode cX5_takesWitness 15 = .ok (.ifCond .eq 13, 3) := by decide +kernel
theorem dX5_takesWitness_18 : decode cX5_takesWitness 18 = .ok (.aload_n 0, 1) := by decide +kernel
theorem dX5_takesWitness_19 : decode cX5_takesWitness 19 = .ok (.sipush 599, 3) := by decide +kernel
theorem dX5_takesWitness_22 : decode cX5_takesWitness 22 = .ok (.invokevirtual 135, 3) := by decide +kernel
theorem dX5_takesWitness_25 : decode cX5_takesWitness 25 = .ok (.ifCond .ne 5, 3) := by decide +kernel
theorem dX5_takesWitness_28 : decode cX5_takesWitness 28 = .ok (.iconst 0, 1) := by decide +kernel
theorem dX5_takesWitness_29 : decode cX5_takesWitness 29 = .ok (.ireturn, 1) := by decide +kernel
theorem dX5_takesWitness_30 : decode cX5_takesWitness 30 = .ok (.aload_n 0, 1) := by decide +kernel
theorem dX5_takesWitness_31 : decode cX5_takesWitness 31 = .ok (.getfield 21, 3) := by decide +kernel
theorem dX5_takesWitness_34 : decode cX5_takesWitness 34 = .ok (.iconst 2, 1) := by decide +kernel
theorem dX5_takesWitness_35 : decode cX5_takesWitness 35 = .ok (.invokevirtual 141, 3) := by decide +kernel
theorem dX5_takesWitness_38 : decode cX5_takesWitness 38 = .ok (.iconst 1, 1) := by decide +kernel
theorem dX5_takesWitness_39 : decode cX5_takesWitness 39 = .ok (.isub, 1) := by decide +kernel
theorem dX5_takesWitness_40 : decode cX5_takesWitness 40 = .ok (.istore_n 1, 1) := by decide +kernel
theorem dX5_takesWitness_41 : decode cX5_takesWitness 41 = .ok (.aload_n 0, 1) := by decide +kernel
theorem dX5_takesWitness_42 : decode cX5_takesWitness 42 = .ok (.getfield 21, 3) := by decide +kernel
theorem dX5_takesWitness_45 : decode cX5_takesWitness 45 = .ok (.getfield 164, 3) := by decide +kernel
theorem dX5_takesWitness_48 : decode cX5_takesWitness 48 = .ok (.iload_n 1, 1) := by decide +kernel
theorem dX5_takesWitness_49 : decode cX5_takesWitness 49 = .ok (.aload_n 0, 1) := by decide +kernel
theorem dX5_takesWitness_50 : decode cX5_takesWitness 50 = .ok (.getfield 144, 3) := by decide +kernel
theorem dX5_takesWitness_53 : decode cX5_takesWitness 53 = .ok (.iastore, 1) := by decide +kernel
theorem dX5_takesWitness_54 : decode cX5_takesWitness 54 = .ok (.aload_n 0, 1) := by decide +kernel
theorem dX5_takesWitness_55 : decode cX5_takesWitness 55 = .ok (.getfield 21, 3) := by decide +kernel
theorem dX5_takesWitness_58 : decode cX5_takesWitness 58 = .ok (.getfield 167, 3) := by decide +kernel
theorem dX5_takesWitness_61 : decode cX5_takesWitness 61 = .ok (.iload_n 1, 1) := by decide +kernel
theorem dX5_takesWitness_62 : decode cX5_takesWitness 62 = .ok (.aload_n 0, 1) := by decide +kernel
theorem dX5_takesWitness_63 : decode cX5_takesWitness 63 = .ok (.getfield 147, 3) := by decide +kernel
theorem dX5_takesWitness_66 : decode cX5_takesWitness 66 = .ok (.iastore, 1) := by decide +kernel
theorem dX5_takesWitness_67 : decode cX5_takesWitness 67 = .ok (.aload_n 0, 1) := by decide +kernel
theorem dX5_takesWitness_68 : decode cX5_takesWitness 68 = .ok (.iconst 0, 1) := by decide +kernel
theorem dX5_takesWitness_69 : decode cX5_takesWitness 69 = .ok (.putfield 144, 3) := by decide +kernel
theorem dX5_takesWitness_72 : decode cX5_takesWitness 72 = .ok (.aload_n 0, 1) := by decide +kernel
theorem dX5_takesWitness_73 : decode cX5_takesWitness 73 = .ok (.bipush 7, 2) := by decide +kernel
theorem dX5_takesWitness_75 : decode cX5_takesWitness 75 = .ok (.putfield 147, 3) := by decide +kernel
theorem dX5_takesWitness_78 : decode cX5_takesWitness 78 = .ok (.aload_n 0, 1) := by decide +kernel
theorem dX5_takesWitness_79 : decode cX5_takesWitness 79 = .ok (.getfield 12, 3) := by decide +kernel
theorem dX5_takesWitness_82 : decode cX5_takesWitness 82 = .ok (.getfield 39, 3) := by decide +kernel
theorem dX5_takesWitness_85 : decode cX5_takesWitness 85 = .ok (.getstatic 132, 3) := by decide +kernel
theorem dX5_takesWitness_88 : decode cX5_takesWitness 88 = .ok (.if_acmp .ne 21, 3) := by decide +kernel
theorem dX5_takesWitness_91 : decode cX5_takesWitness 91 = .ok (.aload_n 0, 1) := by decide +kernel
theorem dX5_takesWitness_92 : decode cX5_takesWitness 92 = .ok (.getfield 12, 3) := by decide +kernel
theorem dX5_takesWitness_95 : decode cX5_takesWitness 95 = .ok (.invokevirtual 112, 3) := by decide +kernel
theorem dX5_takesWitness_98 : decode cX5_takesWitness 98 = .ok (.aload_n 0, 1) := by decide +kernel
theorem dX5_takesWitness_99 : decode cX5_takesWitness 99 = .ok (.bipush 7, 2) := by decide +kernel
theorem dX5_takesWitness_101 : decode cX5_takesWitness 101 = .ok (.invokevirtual 135, 3) := by decide +kernel
theorem dX5_takesWitness_104 : decode cX5_takesWitness 104 = .ok (.ifCond .ne 5, 3) := by decide +kernel
theorem dX5_takesWitness_107 : decode cX5_takesWitness 107 = .ok (.iconst 0, 1) := by decide +kernel
theorem dX5_takesWitness_108 : decode cX5_takesWitness 108 = .ok (.ireturn, 1) := by decide +kernel
theorem dX5_takesWitness_109 : decode cX5_takesWitness 109 = .ok (.aload_n 0, 1) := by decide +kernel
theorem dX5_takesWitness_110 : decode cX5_takesWitness 110 = .ok (.getfield 21, 3) := by decide +kernel
theorem dX5_takesWitness_113 : decode cX5_takesWitness 113 = .ok (.getfield 170, 3) := by decide +kernel
theorem dX5_takesWitness_116 : decode cX5_takesWitness 116 = .ok (.iload_n 1, 1) := by decide +kernel
theorem dX5_takesWitness_117 : decode cX5_takesWitness 117 = .ok (.aload_n 0, 1) := by decide +kernel
theorem dX5_takesWitness_118 : decode cX5_takesWitness 118 = .ok (.getfield 144, 3) := by decide +kernel
theorem dX5_takesWitness_121 : decode cX5_takesWitness 121 = .ok (.iastore, 1) := by decide +kernel
theorem dX5_takesWitness_122 : decode cX5_takesWitness 122 = .ok (.aload_n 0, 1) := by decide +kernel
theorem dX5_takesWitness_123 : decode cX5_takesWitness 123 = .ok (.getfield 21, 3) := by decide +kernel
theorem dX5_takesWitness_126 : decode cX5_takesWitness 126 = .ok (.getfield 173, 3) := by decide +kernel
theorem dX5_takesWitness_129 : decode cX5_takesWitness 129 = .ok (.iload_n 1, 1) := by decide +kernel
theorem dX5_takesWitness_130 : decode cX5_takesWitness 130 = .ok (.aload_n 0, 1) := by decide +kernel
theorem dX5_takesWitness_131 : decode cX5_takesWitness 131 = .ok (.getfield 147, 3) := by decide +kernel
theorem dX5_takesWitness_134 : decode cX5_takesWitness 134 = .ok (.iastore, 1) := by decide +kernel
theorem dX5_takesWitness_135 : decode cX5_takesWitness 135 = .ok (.iconst 1, 1) := by decide +kernel
theorem dX5_takesWitness_136 : decode cX5_takesWitness 136 = .ok (.ireturn, 1) := by decide +kernel
theorem hd_X5_takesWitness : yX5_takesWitness.cls = RX5 ∧ yX5_takesWitness.cls ≠ "java/lang/invoke/MethodHandle" ∧ yX5_takesWitness.cls ≠ "java/lang/invoke/VarHandle" ∧ (parseMethodDescriptor yX5_takesWitness.desc).map (fun d => d.parameters.length) = some 0 := by decide +kernel
theorem hs_X5_takesWitness : yX5_takesWitness.cls ≠ "java/lang/invoke/MethodHandle" ∧ yX5_takesWitness.cls ≠ "java/lang/invoke/VarHandle" ∧ (parseMethodDescriptor yX5_takesWitness.desc).map (fun d => d.parameters.length) = some 0 := by decide +kernel
set_option maxHeartbeats 4000000 in
set_option maxRecDepth 100000 in
theorem k_X5_takesWitness (l : Launch) (E : Ev) (K : Kd) (z : Nat) (o : Nat) (w : Wd) (ho : K o = some (4, 0)) {r : Bool} {w' : Wd} (hf : f_X5_takesWitness K o w = some (r, w')) : Met l yX5_takesWitness (Cond.code yX5_takesWitness cX5_takesWitness 2 (Option.some Jvm.ClassFile.FieldType.boolean) :: bt) ({ frames := 4, cells := 0, slots := 0, locals := 86 } : Room) (va_Pc [rv E (some o)] (HB E K w z)) (QI E K z w' (b2i r)) 0 0 (hA E) := by
  refine Met.ofW (cc := cX5_takesWitness) (maxL := 2) (ret := (Option.some Jvm.ClassFile.FieldType.boolean)) (by decide) rfl ?_
  intro p e s m args below meth c s₁ B hml hv
  obtain ⟨rfl, hz, hP, hKs, hT, hb0⟩ := hv
  have C : CX p l e s m _ meth c cX5_takesWitness 2 RX5 (Option.some Jvm.ClassFile.FieldType.boolean) E := ⟨B.exec, B.bytes, hml, findClass_of_methodNamed B.named, fun w h => atoms_spec (ws := Cond.code yX5_takesWitness cX5_takesWitness 2 (Option.some Jvm.ClassFile.FieldType.boolean) :: bt) B.pre w (List.mem_cons_of_mem _ h), hKs, hT, by rw [hz]; exact hb0, B.notSynchronized, B.returns⟩
  have hH : HQ E K z w s s.heap [] := ⟨hP, va_S.rf, hz⟩
  obtain ⟨hx, hb, hml, hown, hts, hKs, hT, hb0, hlocks, hret⟩ := id C
  have hl := lv_entry [rv E (some o)] (n := 2) (by simp [lg_len_nil, lg_len_i, lg_len_j, lg_len_q, lg_len_f, lg_len_d, lg_len_r])
  rw [lg_entry_eq]
  generalize (lg_sl [rv E (some o)] ++ List.replicate (2 - (lg_sl [rv E (some o)]).length) Slot.unset).toArray = ls at hl ⊢
  replace hl : lv_has ls 2 [(0, rv E (some o))] := by simpa only [lv_args, cat_q, cat_i, cat_j, reduceIte, Nat.reduceEqDiff, Nat.reduceAdd, Nat.zero_add] using hl
  generalize s.heap = H at hH ⊢
  unfold f_X5_takesWitness at hf
  refine hl_aload_n hx hb dX5_takesWitness_0 rfl (lv_at hl 0 rfl) ?_
  refine lv_iconst (v := 2) hx hb dX5_takesWitness_1 (by decide) ?_
  obtain ⟨q1, hq1, hf⟩ := bnd hf
  refine hcV_i hx hb hml hown hts hKs hT hb0 hH (As := [.int 2]) (rest := []) (k_X5_takesNewName l E K H.size o 2 w ho hq1) (gV m3_119 m3_121 ms_6 m1_8 m3_122) hd_X5_takesNewName ⟨Nat.le_of_ble_eq_true rfl, Nat.le_of_ble_eq_true rfl, rfl, rfl⟩ rfl ho rfl rfl rfl hl.1 rfl rc0 rfl dX5_takesWitness_2 ⟨Nat.zero_le _, Nat.zero_le _⟩ (fun H locs hH => ?_)
  refine lv_if_eq (tgt := 28) hx hb dX5_takesWitness_5 (by decide) (fun c2 => ?_) (fun c2 => ?_)
  · replace hf := (if_pos c2).symm.trans hf
    refine lv_iconst (v := 0) hx hb dX5_takesWitness_28 (by decide) ?_
    exact hw_zret hx hb hret rfl hf hH hlocks dX5_takesWitness_29
  · replace hf := (if_neg c2).symm.trans hf
    refine hl_aload_n hx hb dX5_takesWitness_8 rfl (lv_at hl 0 rfl) ?_
    refine hw_tok hx hb 6 (by decide) hts hown hT hH m3_171 dX5_takesWitness_9 ?_
    obtain ⟨q3, hq3, hf⟩ := bnd hf
    refine hcV_i hx hb hml hown hts hKs hT hb0 hH (As := [re E (some 6)]) (rest := []) (k_X5_takes l E K H.size o (some 6) q1.2 ho hq3) (gV m3_138 m3_140 ms_7 m1_8 m3_141) hd_X5_takes ⟨Nat.le_of_ble_eq_true rfl, Nat.le_of_ble_eq_true rfl, rfl, rfl⟩ rfl ho rfl rfl rfl hl.1 rfl rc0 rfl dX5_takesWitness_12 ⟨Nat.zero_le _, Nat.zero_le _⟩ (fun H locs hH => ?_)
    refine lv_if_eq (tgt := 28) hx hb dX5_takesWitness_15 (by decide) (fun c4 => ?_) (fun c4 => ?_)
    · replace hf := (if_pos c4).symm.trans hf
      refine lv_iconst (v := 0) hx hb dX5_takesWitness_28 (by decide) ?_
      exact hw_zret hx hb hret rfl hf hH hlocks dX5_takesWitness_29
    · replace hf := (if_neg c4).symm.trans hf
      refine hl_aload_n hx hb dX5_takesWitness_18 rfl (lv_at hl 0 rfl) ?_
      refine lv_sipush (v := 599) hx hb dX5_takesWitness_19 (by decide) ?_
      obtain ⟨q5, hq5, hf⟩ := bnd hf
      refine hcV_i hx hb hml hown hts hKs hT hb0 hH (As := [.int 599]) (rest := []) (k_X5_takesSpan l E K H.size o 599 q3.2 ho hq5) (gV m3_142 m3_144 ms_8 m1_8 m3_145) hd_X5_takesSpan ⟨Nat.le_of_ble_eq_true rfl, Nat.le_of_ble_eq_true rfl, rfl, rfl⟩ rfl ho rfl rfl rfl hl.1 rfl rc0 rfl dX5_takesWitness_22 ⟨Nat.zero_le _, Nat.zero_le _⟩ (fun H locs hH => ?_)
      refine lv_if_ne (tgt := 30) hx hb dX5_takesWitness_25 (by decide) (fun c6 => ?_) (fun c6 => ?_)
      · replace hf := (if_neg c6).symm.trans hf
        refine hl_aload_n hx hb dX5_takesWitness_30 rfl (lv_at hl 0 rfl) ?_
        refine g5_1 hx hb hts hown hKs hH rfl ho m2_31 dX5_takesWitness_31 ?_
        refine lv_iconst (v := 2) hx hb dX5_takesWitness_34 (by decide) ?_
        obtain ⟨a7, ha7, hf⟩ := bnd hf
        replace ha7 := chk_some ha7
        obtain ⟨q8, hq8, hf⟩ := bnd hf
        refine hcV_i hx hb hml hown hts hKs hT hb0 hH (As := [.int 2]) (rest := []) (k_X9_size l E K H.size a7 2 q5.2 ha7.2 hq8) (gV m3_150 m3_151 m3_152 m1_2 m3_153) hd_X9_size ⟨Nat.le_of_ble_eq_true rfl, Nat.le_of_ble_eq_true rfl, rfl, rfl⟩ ha7.1 ha7.2 rfl rfl rfl hl.1 rfl rc0 rfl dX5_takesWitness_35 ⟨Nat.zero_le _, Nat.zero_le _⟩ (fun H locs hH => ?_)
        refine lv_iconst (v := 1) hx hb dX5_takesWitness_38 (by decide) ?_
        refine lv_isub hx hb dX5_takesWitness_39 ?_
        refine lv_istore_n (i := 1) (lv' := [(1, .int ((q8.1 - 1))), (0, rv E (some o))]) hx hb dX5_takesWitness_40 rfl hl (by decide) rfl (fun ls hl => ?_)
        refine hl_aload_n hx hb dX5_takesWitness_41 rfl (lv_at hl 1 rfl) ?_
        refine g5_1 hx hb hts hown hKs hH rfl ho m2_31 dX5_takesWitness_42 ?_
        obtain ⟨a9, ha9, hf⟩ := bnd hf
        replace ha9 := chk_some ha9
        refine gn9_5 hx hb hts hown hKs hH ha9.1 ha9.2 m1_161 dX5_takesWitness_45 ?_
        refine lv_iload_n hx hb dX5_takesWitness_48 rfl (lv_at hl 0 rfl) ?_
        refine hl_aload_n hx hb dX5_takesWitness_49 rfl (lv_at hl 1 rfl) ?_
        refine g5_5 hx hb hts hown hKs hH rfl ho m2_37 dX5_takesWitness_50 ?_
        obtain ⟨a10, ha10, hf⟩ := bnd hf
        replace ha10 := cha_some ha10
        obtain ⟨j11, hj11, hf⟩ := bnd hf
        obtain ⟨w12, hw12, hf⟩ := bnd hf
        replace hw12 := Option.some.inj hw12
        refine hw_iast (x := (wI q8.2 505 o)) hx hb hKs hH ha10.1 ha10.2 hj11 dX5_takesWitness_53 (fun H locs hH => ?_)
        rw [hw12] at hH
        refine hl_aload_n hx hb dX5_takesWitness_54 rfl (lv_at hl 1 rfl) ?_
        refine g5_1 hx hb hts hown hKs hH rfl ho m2_31 dX5_takesWitness_55 ?_
        obtain ⟨a13, ha13, hf⟩ := bnd hf
        replace ha13 := chk_some ha13
        refine gn9_6 hx hb hts hown hKs hH ha13.1 ha13.2 m1_166 dX5_takesWitness_58 ?_
        refine lv_iload_n hx hb dX5_takesWitness_61 rfl (lv_at hl 0 rfl) ?_
        refine hl_aload_n hx hb dX5_takesWitness_62 rfl (lv_at hl 1 rfl) ?_
        refine g5_6 hx hb hts hown hKs hH rfl ho m2_38 dX5_takesWitness_63 ?_
        obtain ⟨a14, ha14, hf⟩ := bnd hf
        replace ha14 := cha_some ha14
        obtain ⟨j15, hj15, hf⟩ := bnd hf
        obtain ⟨w16, hw16, hf⟩ := bnd hf
        replace hw16 := Option.some.inj hw16
        refine hw_iast (x := (wI w12 506 o)) hx hb hKs hH ha14.1 ha14.2 hj15 dX5_takesWitness_66 (fun H locs hH => ?_)
        rw [hw16] at hH
        refine hl_aload_n hx hb dX5_takesWitness_67 rfl (lv_at hl 1 rfl) ?_
        refine lv_iconst (v := 0) hx hb dX5_takesWitness_68 (by decide) ?_
        obtain ⟨w17, hw17, hf⟩ := bnd hf
        replace hw17 := Option.some.inj hw17
        refine p5_5 (v := 0) hx hb hts hown hKs hH rfl ho m2_37 dX5_takesWitness_69 (fun H locs hH => ?_)
        rw [hw17] at hH
        refine hl_aload_n hx hb dX5_takesWitness_72 rfl (lv_at hl 1 rfl) ?_
        refine lv_bipush (v := 7) hx hb dX5_takesWitness_73 (by decide) ?_
        obtain ⟨w18, hw18, hf⟩ := bnd hf
        replace hw18 := Option.some.inj hw18
        refine p5_6 (v := 7) hx hb hts hown hKs hH rfl ho m2_38 dX5_takesWitness_75 (fun H locs hH => ?_)
        rw [hw18] at hH
        refine hl_aload_n hx hb dX5_takesWitness_78 rfl (lv_at hl 1 rfl) ?_
        refine g5_0 hx hb hts hown hKs hH rfl ho m2_30 dX5_takesWitness_79 ?_
        obtain ⟨a19, ha19, hf⟩ := bnd hf
        replace ha19 := chk_some ha19
        refine gn8_4 hx hb hts hown hKs hH ha19.1 ha19.2 m2_7 dX5_takesWitness_82 ?_
        refine hw_tok hx hb 2 (by decide) hts hown hT hH m3_136 dX5_takesWitness_85 ?_
        obtain ⟨_, hg20, hf⟩ := bnd hf
        refine hw_acmp_ne (tgt := 109) hx hb hT (grd_some hg20) rfl dX5_takesWitness_88 (by decide) (fun c21 => ?_) (fun c21 => ?_)
        · replace hf := (if_neg c21).symm.trans hf
          refine hl_aload_n hx hb dX5_takesWitness_109 rfl (lv_at hl 1 rfl) ?_
          refine g5_1 hx hb hts hown hKs hH rfl ho m2_31 dX5_takesWitness_110 ?_
          obtain ⟨a22, ha22, hf⟩ := bnd hf
          replace ha22 := chk_some ha22
          refine gn9_7 hx hb hts hown hKs hH ha22.1 ha22.2 m1_168 dX5_takesWitness_113 ?_
          refine lv_iload_n hx hb dX5_takesWitness_116 rfl (lv_at hl 0 rfl) ?_
          refine hl_aload_n hx hb dX5_takesWitness_117 rfl (lv_at hl 1 rfl) ?_
          refine g5_5 hx hb hts hown hKs hH rfl ho m2_37 dX5_takesWitness_118 ?_
          obtain ⟨a23, ha23, hf⟩ := bnd hf
          replace ha23 := cha_some ha23
          obtain ⟨j24, hj24, hf⟩ := bnd hf
          obtain ⟨w25, hw25, hf⟩ := bnd hf
          replace hw25 := Option.some.inj hw25
          refine hw_iast (x := (wI w18 505 o)) hx hb hKs hH ha23.1 ha23.2 hj24 dX5_takesWitness_121 (fun H locs hH => ?_)
          rw [hw25] at hH
          refine hl_aload_n hx hb dX5_takesWitness_122 rfl (lv_at hl 1 rfl) ?_
          refine g5_1 hx hb hts hown hKs hH rfl ho m2_31 dX5_takesWitness_123 ?_
          obtain ⟨a26, ha26, hf⟩ := bnd hf
          replace ha26 := chk_some ha26
          refine gn9_8 hx hb hts hown hKs hH ha26.1 ha26.2 m1_172 dX5_takesWitness_126 ?_
          refine lv_iload_n hx hb dX5_takesWitness_129 rfl (lv_at hl 0 rfl) ?_
          refine hl_aload_n hx hb dX5_takesWitness_130 rfl (lv_at hl 1 rfl) ?_
          refine g5_6 hx hb hts hown hKs hH rfl ho m2_38 dX5_takesWitness_131 ?_
          obtain ⟨a27, ha27, hf⟩ := bnd hf
          replace ha27 := cha_some ha27
          obtain ⟨j28, hj28, hf⟩ := bnd hf
          obtain ⟨w29, hw29, hf⟩ := bnd hf
          replace hw29 := Option.some.inj hw29
          refine hw_iast (x := (wI w25 506 o)) hx hb hKs hH ha27.1 ha27.2 hj28 dX5_takesWitness_134 (fun H locs hH => ?_)
          rw [hw29] at hH
          refine lv_iconst (v := 1) hx hb dX5_takesWitness_135 (by decide) ?_
          exact hw_zret hx hb hret rfl hf hH hlocks dX5_takesWitness_136
        · replace hf := (if_pos c21).symm.trans hf
          refine hl_aload_n hx hb dX5_takesWitness_91 rfl (lv_at hl 1 rfl) ?_
          refine g5_0 hx hb hts hown hKs hH rfl ho m2_30 dX5_takesWitness_92 ?_
          obtain ⟨q30, hq30, hf⟩ := bnd hf
          refine hcV_v hx hb hml hown hts hKs hT hb0 hH (As := []) (rest := []) (k_X8_advance l E K H.size a19 w18 ha19.2 hq30) (gV m3_100 m3_57 m3_58 m1_9 m3_59) hd_X8_advance ⟨Nat.le_of_ble_eq_true rfl, Nat.le_of_ble_eq_true rfl, rfl, rfl⟩ ha19.1 ha19.2 rfl rfl rfl hl.1 rfl rc0 rfl dX5_takesWitness_95 ⟨Nat.zero_le _, Nat.zero_le _⟩ (fun H locs hH => ?_)
          refine hl_aload_n hx hb dX5_takesWitness_98 rfl (lv_at hl 1 rfl) ?_
          refine lv_bipush (v := 7) hx hb dX5_takesWitness_99 (by decide) ?_
          obtain ⟨q31, hq31, hf⟩ := bnd hf
          refine hcV_i hx hb hml hown hts hKs hT hb0 hH (As := [.int 7]) (rest := []) (k_X5_takesSpan l E K H.size o 7 q30 ho hq31) (gV m3_142 m3_144 ms_8 m1_8 m3_145) hd_X5_takesSpan ⟨Nat.le_of_ble_eq_true rfl, Nat.le_of_ble_eq_true rfl, rfl, rfl⟩ rfl ho rfl rfl rfl hl.1 rfl rc0 rfl dX5_takesWitness_101 ⟨Nat.zero_le _, Nat.zero_le _⟩ (fun H locs hH => ?_)
          refine lv_if_ne (tgt := 109) hx hb dX5_takesWitness_104 (by decide) (fun c32 => ?_) (fun c32 => ?_)
          · replace hf := (if_neg c32).symm.trans hf
            refine hl_aload_n hx hb dX5_takesWitness_109 rfl (lv_at hl 1 rfl) ?_
            refine g5_1 hx hb hts hown hKs hH rfl ho m2_31 dX5_takesWitness_110 ?_
            obtain ⟨a33, ha33, hf⟩ := bnd hf
            replace ha33 := chk_some ha33
            refine gn9_7 hx hb hts hown hKs hH ha33.1 ha33.2 m1_168 dX5_takesWitness_113 ?_
            refine lv_iload_n hx hb dX5_takesWitness_116 rfl (lv_at hl 0 rfl) ?_
            refine hl_aload_n hx hb dX5_takesWitness_117 rfl (lv_at hl 1 rfl) ?_
            refine g5_5 hx hb hts hown hKs hH rfl ho m2_37 dX5_takesWitness_118 ?_
            obtain ⟨a34, ha34, hf⟩ := bnd hf
            replace ha34 := cha_some ha34
            obtain ⟨j35, hj35, hf⟩ := bnd hf
            obtain ⟨w36, hw36, hf⟩ := bnd hf
            replace hw36 := Option.some.inj hw36
            refine hw_iast (x := (wI q31.2 505 o)) hx hb hKs hH ha34.1 ha34.2 hj35 dX5_takesWitness_121 (fun H locs hH => ?_)
            rw [hw36] at hH
            refine hl_aload_n hx hb dX5_takesWitness_122 rfl (lv_at hl 1 rfl) ?_
            refine g5_1 hx hb hts hown hKs hH rfl ho m2_31 dX5_takesWitness_123 ?_
            obtain ⟨a37, ha37, hf⟩ := bnd hf
            replace ha37 := chk_some ha37
            refine gn9_8 hx hb hts hown hKs hH ha37.1 ha37.2 m1_172 dX5_takesWitness_126 ?_
            refine lv_iload_n hx hb dX5_takesWitness_129 rfl (lv_at hl 0 rfl) ?_
            refine hl_aload_n hx hb dX5_takesWitness_130 rfl (lv_at hl 1 rfl) ?_
            refine g5_6 hx hb hts hown hKs hH rfl ho m2_38 dX5_takesWitness_131 ?_
            obtain ⟨a38, ha38, hf⟩ := bnd hf
            replace ha38 := cha_some ha38
            obtain ⟨j39, hj39, hf⟩ := bnd hf
            obtain ⟨w40, hw40, hf⟩ := bnd hf
            replace hw40 := Option.some.inj hw40
            refine hw_iast (x := (wI w36 506 o)) hx hb hKs hH ha38.1 ha38.2 hj39 dX5_takesWitness_134 (fun H locs hH => ?_)
            rw [hw40] at hH
            refine lv_iconst (v := 1) hx hb dX5_takesWitness_135 (by decide) ?_
            exact hw_zret hx hb hret rfl hf hH hlocks dX5_takesWitness_136
          · replace hf := (if_pos c32).symm.trans hf
            refine lv_iconst (v := 0) hx hb dX5_takesWitness_107 (by decide) ?_
            exact hw_zret hx hb hret rfl hf hH hlocks dX5_takesWitness_108
      · replace hf := (if_pos c6).symm.trans hf
        refine lv_iconst (v := 0) hx hb dX5_takesWitness_28 (by decide) ?_
        exact hw_zret hx hb hret rfl hf hH hlocks dX5_takesWitness_29

theorem dX5_takesCase_0 : decode cX5_takesCase 0 = .ok (.aload_n 0, 1) := by decide +kernel
theorem dX5_takesCase_1 : decode cX5_takesCase 1 = .ok (.iconst 3, 1) := by decide +kernel
theorem dX5_takesCase_2 : decode cX5_takesCase 2 = .ok (.invokevirtual 129, 3) := by decide +kernel
theorem dX5_takesCase_5 : decode cX5_takesCase 5 = .ok (.ifCond .ne 5, 3) := by decide +kernel
theorem dX5_takesCase_8 : decode cX5_takesCase 8 = .ok (.iconst 0, 1) := by decide +kernel
theorem dX5_takesCase_9 : decode cX5_takesCase 9 = .ok (.ireturn, 1) := by decide +kernel
theorem dX5_takesCase_10 : decode cX5_takesCase 10 = .ok (.aload_n 0, 1) := by decide +kernel
theorem dX5_takesCase_11 : decode cX5_takesCase 11 = .ok (.getfield 21, 3) := by decide +kernel
theorem dX5_takesCase_14 : decode cX5_takesCase 14 = .ok (.getfield 176, 3) := by decide +kernel
theorem dX5_takesCase_17 : decode cX5_takesCase 17 = .ok (.aload_n 0, 1) := by decide +kernel
theorem dX5_takesCase_18 : decode cX5_takesCase 18 = .ok (.getfield 21, 3) := by decide +kernel
theorem dX5_takesCase_21 : decode cX5_takesCase 21 = .ok (.iconst 3, 1) := by decide +kernel
theorem dX5_takesCase_22 : decode cX5_takesCase 22 = .ok (.invokevirtual 141, 3) := by decide +kernel
theorem dX5_takesCase_25 : decode cX5_takesCase 25 = .ok (.iconst 1, 1) := by decide +kernel
theorem dX5_takesCase_26 : decode cX5_takesCase 26 = .ok (.isub, 1) := by decide +kernel
theorem dX5_takesCase_27 : decode cX5_takesCase 27 = .ok (.aaload, 1) := by decide +kernel
theorem dX5_takesCase_28 : decode cX5_takesCase 28 = .ok (.astore_n 1, 1) := by decide +kernel
theorem dX5_takesCase_29 : decode cX5_takesCase 29 = .ok (.aload_n 0, 1) := by decide +kernel
theorem dX5_takesCase_30 : decode cX5_takesCase 30 = .ok (.getstatic 180, 3) := by decide +kernel
theorem dX5_takesCase_33 : decode cX5_takesCase 33 = .ok (.invokevirtual 55, 3) := by decide +kernel
theorem dX5_takesCase_36 : decode cX5_takesCase 36 = .ok (.ifCond .eq 13, 3) := by decide +kernel
theorem dX5_takesCase_39 : decode cX5_takesCase 39 = .ok (.aload_n 0, 1) := by decide +kernel
theorem dX5_takesCase_40 : decode cX5_takesCase 40 = .ok (.iconst 0, 1) := by decide +kernel
theorem dX5_takesCase_41 : decode cX5_takesCase 41 = .ok (.bipush 99, 2) := by decide +kernel
theorem dX5_takesCase_43 : decode cX5_takesCase 43 = .ok (.invokevirtual 183, 3) := by decide +kernel
theorem dX5_takesCase_46 : decode cX5_takesCase 46 = .ok (.ifCond .ne 5, 3) := by decide +kernel
theorem dX5_takesCase_49 : decode cX5_takesCase 49 = .ok (.iconst 0, 1) := by decide +kernel
theorem dX5_takesCase_50 : decode cX5_takesCase 50 = .ok (.ireturn, 1) := by decide +kernel
theorem dX5_takesCase_51 : decode cX5_takesCase 51 = .ok (.aload_n 1, 1) := by decide +kernel
theorem dX5_takesCase_52 : decode cX5_takesCase 52 = .ok (.aload_n 0, 1) := by decide +kernel
theorem dX5_takesCase_53 : decode cX5_takesCase 53 = .ok (.getfield 186, 3) := by decide +kernel
theorem dX5_takesCase_56 : decode cX5_takesCase 56 = .ok (.putfield 189, 3) := by decide +kernel
theorem dX5_takesCase_59 : decode cX5_takesCase 59 = .ok (.aload_n 0, 1) := by decide +kernel
theorem dX5_takesCase_60 : decode cX5_takesCase 60 = .ok (.getstatic 132, 3) := by decide +kernel
theorem dX5_takesCase_63 : decode cX5_takesCase 63 = .ok (.invokevirtual 55, 3) := by decide +kernel
theorem dX5_takesCase_66 : decode cX5_takesCase 66 = .ok (.ifCond .eq 12, 3) := by decide +kernel
theorem dX5_takesCase_69 : decode cX5_takesCase 69 = .ok (.aload_n 0, 1) := by decide +kernel
theorem dX5_takesCase_70 : decode cX5_takesCase 70 = .ok (.iconst 1, 1) := by decide +kernel
theorem dX5_takesCase_71 : decode cX5_takesCase 71 = .ok (.iconst 4, 1) := by decide +kernel
theorem dX5_takesCase_72 : decode cX5_takesCase 72 = .ok (.invokevirtual 183, 3) := by decide +kernel
theorem dX5_takesCase_75 : decode cX5_takesCase 75 = .ok (.ifCond .ne 5, 3) := by decide +kernel
theorem dX5_takesCase_78 : decode cX5_takesCase 78 = .ok (.iconst 0, 1) := by decide +kernel
theorem dX5_takesCase_79 : decode cX5_takesCase 79 = .ok (.ireturn, 1) := by decide +kernel
theorem dX5_takesCase_80 : decode cX5_takesCase 80 = .ok (.aload_n 1, 1) := by decide +kernel
theorem dX5_takesCase_81 : decode cX5_takesCase 81 = .ok (.aload_n 0, 1) := by decide +kernel
theorem dX5_takesCase_82 : decode cX5_takesCase 82 = .ok (.getfield 186, 3) := by decide +kernel
theorem dX5_takesCase_85 : decode cX5_takesCase 85 = .ok (.putfield 194, 3) := by decide +kernel
theorem dX5_takesCase_88 : decode cX5_takesCase 88 = .ok (.aload_n 0, 1) := by decide +kernel
theorem dX5_takesCase_89 : decode cX5_takesCase 89 = .ok (.getstatic 197, 3) := by decide +kernel
theorem dX5_takesCase_92 : decode cX5_takesCase 92 = .ok (.invokevirtual 55, 3) := by decide +kernel
theorem dX5_takesCase_95 : decode cX5_takesCase 95 = .ok (.ifCond .eq 13, 3) := by decide +kernel
theorem dX5_takesCase_98 : decode cX5_takesCase 98 = .ok (.aload_n 0, 1) := by decide +kernel
theorem dX5_takesCase_99 : decode cX5_takesCase 99 = .ok (.iconst 1, 1) := by decide +kernel
theorem dX5_takesCase_100 : decode cX5_takesCase 100 = .ok (.bipush 60, 2) := by decide +kernel
theorem dX5_takesCase_102 : decode cX5_takesCase 102 = .ok (.invokevirtual 183, 3) := by decide +kernel
theorem dX5_takesCase_105 : decode cX5_takesCase 105 = .ok (.ifCond .ne 5, 3) := by decide +kernel
theorem dX5_takesCase_108 : decode cX5_takesCase 108 = .ok (.iconst 0, 1) := by decide +kernel
theorem dX5_takesCase_109 : decode cX5_takesCase 109 = .ok (.ireturn, 1) := by decide +kernel
theorem dX5_takesCase_110 : decode cX5_takesCase 110 = .ok (.aload_n 1, 1) := by decide +kernel
theorem dX5_takesCase_111 : decode cX5_takesCase 111 = .ok (.aload_n 0, 1) := by decide +kernel
theorem dX5_takesCase_112 : decode cX5_takesCase 112 = .ok (.getfield 186, 3) := by decide +kernel
theorem dX5_takesCase_115 : decode cX5_takesCase 115 = .ok (.putfield 200, 3) := by decide +kernel
theorem dX5_takesCase_118 : decode cX5_takesCase 118 = .ok (.aload_n 0, 1) := by decide +kernel
theorem dX5_takesCase_119 : decode cX5_takesCase 119 = .ok (.getfield 12, 3) := by decide +kernel
theorem dX5_takesCase_122 : decode cX5_takesCase 122 = .ok (.getfield 39, 3) := by decide +kernel
theorem dX5_takesCase_125 : decode cX5_takesCase 125 = .ok (.getstatic 203, 3) := by decide +kernel
theorem dX5_takesCase_128 : decode cX5_takesCase 128 = .ok (.if_acmp .ne 15, 3) := by decide +kernel
theorem dX5_takesCase_131 : decode cX5_takesCase 131 = .ok (.aload_n 1, 1) := by decide +kernel
theorem dX5_takesCase_132 : decode cX5_takesCase 132 = .ok (.iconst 1, 1) := by decide +kernel
theorem dX5_takesCase_133 : decode cX5_takesCase 133 = .ok (.putfield 206, 3) := by decide +kernel
theorem dX5_takesCase_136 : decode cX5_takesCase 136 = .ok (.aload_n 0, 1) := by decide +kernel
theorem dX5_takesCase_137 : decode cX5_takesCase 137 = .ok (.getfield 12, 3) := by decide +kernel
theorem dX5_takesCase_140 : decode cX5_takesCase 140 = .ok (.invokevirtual 112, 3) := by decide +kernel
theorem dX5_takesCase_143 : decode cX5_takesCase 143 = .ok (.aload_n 0, 1) := by decide +kernel
theorem dX5_takesCase_144 : decode cX5_takesCase 144 = .ok (.aload_n 1, 1) := by decide +kernel
theorem dX5_takesCase_145 : decode cX5_takesCase 145 = .ok (.invokevirtual 210, 3) := by decide +kernel
theorem dX5_takesCase_148 : decode cX5_takesCase 148 = .ok (.ireturn, 1) := by decide +kernel
theorem hd_X5_takesCase : yX5_takesCase.cls = RX5 ∧ yX5_takesCase.cls ≠ "java/lang/invoke/MethodHandle" ∧ yX5_takesCase.cls ≠ "java/lang/invoke/VarHandle" ∧ (parseMethodDescriptor yX5_takesCase.desc).map (fun d => d.parameters.length) = some 0 := by decide +kernel
theorem hs_X5_takesCase : yX5_takesCase.cls ≠ "java/lang/invoke/MethodHandle" ∧ yX5_takesCase.cls ≠ "java/lang/invoke/VarHandle" ∧ (parseMethodDescriptor yX5_takesCase.desc).map (fun d => d.parameters.length) = some 0 := by decide +kernel
set_option maxHeartbeats 4000000 in
set_option maxRecDepth 100000 in
theorem k_X5_takesCase (l : Launch) (E : Ev) (K : Kd) (z : Nat) (o : Nat) (w : Wd) (ho : K o = some (4, 0)) {r : Bool} {w' : Wd} (hf : f_X5_takesCase K o w = some (r, w')) : Met l yX5_takesCase (Cond.code yX5_takesCase cX5_takesCase 2 (Option.some Jvm.ClassFile.FieldType.boolean) :: bt) ({ frames := 3, cells := 0, slots := 0, locals := 66 } : Room) (va_Pc [rv E (some o)] (HB E K w z)) (QI E K z w' (b2i r)) 0 0 (hA E) := by
  refine Met.ofW (cc := cX5_takesCase) (maxL := 2) (ret := (Option.some Jvm.ClassFile.FieldType.boolean)) (by decide) rfl ?_
  intro p e s m args below meth c s₁ B hml hv
  obtain ⟨rfl, hz, hP, hKs, hT, hb0⟩ := hv
  have C : CX p l e s m _ meth c cX5_takesCase 2 RX5 (Option.some Jvm.ClassFile.FieldType.boolean) E := ⟨B.exec, B.bytes, hml, findClass_of_methodNamed B.named, fun w h => atoms_spec (ws := Cond.code yX5_takesCase cX5_takesCase 2 (Option.some Jvm.ClassFile.FieldType.boolean) :: bt) B.pre w (List.mem_cons_of_mem _ h), hKs, hT, by rw [hz]; exact hb0, B.notSynchronized, B.returns⟩
  have hH : HQ E K z w s s.heap [] := ⟨hP, va_S.rf, hz⟩
  obtain ⟨hx, hb, hml, hown, hts, hKs, hT, hb0, hlocks, hret⟩ := id C
  have hl := lv_entry [rv E (some o)] (n := 2) (by simp [lg_len_nil, lg_len_i, lg_len_j, lg_len_q, lg_len_f, lg_len_d, lg_len_r])
  rw [lg_entry_eq]
  generalize (lg_sl [rv E (some o)] ++ List.replicate (2 - (lg_sl [rv E (some o)]).length) Slot.unset).toArray = ls at hl ⊢
  replace hl : lv_has ls 2 [(0, rv E (some o))] := by simpa only [lv_args, cat_q, cat_i, cat_j, reduceIte, Nat.reduceEqDiff, Nat.reduceAdd, Nat.zero_add] using hl
  generalize s.heap = H at hH ⊢
  unfold f_X5_takesCase at hf
  refine hl_aload_n hx hb dX5_takesCase_0 rfl (lv_at hl 0 rfl) ?_
  refine lv_iconst (v := 3) hx hb dX5_takesCase_1 (by decide) ?_
  obtain ⟨q1, hq1, hf⟩ := bnd hf
  refine hcV_i hx hb hml hown hts hKs hT hb0 hH (As := [.int 3]) (rest := []) (k_X5_takesNewName l E K H.size o 3 w ho hq1) (gV m3_119 m3_121 ms_6 m1_8 m3_122) hd_X5_takesNewName ⟨Nat.le_of_ble_eq_true rfl, Nat.le_of_ble_eq_true rfl, rfl, rfl⟩ rfl ho rfl rfl rfl hl.1 rfl rc0 rfl dX5_takesCase_2 ⟨Nat.zero_le _, Nat.zero_le _⟩ (fun H locs hH => ?_)
  refine lv_if_ne (tgt := 10) hx hb dX5_takesCase_5 (by decide) (fun c2 => ?_) (fun c2 => ?_)
  · replace hf := (if_neg c2).symm.trans hf
    refine hl_aload_n hx hb dX5_takesCase_10 rfl (lv_at hl 0 rfl) ?_
    refine g5_1 hx hb hts hown hKs hH rfl ho m2_31 dX5_takesCase_11 ?_
    obtain ⟨a3, ha3, hf⟩ := bnd hf
    replace ha3 := chk_some ha3
    refine gn9_9 hx hb hts hown hKs hH ha3.1 ha3.2 m1_179 dX5_takesCase_14 ?_
    refine hl_aload_n hx hb dX5_takesCase_17 rfl (lv_at hl 0 rfl) ?_
    refine g5_1 hx hb hts hown hKs hH rfl ho m2_31 dX5_takesCase_18 ?_
    refine lv_iconst (v := 3) hx hb dX5_takesCase_21 (by decide) ?_
    obtain ⟨q4, hq4, hf⟩ := bnd hf
    refine hcV_i hx hb hml hown hts hKs hT hb0 hH (As := [.int 3]) (rest := [rv E (wR q1.2 909 a3)]) (k_X9_size l E K H.size a3 3 q1.2 ha3.2 hq4) (gV m3_150 m3_151 m3_152 m1_2 m3_153) hd_X9_size ⟨Nat.le_of_ble_eq_true rfl, Nat.le_of_ble_eq_true rfl, rfl, rfl⟩ ha3.1 ha3.2 rfl rfl rfl hl.1 rfl (rcV rc0) rfl dX5_takesCase_22 ⟨Nat.zero_le _, Nat.zero_le _⟩ (fun H locs hH => ?_)
    refine lv_iconst (v := 1) hx hb dX5_takesCase_25 (by decide) ?_
    refine lv_isub hx hb dX5_takesCase_26 ?_
    obtain ⟨a5, ha5, hf⟩ := bnd hf
    replace ha5 := cha_some ha5
    obtain ⟨j6, hj6, hf⟩ := bnd hf
    refine hw_aald25 hx hb hKs hH ha5.1 ha5.2 hj6 dX5_takesCase_27 ?_
    refine hl_astore_n (i := 1) (lv' := [(1, rv E (aR q4.2 a5.1 j6)), (0, rv E (some o))]) hx hb dX5_takesCase_28 rfl hl (by decide) rfl (fun ls hl => ?_)
    refine hl_aload_n hx hb dX5_takesCase_29 rfl (lv_at hl 1 rfl) ?_
    refine hw_tok hx hb 8 (by decide) hts hown hT hH m3_177 dX5_takesCase_30 ?_
    obtain ⟨q7, hq7, hf⟩ := bnd hf
    refine hcV_i hx hb hml hown hts hKs hT hb0 hH (As := [re E (some 8)]) (rest := []) (k_X5_takes l E K H.size o (some 8) q4.2 ho hq7) (gV m3_138 m3_140 ms_7 m1_8 m3_141) hd_X5_takes ⟨Nat.le_of_ble_eq_true rfl, Nat.le_of_ble_eq_true rfl, rfl, rfl⟩ rfl ho rfl rfl rfl hl.1 rfl rc0 rfl dX5_takesCase_33 ⟨Nat.zero_le _, Nat.zero_le _⟩ (fun H locs hH => ?_)
    refine lv_if_eq (tgt := 49) hx hb dX5_takesCase_36 (by decide) (fun c8 => ?_) (fun c8 => ?_)
    · replace hf := (if_pos c8).symm.trans hf
      refine lv_iconst (v := 0) hx hb dX5_takesCase_49 (by decide) ?_
      exact hw_zret hx hb hret rfl hf hH hlocks dX5_takesCase_50
    · replace hf := (if_neg c8).symm.trans hf
      refine hl_aload_n hx hb dX5_takesCase_39 rfl (lv_at hl 1 rfl) ?_
      refine lv_iconst (v := 0) hx hb dX5_takesCase_40 (by decide) ?_
      refine lv_bipush (v := 99) hx hb dX5_takesCase_41 (by decide) ?_
      obtain ⟨q9, hq9, hf⟩ := bnd hf
      refine hcV_i hx hb hml hown hts hKs hT hb0 hH (As := [.int 0, .int 99]) (rest := []) (k_X5_takesNumber l E K H.size o 0 99 q7.2 ho hq9) (gV m3_146 m3_148 ms_9 m1_8 m3_149) hd_X5_takesNumber ⟨Nat.le_of_ble_eq_true rfl, Nat.le_of_ble_eq_true rfl, rfl, rfl⟩ rfl ho rfl rfl rfl hl.1 rfl rc0 rfl dX5_takesCase_43 ⟨Nat.zero_le _, Nat.zero_le _⟩ (fun H locs hH => ?_)
      refine lv_if_ne (tgt := 51) hx hb dX5_takesCase_46 (by decide) (fun c10 => ?_) (fun c10 => ?_)
      · replace hf := (if_neg c10).symm.trans hf
        refine hl_aload_n hx hb dX5_takesCase_51 rfl (lv_at hl 0 rfl) ?_
        refine hl_aload_n hx hb dX5_takesCase_52 rfl (lv_at hl 1 rfl) ?_
        refine g5_4 hx hb hts hown hKs hH rfl ho m2_36 dX5_takesCase_53 ?_
        obtain ⟨a11, ha11, hf⟩ := bnd hf
        replace ha11 := chk_some ha11
        obtain ⟨w12, hw12, hf⟩ := bnd hf
        replace hw12 := Option.some.inj hw12
        refine pn3_0 (v := (wI q9.2 504 o)) hx hb hts hown hKs hH ha11.1 ha11.2 m1_90 dX5_takesCase_56 (fun H locs hH => ?_)
        rw [hw12] at hH
        refine hl_aload_n hx hb dX5_takesCase_59 rfl (lv_at hl 1 rfl) ?_
        refine hw_tok hx hb 2 (by decide) hts hown hT hH m3_136 dX5_takesCase_60 ?_
        obtain ⟨q13, hq13, hf⟩ := bnd hf
        refine hcV_i hx hb hml hown hts hKs hT hb0 hH (As := [re E (some 2)]) (rest := []) (k_X5_takes l E K H.size o (some 2) w12 ho hq13) (gV m3_138 m3_140 ms_7 m1_8 m3_141) hd_X5_takes ⟨Nat.le_of_ble_eq_true rfl, Nat.le_of_ble_eq_true rfl, rfl, rfl⟩ rfl ho rfl rfl rfl hl.1 rfl rc0 rfl dX5_takesCase_63 ⟨Nat.zero_le _, Nat.zero_le _⟩ (fun H locs hH => ?_)
        refine lv_if_eq (tgt := 78) hx hb dX5_takesCase_66 (by decide) (fun c14 => ?_) (fun c14 => ?_)
        · replace hf := (if_pos c14).symm.trans hf
          refine lv_iconst (v := 0) hx hb dX5_takesCase_78 (by decide) ?_
          exact hw_zret hx hb hret rfl hf hH hlocks dX5_takesCase_79
        · replace hf := (if_neg c14).symm.trans hf
          refine hl_aload_n hx hb dX5_takesCase_69 rfl (lv_at hl 1 rfl) ?_
          refine lv_iconst (v := 1) hx hb dX5_takesCase_70 (by decide) ?_
          refine lv_iconst (v := 4) hx hb dX5_takesCase_71 (by decide) ?_
          obtain ⟨q15, hq15, hf⟩ := bnd hf
          refine hcV_i hx hb hml hown hts hKs hT hb0 hH (As := [.int 1, .int 4]) (rest := []) (k_X5_takesNumber l E K H.size o 1 4 q13.2 ho hq15) (gV m3_146 m3_148 ms_9 m1_8 m3_149) hd_X5_takesNumber ⟨Nat.le_of_ble_eq_true rfl, Nat.le_of_ble_eq_true rfl, rfl, rfl⟩ rfl ho rfl rfl rfl hl.1 rfl rc0 rfl dX5_takesCase_72 ⟨Nat.zero_le _, Nat.zero_le _⟩ (fun H locs hH => ?_)
          refine lv_if_ne (tgt := 80) hx hb dX5_takesCase_75 (by decide) (fun c16 => ?_) (fun c16 => ?_)
          · replace hf := (if_neg c16).symm.trans hf
            refine hl_aload_n hx hb dX5_takesCase_80 rfl (lv_at hl 0 rfl) ?_
            refine hl_aload_n hx hb dX5_takesCase_81 rfl (lv_at hl 1 rfl) ?_
            refine g5_4 hx hb hts hown hKs hH rfl ho m2_36 dX5_takesCase_82 ?_
            obtain ⟨w17, hw17, hf⟩ := bnd hf
            replace hw17 := Option.some.inj hw17
            refine pn3_1 (v := (wI q15.2 504 o)) hx hb hts hown hKs hH ha11.1 ha11.2 m1_94 dX5_takesCase_85 (fun H locs hH => ?_)
            rw [hw17] at hH
            refine hl_aload_n hx hb dX5_takesCase_88 rfl (lv_at hl 1 rfl) ?_
            refine hw_tok hx hb 9 (by decide) hts hown hT hH m3_179 dX5_takesCase_89 ?_
            obtain ⟨q18, hq18, hf⟩ := bnd hf
            refine hcV_i hx hb hml hown hts hKs hT hb0 hH (As := [re E (some 9)]) (rest := []) (k_X5_takes l E K H.size o (some 9) w17 ho hq18) (gV m3_138 m3_140 ms_7 m1_8 m3_141) hd_X5_takes ⟨Nat.le_of_ble_eq_true rfl, Nat.le_of_ble_eq_true rfl, rfl, rfl⟩ rfl ho rfl rfl rfl hl.1 rfl rc0 rfl dX5_takesCase_92 ⟨Nat.zero_le _, Nat.zero_le _⟩ (fun H locs hH => ?_)
            refine lv_if_eq (tgt := 108) hx hb dX5_takesCase_95 (by decide) (fun c19 => ?_) (fun c19 => ?_)
            · replace hf := (if_pos c19).symm.trans hf
              refine lv_iconst (v := 0) hx hb dX5_takesCase_108 (by decide) ?_
              exact hw_zret hx hb hret rfl hf hH hlocks dX5_takesCase_109
            · replace hf := (if_neg c19).symm.trans hf
              refine hl_aload_n hx hb dX5_takesCase_98 rfl (lv_at hl 1 rfl) ?_
              refine lv_iconst (v := 1) hx hb dX5_takesCase_99 (by decide) ?_
              refine lv_bipush (v := 60) hx hb dX5_takesCase_100 (by decide) ?_
              obtain ⟨q20, hq20, hf⟩ := bnd hf
              refine hcV_i hx hb hml hown hts hKs hT hb0 hH (As := [.int 1, .int 60]) (rest := []) (k_X5_takesNumber l E K H.size o 1 60 q18.2 ho hq20) (gV m3_146 m3_148 ms_9 m1_8 m3_149) hd_X5_takesNumber ⟨Nat.le_of_ble_eq_true rfl, Nat.le_of_ble_eq_true rfl, rfl, rfl⟩ rfl ho rfl rfl rfl hl.1 rfl rc0 rfl dX5_takesCase_102 ⟨Nat.zero_le _, Nat.zero_le _⟩ (fun H locs hH => ?_)
              refine lv_if_ne (tgt := 110) hx hb dX5_takesCase_105 (by decide) (fun c21 => ?_) (fun c21 => ?_)
              · replace hf := (if_neg c21).symm.trans hf
                refine hl_aload_n hx hb dX5_takesCase_110 rfl (lv_at hl 0 rfl) ?_
                refine hl_aload_n hx hb dX5_takesCase_111 rfl (lv_at hl 1 rfl) ?_
                refine g5_4 hx hb hts hown hKs hH rfl ho m2_36 dX5_takesCase_112 ?_
                obtain ⟨w22, hw22, hf⟩ := bnd hf
                replace hw22 := Option.some.inj hw22
                refine pn3_2 (v := (wI q20.2 504 o)) hx hb hts hown hKs hH ha11.1 ha11.2 m1_99 dX5_takesCase_115 (fun H locs hH => ?_)
                rw [hw22] at hH
                refine hl_aload_n hx hb dX5_takesCase_118 rfl (lv_at hl 1 rfl) ?_
                refine g5_0 hx hb hts hown hKs hH rfl ho m2_30 dX5_takesCase_119 ?_
                obtain ⟨a23, ha23, hf⟩ := bnd hf
                replace ha23 := chk_some ha23
                refine gn8_4 hx hb hts hown hKs hH ha23.1 ha23.2 m2_7 dX5_takesCase_122 ?_
                refine hw_tok hx hb 10 (by decide) hts hown hT hH m3_181 dX5_takesCase_125 ?_
                obtain ⟨_, hg24, hf⟩ := bnd hf
                refine hw_acmp_ne (tgt := 143) hx hb hT (grd_some hg24) rfl dX5_takesCase_128 (by decide) (fun c25 => ?_) (fun c25 => ?_)
                · replace hf := (if_neg c25).symm.trans hf
                  refine hl_aload_n hx hb dX5_takesCase_143 rfl (lv_at hl 1 rfl) ?_
                  refine hl_aload_n hx hb dX5_takesCase_144 rfl (lv_at hl 0 rfl) ?_
                  obtain ⟨q26, hq26, hf⟩ := bnd hf
                  refine hcV_i hx hb hml hown hts hKs hT hb0 hH (As := [rv E (aR q4.2 a5.1 j6)]) (rest := []) (k_X5_takesNeeds l E K H.size o (aR q4.2 a5.1 j6) w22 ho hq26) (gV m3_183 m3_185 ms_13 m1_8 m3_186) hd_X5_takesNeeds ⟨Nat.le_of_ble_eq_true rfl, Nat.le_of_ble_eq_true rfl, rfl, rfl⟩ rfl ho rfl rfl rfl hl.1 rfl rc0 rfl dX5_takesCase_145 ⟨Nat.zero_le _, Nat.zero_le _⟩ (fun H locs hH => ?_)
                  exact hw_zret hx hb hret rfl hf hH hlocks dX5_takesCase_148
                · replace hf := (if_pos c25).symm.trans hf
                  refine hl_aload_n hx hb dX5_takesCase_131 rfl (lv_at hl 0 rfl) ?_
                  refine lv_iconst (v := 1) hx hb dX5_takesCase_132 (by decide) ?_
                  obtain ⟨w27, hw27, hf⟩ := bnd hf
                  replace hw27 := Option.some.inj hw27
                  refine pn3_3 (v := true) hx hb hts hown hKs hH ha11.1 ha11.2 m1_102 dX5_takesCase_133 (fun H locs hH => ?_)
                  rw [hw27] at hH
                  refine hl_aload_n hx hb dX5_takesCase_136 rfl (lv_at hl 1 rfl) ?_
                  refine g5_0 hx hb hts hown hKs hH rfl ho m2_30 dX5_takesCase_137 ?_
                  obtain ⟨a28, ha28, hf⟩ := bnd hf
                  replace ha28 := chk_some ha28
                  obtain ⟨q29, hq29, hf⟩ := bnd hf
                  refine hcV_v hx hb hml hown hts hKs hT hb0 hH (As := []) (rest := []) (k_X8_advance l E K H.size a28 w27 ha28.2 hq29) (gV m3_100 m3_57 m3_58 m1_9 m3_59) hd_X8_advance ⟨Nat.le_of_ble_eq_true rfl, Nat.le_of_ble_eq_true rfl, rfl, rfl⟩ ha28.1 ha28.2 rfl rfl rfl hl.1 rfl rc0 rfl dX5_takesCase_140 ⟨Nat.zero_le _, Nat.zero_le _⟩ (fun H locs hH => ?_)
                  refine hl_aload_n hx hb dX5_takesCase_143 rfl (lv_at hl 1 rfl) ?_
                  refine hl_aload_n hx hb dX5_takesCase_144 rfl (lv_at hl 0 rfl) ?_
                  obtain ⟨q30, hq30, hf⟩ := bnd hf
                  refine hcV_i hx hb hml hown hts hKs hT hb0 hH (As := [rv E (aR q4.2 a5.1 j6)]) (rest := []) (k_X5_takesNeeds l E K H.size o (aR q4.2 a5.1 j6) q29 ho hq30) (gV m3_183 m3_185 ms_13 m1_8 m3_186) hd_X5_takesNeeds ⟨Nat.le_of_ble_eq_true rfl, Nat.le_of_ble_eq_true rfl, rfl, rfl⟩ rfl ho rfl rfl rfl hl.1 rfl rc0 rfl dX5_takesCase_145 ⟨Nat.zero_le _, Nat.zero_le _⟩ (fun H locs hH => ?_)
                  exact hw_zret hx hb hret rfl hf hH hlocks dX5_takesCase_148
              · replace hf := (if_pos c21).symm.trans hf
                refine lv_iconst (v := 0) hx hb dX5_takesCase_108 (by decide) ?_
                exact hw_zret hx hb hret rfl hf hH hlocks dX5_takesCase_109
          · replace hf := (if_pos c16).symm.trans hf
            refine lv_iconst (v := 0) hx hb dX5_takesCase_78 (by decide) ?_
            exact hw_zret hx hb hret rfl hf hH hlocks dX5_takesCase_79
      · replace hf := (if_pos c10).symm.trans hf
        refine lv_iconst (v := 0) hx hb dX5_takesCase_49 (by decide) ?_
        exact hw_zret hx hb hret rfl hf hH hlocks dX5_takesCase_50
  · replace hf := (if_pos c2).symm.trans hf
    refine lv_iconst (v := 0) hx hb dX5_takesCase_8 (by decide) ?_
    exact hw_zret hx hb hret rfl hf hH hlocks dX5_takesCase_9

theorem dX5_takesLengthen_0 : decode cX5_takesLengthen 0 = .ok (.aload_n 0, 1) := by decide +kernel
theorem dX5_takesLengthen_1 : decode cX5_takesLengthen 1 = .ok (.getfield 12, 3) := by decide +kernel
theorem dX5_takesLengthen_4 : decode cX5_takesLengthen 4 = .ok (.invokevirtual 112, 3) := by decide +kernel
theorem dX5_takesLengthen_7 : decode cX5_takesLengthen 7 = .ok (.aload_n 0, 1) := by decide +kernel
theorem dX5_takesLengthen_8 : decode cX5_takesLengthen 8 = .ok (.iconst 0, 1) := by decide +kernel
theorem dX5_takesLengthen_9 : decode cX5_takesLengthen 9 = .ok (.iconst 3, 1) := by decide +kernel
theorem dX5_takesLengthen_10 : decode cX5_takesLengthen 10 = .ok (.invokevirtual 115, 3) := by decide +kernel
theorem dX5_takesLengthen_13 : decode cX5_takesLengthen 13 = .ok (.ifCond .ne 5, 3) := by decide +kernel
theorem dX5_takesLengthen_16 : decode cX5_takesLengthen 16 = .ok (.iconst 0, 1) := by decide +kernel
theorem dX5_takesLengthen_17 : decode cX5_takesLengthen 17 = .ok (.ireturn, 1) := by decide +kernel
theorem dX5_takesLengthen_18 : decode cX5_takesLengthen 18 = .ok (.aload_n 0, 1) := by decide +kernel
theorem dX5_takesLengthen_19 : decode cX5_takesLengthen 19 = .ok (.getfield 12, 3) := by decide +kernel
theorem dX5_takesLengthen_22 : decode cX5_takesLengthen 22 = .ok (.getfield 119, 3) := by decide +kernel
theorem dX5_takesLengthen_25 : decode cX5_takesLengthen 25 = .ok (.istore_n 1, 1) := by decide +kernel
theorem dX5_takesLengthen_26 : decode cX5_takesLengthen 26 = .ok (.aload_n 0, 1) := by decide +kernel
theorem dX5_takesLengthen_27 : decode cX5_takesLengthen 27 = .ok (.getfield 21, 3) := by decide +kernel
theorem dX5_takesLengthen_30 : decode cX5_takesLengthen 30 = .ok (.getfield 232, 3) := by decide +kernel
theorem dX5_takesLengthen_33 : decode cX5_takesLengthen 33 = .ok (.iload_n 1, 1) := by decide +kernel
theorem dX5_takesLengthen_34 : decode cX5_takesLengthen 34 = .ok (.invokestatic 223, 3) := by decide +kernel
theorem dX5_takesLengthen_37 : decode cX5_takesLengthen 37 = .ok (.ifCond .eq 9, 3) := by decide +kernel
theorem dX5_takesLengthen_40 : decode cX5_takesLengthen 40 = .ok (.aload_n 0, 1) := by decide +kernel
theorem dX5_takesLengthen_41 : decode cX5_takesLengthen 41 = .ok (.iconst 3, 1) := by decide +kernel
theorem dX5_takesLengthen_42 : decode cX5_takesLengthen 42 = .ok (.invokevirtual 99, 3) := by decide +kernel
theorem dX5_takesLengthen_45 : decode cX5_takesLengthen 45 = .ok (.ireturn, 1) := by decide +kernel
theorem dX5_takesLengthen_46 : decode cX5_takesLengthen 46 = .ok (.aload_n 0, 1) := by decide +kernel
theorem dX5_takesLengthen_47 : decode cX5_takesLengthen 47 = .ok (.getfield 21, 3) := by decide +kernel
theorem dX5_takesLengthen_50 : decode cX5_takesLengthen 50 = .ok (.dup, 1) := by decide +kernel
theorem dX5_takesLengthen_51 : decode cX5_takesLengthen 51 = .ok (.getfield 232, 3) := by decide +kernel
theorem dX5_takesLengthen_54 : decode cX5_takesLengthen 54 = .ok (.iconst 1, 1) := by decide +kernel
theorem dX5_takesLengthen_55 : decode cX5_takesLengthen 55 = .ok (.iload_n 1, 1) := by decide +kernel
theorem dX5_takesLengthen_56 : decode cX5_takesLengthen 56 = .ok (.ishl, 1) := by decide +kernel
theorem dX5_takesLengthen_57 : decode cX5_takesLengthen 57 = .ok (.ior, 1) := by decide +kernel
theorem dX5_takesLengthen_58 : decode cX5_takesLengthen 58 = .ok (.putfield 232, 3) := by decide +kernel
theorem dX5_takesLengthen_61 : decode cX5_takesLengthen 61 = .ok (.aload_n 0, 1) := by decide +kernel
theorem dX5_takesLengthen_62 : decode cX5_takesLengthen 62 = .ok (.getfield 12, 3) := by decide +kernel
theorem dX5_takesLengthen_65 : decode cX5_takesLengthen 65 = .ok (.invokevirtual 112, 3) := by decide +kernel
theorem dX5_takesLengthen_68 : decode cX5_takesLengthen 68 = .ok (.aload_n 0, 1) := by decide +kernel
theorem dX5_takesLengthen_69 : decode cX5_takesLengthen 69 = .ok (.iconst 0, 1) := by decide +kernel
theorem dX5_takesLengthen_70 : decode cX5_takesLengthen 70 = .ok (.bipush 30, 2) := by decide +kernel
theorem dX5_takesLengthen_72 : decode cX5_takesLengthen 72 = .ok (.invokevirtual 183, 3) := by decide +kernel
theorem dX5_takesLengthen_75 : decode cX5_takesLengthen 75 = .ok (.ifCond .ne 5, 3) := by decide +kernel
theorem dX5_takesLengthen_78 : decode cX5_takesLengthen 78 = .ok (.iconst 0, 1) := by decide +kernel
theorem dX5_takesLengthen_79 : decode cX5_takesLengthen 79 = .ok (.ireturn, 1) := by decide +kernel
theorem dX5_takesLengthen_80 : decode cX5_takesLengthen 80 = .ok (.aload_n 0, 1) := by decide +kernel
theorem dX5_takesLengthen_81 : decode cX5_takesLengthen 81 = .ok (.getfield 21, 3) := by decide +kernel
theorem dX5_takesLengthen_84 : decode cX5_takesLengthen 84 = .ok (.getfield 235, 3) := by decide +kernel
theorem dX5_takesLengthen_87 : decode cX5_takesLengthen 87 = .ok (.iload_n 1, 1) := by decide +kernel
theorem dX5_takesLengthen_88 : decode cX5_takesLengthen 88 = .ok (.aload_n 0, 1) := by decide +kernel
theorem dX5_takesLengthen_89 : decode cX5_takesLengthen 89 = .ok (.getfield 186, 3) := by decide +kernel
theorem dX5_takesLengthen_92 : decode cX5_takesLengthen 92 = .ok (.iastore, 1) := by decide +kernel
theorem dX5_takesLengthen_93 : decode cX5_takesLengthen 93 = .ok (.iconst 1, 1) := by decide +kernel
theorem dX5_takesLengthen_94 : decode cX5_takesLengthen 94 = .ok (.ireturn, 1) := by decide +kernel
theorem hd_X5_takesLengthen : yX5_takesLengthen.cls = RX5 ∧ yX5_takesLengthen.cls ≠ "java/lang/invoke/MethodHandle" ∧ yX5_takesLengthen.cls ≠ "java/lang/invoke/VarHandle" ∧ (parseMethodDescriptor yX5_takesLengthen.desc).map (fun d => d.parameters.length) = some 0 := by decide +kernel
theorem hs_X5_takesLengthen : yX5_takesLengthen.cls ≠ "java/lang/invoke/MethodHandle" ∧ yX5_takesLengthen.cls ≠ "java/lang/invoke/VarHandle" ∧ (parseMethodDescriptor yX5_takesLengthen.desc).map (fun d => d.parameters.length) = some 0 := by decide +kernel
set_option maxHeartbeats 4000000 in
set_option maxRecDepth 100000 in
theorem k_X5_takesLengthen (l : Launch) (E : Ev) (K : Kd) (z : Nat) (o : Nat) (w : Wd) (ho : K o = some (4, 0)) {r : Bool} {w' : Wd} (hf : f_X5_takesLengthen K o w = some (r, w')) : Met l yX5_takesLengthen (Cond.code yX5_takesLengthen cX5_takesLengthen 2 (Option.some Jvm.ClassFile.FieldType.boolean) :: bt) ({ frames := 3, cells := 0, slots := 0, locals := 65 } : Room) (va_Pc [rv E (some o)] (HB E K w z)) (QI E K z w' (b2i r)) 0 0 (hA E) := by
  refine Met.ofW (cc := cX5_takesLengthen) (maxL := 2) (ret := (Option.some Jvm.ClassFile.FieldType.boolean)) (by decide) rfl ?_
  intro p e s m args below meth c s₁ B hml hv
  obtain ⟨rfl, hz, hP, hKs, hT, hb0⟩ := hv
  have C : CX p l e s m _ meth c cX5_takesLengthen 2 RX5 (Option.some Jvm.ClassFile.FieldType.boolean) E := ⟨B.exec, B.bytes, hml, findClass_of_methodNamed B.named, fun w h => atoms_spec (ws := Cond.code yX5_takesLengthen cX5_takesLengthen 2 (Option.some Jvm.ClassFile.FieldType.boolean) :: bt) B.pre w (List.mem_cons_of_mem _ h), hKs, hT, by rw [hz]; exact hb0, B.notSynchronized, B.returns⟩
  have hH : HQ E K z w s s.heap [] := ⟨hP, va_S.rf, hz⟩
  obtain ⟨hx, hb, hml, hown, hts, hKs, hT, hb0, hlocks, hret⟩ := id C
  have hl := lv_entry [rv E (some o)] (n := 2) (by simp [lg_len_nil, lg_len_i, lg_len_j, lg_len_q, lg_len_f, lg_len_d, lg_len_r])
  rw [lg_entry_eq]
  generalize (lg_sl [rv E (some o)] ++ List.replicate (2 - (lg_sl [rv E (some o)]).length) Slot.unset).toArray = ls at hl ⊢
  replace hl : lv_has ls 2 [(0, rv E (some o))] := by simpa only [lv_args, cat_q, cat_i, cat_j, reduceIte, Nat.reduceEqDiff, Nat.reduceAdd, Nat.zero_add] using hl
  generalize s.heap = H at hH ⊢
  unfold f_X5_takesLengthen at hf
  refine hl_aload_n hx hb dX5_takesLengthen_0 rfl (lv_at hl 0 rfl) ?_
  refine g5_0 hx hb hts hown hKs hH rfl ho m2_30 dX5_takesLengthen_1 ?_
  obtain ⟨a1, ha1, hf⟩ := bnd hf
  replace ha1 := chk_some ha1
  obtain ⟨q2, hq2, hf⟩ := bnd hf
  refine hcV_v hx hb hml hown hts hKs hT hb0 hH (As := []) (rest := []) (k_X8_advance l E K H.size a1 w ha1.2 hq2) (gV m3_100 m3_57 m3_58 m1_9 m3_59) hd_X8_advance ⟨Nat.le_of_ble_eq_true rfl, Nat.le_of_ble_eq_true rfl, rfl, rfl⟩ ha1.1 ha1.2 rfl rfl rfl hl.1 rfl rc0 rfl dX5_takesLengthen_4 ⟨Nat.zero_le _, Nat.zero_le _⟩ (fun H locs hH => ?_)
  refine hl_aload_n hx hb dX5_takesLengthen_7 rfl (lv_at hl 0 rfl) ?_
  refine lv_iconst (v := 0) hx hb dX5_takesLengthen_8 (by decide) ?_
  refine lv_iconst (v := 3) hx hb dX5_takesLengthen_9 (by decide) ?_
  obtain ⟨q3, hq3, hf⟩ := bnd hf
  refine hcV_i hx hb hml hown hts hKs hT hb0 hH (As := [.int 0, .int 3]) (rest := []) (k_X5_seesNumber l E K H.size o 0 3 q2 ho hq3) (gV m3_101 m3_103 ms_4 m1_8 m3_104) hd_X5_seesNumber ⟨Nat.le_of_ble_eq_true rfl, Nat.le_of_ble_eq_true rfl, rfl, rfl⟩ rfl ho rfl rfl rfl hl.1 rfl rc0 rfl dX5_takesLengthen_10 ⟨Nat.zero_le _, Nat.zero_le _⟩ (fun H locs hH => ?_)
  refine lv_if_ne (tgt := 18) hx hb dX5_takesLengthen_13 (by decide) (fun c4 => ?_) (fun c4 => ?_)
  · replace hf := (if_neg c4).symm.trans hf
    refine hl_aload_n hx hb dX5_takesLengthen_18 rfl (lv_at hl 0 rfl) ?_
    refine g5_0 hx hb hts hown hKs hH rfl ho m2_30 dX5_takesLengthen_19 ?_
    obtain ⟨a5, ha5, hf⟩ := bnd hf
    replace ha5 := chk_some ha5
    refine gn8_6 hx hb hts hown hKs hH ha5.1 ha5.2 m2_11 dX5_takesLengthen_22 ?_
    refine lv_istore_n (i := 1) (lv' := [(1, .int ((wI q3.2 806 a5))), (0, rv E (some o))]) hx hb dX5_takesLengthen_25 rfl hl (by decide) rfl (fun ls hl => ?_)
    refine hl_aload_n hx hb dX5_takesLengthen_26 rfl (lv_at hl 1 rfl) ?_
    refine g5_1 hx hb hts hown hKs hH rfl ho m2_31 dX5_takesLengthen_27 ?_
    obtain ⟨a6, ha6, hf⟩ := bnd hf
    replace ha6 := chk_some ha6
    refine gn9_12 hx hb hts hown hKs hH ha6.1 ha6.2 m1_189 dX5_takesLengthen_30 ?_
    refine lv_iload_n hx hb dX5_takesLengthen_33 rfl (lv_at hl 0 rfl) ?_
    obtain ⟨q7, hq7, hf⟩ := bnd hf
    refine hcM_i hx hb hml hown hts hKs hT hb0 hH (As := [.int ((wI q3.2 912 a6)), .int ((wI q3.2 806 a5))]) (rest := []) (k_X12_has l E K H.size (wI q3.2 912 a6) (wI q3.2 806 a5) q3.2 hq7) m3_193 m3_194 m1_1 m3_195 hs_X12_has ⟨Nat.le_of_ble_eq_true rfl, Nat.le_of_ble_eq_true rfl, rfl, rfl⟩ hl.1 rfl rc0 rfl dX5_takesLengthen_34 ⟨Nat.zero_le _, Nat.zero_le _⟩ (fun H locs hH => ?_)
    refine lv_if_eq (tgt := 46) hx hb dX5_takesLengthen_37 (by decide) (fun c8 => ?_) (fun c8 => ?_)
    · replace hf := (if_pos c8).symm.trans hf
      refine hl_aload_n hx hb dX5_takesLengthen_46 rfl (lv_at hl 1 rfl) ?_
      refine g5_1 hx hb hts hown hKs hH rfl ho m2_31 dX5_takesLengthen_47 ?_
      refine lv_dup hx hb dX5_takesLengthen_50 rv_cat ?_
      obtain ⟨a9, ha9, hf⟩ := bnd hf
      replace ha9 := chk_some ha9
      refine gn9_12 hx hb hts hown hKs hH ha9.1 ha9.2 m1_189 dX5_takesLengthen_51 ?_
      refine lv_iconst (v := 1) hx hb dX5_takesLengthen_54 (by decide) ?_
      refine lv_iload_n hx hb dX5_takesLengthen_55 rfl (lv_at hl 0 rfl) ?_
      refine lv_ishl hx hb dX5_takesLengthen_56 ?_
      refine lv_ior hx hb dX5_takesLengthen_57 ?_
      obtain ⟨w10, hw10, hf⟩ := bnd hf
      replace hw10 := Option.some.inj hw10
      refine pn9_12 (v := ((wI q7.2 912 a9) ||| (1 <<< ((wI q3.2 806 a5) &&& 31)))) hx hb hts hown hKs hH ha9.1 ha9.2 m1_189 dX5_takesLengthen_58 (fun H locs hH => ?_)
      rw [hw10] at hH
      refine hl_aload_n hx hb dX5_takesLengthen_61 rfl (lv_at hl 1 rfl) ?_
      refine g5_0 hx hb hts hown hKs hH rfl ho m2_30 dX5_takesLengthen_62 ?_
      obtain ⟨a11, ha11, hf⟩ := bnd hf
      replace ha11 := chk_some ha11
      obtain ⟨q12, hq12, hf⟩ := bnd hf
      refine hcV_v hx hb hml hown hts hKs hT hb0 hH (As := []) (rest := []) (k_X8_advance l E K H.size a11 w10 ha11.2 hq12) (gV m3_100 m3_57 m3_58 m1_9 m3_59) hd_X8_advance ⟨Nat.le_of_ble_eq_true rfl, Nat.le_of_ble_eq_true rfl, rfl, rfl⟩ ha11.1 ha11.2 rfl rfl rfl hl.1 rfl rc0 rfl dX5_takesLengthen_65 ⟨Nat.zero_le _, Nat.zero_le _⟩ (fun H locs hH => ?_)
      refine hl_aload_n hx hb dX5_takesLengthen_68 rfl (lv_at hl 1 rfl) ?_
      refine lv_iconst (v := 0) hx hb dX5_takesLengthen_69 (by decide) ?_
      refine lv_bipush (v := 30) hx hb dX5_takesLengthen_70 (by decide) ?_
      obtain ⟨q13, hq13, hf⟩ := bnd hf
      refine hcV_i hx hb hml hown hts hKs hT hb0 hH (As := [.int 0, .int 30]) (rest := []) (k_X5_takesNumber l E K H.size o 0 30 q12 ho hq13) (gV m3_146 m3_148 ms_9 m1_8 m3_149) hd_X5_takesNumber ⟨Nat.le_of_ble_eq_true rfl, Nat.le_of_ble_eq_true rfl, rfl, rfl⟩ rfl ho rfl rfl rfl hl.1 rfl rc0 rfl dX5_takesLengthen_72 ⟨Nat.zero_le _, Nat.zero_le _⟩ (fun H locs hH => ?_)
      refine lv_if_ne (tgt := 80) hx hb dX5_takesLengthen_75 (by decide) (fun c14 => ?_) (fun c14 => ?_)
      · replace hf := (if_neg c14).symm.trans hf
        refine hl_aload_n hx hb dX5_takesLengthen_80 rfl (lv_at hl 1 rfl) ?_
        refine g5_1 hx hb hts hown hKs hH rfl ho m2_31 dX5_takesLengthen_81 ?_
        obtain ⟨a15, ha15, hf⟩ := bnd hf
        replace ha15 := chk_some ha15
        refine gn9_11 hx hb hts hown hKs hH ha15.1 ha15.2 m1_186 dX5_takesLengthen_84 ?_
        refine lv_iload_n hx hb dX5_takesLengthen_87 rfl (lv_at hl 0 rfl) ?_
        refine hl_aload_n hx hb dX5_takesLengthen_88 rfl (lv_at hl 1 rfl) ?_
        refine g5_4 hx hb hts hown hKs hH rfl ho m2_36 dX5_takesLengthen_89 ?_
        obtain ⟨a16, ha16, hf⟩ := bnd hf
        replace ha16 := cha_some ha16
        obtain ⟨j17, hj17, hf⟩ := bnd hf
        obtain ⟨w18, hw18, hf⟩ := bnd hf
        replace hw18 := Option.some.inj hw18
        refine hw_iast (x := (wI q13.2 504 o)) hx hb hKs hH ha16.1 ha16.2 hj17 dX5_takesLengthen_92 (fun H locs hH => ?_)
        rw [hw18] at hH
        refine lv_iconst (v := 1) hx hb dX5_takesLengthen_93 (by decide) ?_
        exact hw_zret hx hb hret rfl hf hH hlocks dX5_takesLengthen_94
      · replace hf := (if_pos c14).symm.trans hf
        refine lv_iconst (v := 0) hx hb dX5_takesLengthen_78 (by decide) ?_
        exact hw_zret hx hb hret rfl hf hH hlocks dX5_takesLengthen_79
    · replace hf := (if_neg c8).symm.trans hf
      refine hl_aload_n hx hb dX5_takesLengthen_40 rfl (lv_at hl 1 rfl) ?_
      refine lv_iconst (v := 3) hx hb dX5_takesLengthen_41 (by decide) ?_
      obtain ⟨q19, hq19, hf⟩ := bnd hf
      refine hcV_i hx hb hml hown hts hKs hT hb0 hH (As := [.int 3]) (rest := []) (k_X5_fail l E K H.size o 3 q7.2 ho hq19) (gV m3_96 m3_98 ms_3 m1_8 m3_99) hd_X5_fail ⟨Nat.le_of_ble_eq_true rfl, Nat.le_of_ble_eq_true rfl, rfl, rfl⟩ rfl ho rfl rfl rfl hl.1 rfl rc0 rfl dX5_takesLengthen_42 ⟨Nat.zero_le _, Nat.zero_le _⟩ (fun H locs hH => ?_)
      exact hw_zret hx hb hret rfl hf hH hlocks dX5_takesLengthen_45
  · replace hf := (if_pos c4).symm.trans hf
    refine lv_iconst (v := 0) hx hb dX5_takesLengthen_16 (by decide) ?_
    exact hw_zret hx hb hret rfl hf hH hlocks dX5_takesLengthen_17

theorem dX5_takesCap_0 : decode cX5_takesCap 0 = .ok (.aload_n 0, 1) := by decide +kernel
theorem dX5_takesCap_1 : decode cX5_takesCap 1 = .ok (.getfield 21, 3) := by decide +kernel
theorem dX5_takesCap_4 : decode cX5_takesCap 4 = .ok (.getfield 238, 3) := by decide +kernel
theorem dX5_takesCap_7 : decode cX5_takesCap 7 = .ok (.ifCond .eq 9, 3) := by decide +kernel
theorem dX5_takesCap_10 : decode cX5_takesCap 10 = .ok (.aload_n 0, 1) := by decide +kernel
theorem dX5_takesCap_11 : decode cX5_takesCap 11 = .ok (.iconst 3, 1) := by decide +kernel
theorem dX5_takesCap_12 : decode cX5_takesCap 12 = .ok (.invokevirtual 99, 3) := by decide +kernel
theorem dX5_takesCap_15 : decode cX5_takesCap 15 = .ok (.ireturn, 1) := by decide +kernel
theorem dX5_takesCap_16 : decode cX5_takesCap 16 = .ok (.aload_n 0, 1) := by decide +kernel
theorem dX5_takesCap_17 : decode cX5_takesCap 17 = .ok (.getfield 21, 3) := by decide +kernel
theorem dX5_takesCap_20 : decode cX5_takesCap 20 = .ok (.iconst 1, 1) := by decide +kernel
theorem dX5_takesCap_21 : decode cX5_takesCap 21 = .ok (.putfield 238, 3) := by decide +kernel
theorem dX5_takesCap_24 : decode cX5_takesCap 24 = .ok (.aload_n 0, 1) := by decide +kernel
theorem dX5_takesCap_25 : decode cX5_takesCap 25 = .ok (.getfield 12, 3) := by decide +kernel
theorem dX5_takesCap_28 : decode cX5_takesCap 28 = .ok (.invokevirtual 112, 3) := by decide +kernel
theorem dX5_takesCap_31 : decode cX5_takesCap 31 = .ok (.aload_n 0, 1) := by decide +kernel
theorem dX5_takesCap_32 : decode cX5_takesCap 32 = .ok (.iconst 0, 1) := by decide +kernel
theorem dX5_takesCap_33 : decode cX5_takesCap 33 = .ok (.bipush 60, 2) := by decide +kernel
theorem dX5_takesCap_35 : decode cX5_takesCap 35 = .ok (.invokevirtual 183, 3) := by decide +kernel
theorem dX5_takesCap_38 : decode cX5_takesCap 38 = .ok (.ifCond .ne 5, 3) := by decide +kernel
theorem dX5_takesCap_41 : decode cX5_takesCap 41 = .ok (.iconst 0, 1) := by decide +kernel
theorem dX5_takesCap_42 : decode cX5_takesCap 42 = .ok (.ireturn, 1) := by decide +kernel
theorem dX5_takesCap_43 : decode cX5_takesCap 43 = .ok (.aload_n 0, 1) := by decide +kernel
theorem dX5_takesCap_44 : decode cX5_takesCap 44 = .ok (.getfield 21, 3) := by decide +kernel
theorem dX5_takesCap_47 : decode cX5_takesCap 47 = .ok (.aload_n 0, 1) := by decide +kernel
theorem dX5_takesCap_48 : decode cX5_takesCap 48 = .ok (.getfield 186, 3) := by decide +kernel
theorem dX5_takesCap_51 : decode cX5_takesCap 51 = .ok (.putfield 241, 3) := by decide +kernel
theorem dX5_takesCap_54 : decode cX5_takesCap 54 = .ok (.iconst 1, 1) := by decide +kernel
theorem dX5_takesCap_55 : decode cX5_takesCap 55 = .ok (.ireturn, 1) := by decide +kernel
theorem hd_X5_takesCap : yX5_takesCap.cls = RX5 ∧ yX5_takesCap.cls ≠ "java/lang/invoke/MethodHandle" ∧ yX5_takesCap.cls ≠ "java/lang/invoke/VarHandle" ∧ (parseMethodDescriptor yX5_takesCap.desc).map (fun d => d.parameters.length) = some 0 := by decide +kernel
theorem hs_X5_takesCap : yX5_takesCap.cls ≠ "java/lang/invoke/MethodHandle" ∧ yX5_takesCap.cls ≠ "java/lang/invoke/VarHandle" ∧ (parseMethodDescriptor yX5_takesCap.desc).map (fun d => d.parameters.length) = some 0 := by decide +kernel
set_option maxHeartbeats 4000000 in
set_option maxRecDepth 100000 in
theorem k_X5_takesCap (l : Launch) (E : Ev) (K : Kd) (z : Nat) (o : Nat) (w : Wd) (ho : K o = some (4, 0)) {r : Bool} {w' : Wd} (hf : f_X5_takesCap K o w = some (r, w')) : Met l yX5_takesCap (Cond.code yX5_takesCap cX5_takesCap 1 (Option.some Jvm.ClassFile.FieldType.boolean) :: bt) ({ frames := 3, cells := 0, slots := 0, locals := 65 } : Room) (va_Pc [rv E (some o)] (HB E K w z)) (QI E K z w' (b2i r)) 0 0 (hA E) := by
  refine Met.ofW (cc := cX5_takesCap) (maxL := 1) (ret := (Option.some Jvm.ClassFile.FieldType.boolean)) (by decide) rfl ?_
  intro p e s m args below meth c s₁ B hml hv
  obtain ⟨rfl, hz, hP, hKs, hT, hb0⟩ := hv
  have C : CX p l e s m _ meth c cX5_takesCap 1 RX5 (Option.some Jvm.ClassFile.FieldType.boolean) E := ⟨B.exec, B.bytes, hml, findClass_of_methodNamed B.named, fun w h => atoms_spec (ws := Cond.code yX5_takesCap cX5_takesCap 1 (Option.some Jvm.ClassFile.FieldType.boolean) :: bt) B.pre w (List.mem_cons_of_mem _ h), hKs, hT, by rw [hz]; exact hb0, B.notSynchronized, B.returns⟩
  have hH : HQ E K z w s s.heap [] := ⟨hP, va_S.rf, hz⟩
  obtain ⟨hx, hb, hml, hown, hts, hKs, hT, hb0, hlocks, hret⟩ := id C
  have hl := lv_entry [rv E (some o)] (n := 1) (by simp [lg_len_nil, lg_len_i, lg_len_j, lg_len_q, lg_len_f, lg_len_d, lg_len_r])
  rw [lg_entry_eq]
  generalize (lg_sl [rv E (some o)] ++ List.replicate (1 - (lg_sl [rv E (some o)]).length) Slot.unset).toArray = ls at hl ⊢
  replace hl : lv_has ls 1 [(0, rv E (some o))] := by simpa only [lv_args, cat_q, cat_i, cat_j, reduceIte, Nat.reduceEqDiff, Nat.reduceAdd, Nat.zero_add] using hl
  generalize s.heap = H at hH ⊢
  unfold f_X5_takesCap at hf
  refine hl_aload_n hx hb dX5_takesCap_0 rfl (lv_at hl 0 rfl) ?_
  refine g5_1 hx hb hts hown hKs hH rfl ho m2_31 dX5_takesCap_1 ?_
  obtain ⟨a1, ha1, hf⟩ := bnd hf
  replace ha1 := chk_some ha1
  refine gn9_14 hx hb hts hown hKs hH ha1.1 ha1.2 m1_195 dX5_takesCap_4 ?_
  refine lv_if_eq (tgt := 16) hx hb dX5_takesCap_7 (by decide) (fun c2 => ?_) (fun c2 => ?_)
  · replace hf := (if_pos c2).symm.trans hf
    refine hl_aload_n hx hb dX5_takesCap_16 rfl (lv_at hl 0 rfl) ?_
    refine g5_1 hx hb hts hown hKs hH rfl ho m2_31 dX5_takesCap_17 ?_
    refine lv_iconst (v := 1) hx hb dX5_takesCap_20 (by decide) ?_
    obtain ⟨w3, hw3, hf⟩ := bnd hf
    replace hw3 := Option.some.inj hw3
    refine pn9_14 (v := true) hx hb hts hown hKs hH ha1.1 ha1.2 m1_195 dX5_takesCap_21 (fun H locs hH => ?_)
    rw [hw3] at hH
    refine hl_aload_n hx hb dX5_takesCap_24 rfl (lv_at hl 0 rfl) ?_
    refine g5_0 hx hb hts hown hKs hH rfl ho m2_30 dX5_takesCap_25 ?_
    obtain ⟨a4, ha4, hf⟩ := bnd hf
    replace ha4 := chk_some ha4
    obtain ⟨q5, hq5, hf⟩ := bnd hf
    refine hcV_v hx hb hml hown hts hKs hT hb0 hH (As := []) (rest := []) (k_X8_advance l E K H.size a4 w3 ha4.2 hq5) (gV m3_100 m3_57 m3_58 m1_9 m3_59) hd_X8_advance ⟨Nat.le_of_ble_eq_true rfl, Nat.le_of_ble_eq_true rfl, rfl, rfl⟩ ha4.1 ha4.2 rfl rfl rfl hl.1 rfl rc0 rfl dX5_takesCap_28 ⟨Nat.zero_le _, Nat.zero_le _⟩ (fun H locs hH => ?_)
    refine hl_aload_n hx hb dX5_takesCap_31 rfl (lv_at hl 0 rfl) ?_
    refine lv_iconst (v := 0) hx hb dX5_takesCap_32 (by decide) ?_
    refine lv_bipush (v := 60) hx hb dX5_takesCap_33 (by decide) ?_
    obtain ⟨q6, hq6, hf⟩ := bnd hf
    refine hcV_i hx hb hml hown hts hKs hT hb0 hH (As := [.int 0, .int 60]) (rest := []) (k_X5_takesNumber l E K H.size o 0 60 q5 ho hq6) (gV m3_146 m3_148 ms_9 m1_8 m3_149) hd_X5_takesNumber ⟨Nat.le_of_ble_eq_true rfl, Nat.le_of_ble_eq_true rfl, rfl, rfl⟩ rfl ho rfl rfl rfl hl.1 rfl rc0 rfl dX5_takesCap_35 ⟨Nat.zero_le _, Nat.zero_le _⟩ (fun H locs hH => ?_)
    refine lv_if_ne (tgt := 43) hx hb dX5_takesCap_38 (by decide) (fun c7 => ?_) (fun c7 => ?_)
    · replace hf := (if_neg c7).symm.trans hf
      refine hl_aload_n hx hb dX5_takesCap_43 rfl (lv_at hl 0 rfl) ?_
      refine g5_1 hx hb hts hown hKs hH rfl ho m2_31 dX5_takesCap_44 ?_
      refine hl_aload_n hx hb dX5_takesCap_47 rfl (lv_at hl 0 rfl) ?_
      refine g5_4 hx hb hts hown hKs hH rfl ho m2_36 dX5_takesCap_48 ?_
      obtain ⟨a8, ha8, hf⟩ := bnd hf
      replace ha8 := chk_some ha8
      obtain ⟨w9, hw9, hf⟩ := bnd hf
      replace hw9 := Option.some.inj hw9
      refine pn9_13 (v := (wI q6.2 504 o)) hx hb hts hown hKs hH ha8.1 ha8.2 m1_192 dX5_takesCap_51 (fun H locs hH => ?_)
      rw [hw9] at hH
      refine lv_iconst (v := 1) hx hb dX5_takesCap_54 (by decide) ?_
      exact hw_zret hx hb hret rfl hf hH hlocks dX5_takesCap_55
    · replace hf := (if_pos c7).symm.trans hf
      refine lv_iconst (v := 0) hx hb dX5_takesCap_41 (by decide) ?_
      exact hw_zret hx hb hret rfl hf hH hlocks dX5_takesCap_42
  · replace hf := (if_neg c2).symm.trans hf
    refine hl_aload_n hx hb dX5_takesCap_10 rfl (lv_at hl 0 rfl) ?_
    refine lv_iconst (v := 3) hx hb dX5_takesCap_11 (by decide) ?_
    obtain ⟨q10, hq10, hf⟩ := bnd hf
    refine hcV_i hx hb hml hown hts hKs hT hb0 hH (As := [.int 3]) (rest := []) (k_X5_fail l E K H.size o 3 w ho hq10) (gV m3_96 m3_98 ms_3 m1_8 m3_99) hd_X5_fail ⟨Nat.le_of_ble_eq_true rfl, Nat.le_of_ble_eq_true rfl, rfl, rfl⟩ rfl ho rfl rfl rfl hl.1 rfl rc0 rfl dX5_takesCap_12 ⟨Nat.zero_le _, Nat.zero_le _⟩ (fun H locs hH => ?_)
    exact hw_zret hx hb hret rfl hf hH hlocks dX5_takesCap_15

theorem dX6_findFirst_0 : decode cX6_findFirst 0 = .ok (.aload_n 0, 1) := by decide +kernel
theorem dX6_findFirst_1 : decode cX6_findFirst 1 = .ok (.aload_n 1, 1) := by decide +kernel
theorem dX6_findFirst_2 : decode cX6_findFirst 2 = .ok (.iload_n 2, 1) := by decide +kernel
theorem dX6_findFirst_3 : decode cX6_findFirst 3 = .ok (.invokevirtual 53, 3) := by decide +kernel
theorem dX6_findFirst_6 : decode cX6_findFirst 6 = .ok (.aload_n 1, 1) := by decide +kernel
theorem dX6_findFirst_7 : decode cX6_findFirst 7 = .ok (.iload_n 2, 1) := by decide +kernel
theorem dX6_findFirst_8 : decode cX6_findFirst 8 = .ok (.invokestatic 87, 3) := by decide +kernel
theorem dX6_findFirst_11 : decode cX6_findFirst 11 = .ok (.istore 4, 2) := by decide +kernel
theorem dX6_findFirst_13 : decode cX6_findFirst 13 = .ok (.aload_n 1, 1) := by decide +kernel
theorem dX6_findFirst_14 : decode cX6_findFirst 14 = .ok (.iload_n 2, 1) := by decide +kernel
theorem dX6_findFirst_15 : decode cX6_findFirst 15 = .ok (.invokestatic 91, 3) := by decide +kernel
theorem dX6_findFirst_18 : decode cX6_findFirst 18 = .ok (.istore 5, 2) := by decide +kernel
theorem dX6_findFirst_20 : decode cX6_findFirst 20 = .ok (.iload 5, 2) := by decide +kernel
theorem dX6_findFirst_22 : decode cX6_findFirst 22 = .ok (.iload 4, 2) := by decide +kernel
theorem dX6_findFirst_24 : decode cX6_findFirst 24 = .ok (.if_icmp .gt 23, 3) := by decide +kernel
theorem dX6_findFirst_27 : decode cX6_findFirst 27 = .ok (.aload_n 0, 1) := by decide +kernel
theorem dX6_findFirst_28 : decode cX6_findFirst 28 = .ok (.aload_n 1, 1) := by decide +kernel
theorem dX6_findFirst_29 : decode cX6_findFirst 29 = .ok (.iload_n 2, 1) := by decide +kernel
theorem dX6_findFirst_30 : decode cX6_findFirst 30 = .ok (.iload 5, 2) := by decide +kernel
theorem dX6_findFirst_32 : decode cX6_findFirst 32 = .ok (.iload_n 3, 1) := by decide +kernel
theorem dX6_findFirst_33 : decode cX6_findFirst 33 = .ok (.invokevirtual 94, 3) := by decide +kernel
theorem dX6_findFirst_36 : decode cX6_findFirst 36 = .ok (.ifCond .eq 5, 3) := by decide +kernel
theorem dX6_findFirst_39 : decode cX6_findFirst 39 = .ok (.iconst 1, 1) := by decide +kernel
theorem dX6_findFirst_40 : decode cX6_findFirst 40 = .ok (.ireturn, 1) := by decide +kernel
theorem dX6_findFirst_41 : decode cX6_findFirst 41 = .ok (.iinc 5 1, 3) := by decide +kernel
theorem dX6_findFirst_44 : decode cX6_findFirst 44 = .ok (.goto (-24), 3) := by decide +kernel
theorem dX6_findFirst_47 : decode cX6_findFirst 47 = .ok (.iconst 0, 1) := by decide +kernel
theorem dX6_findFirst_48 : decode cX6_findFirst 48 = .ok (.ireturn, 1) := by decide +kernel
theorem hd_X6_findFirst : yX6_findFirst.cls = RX6 ∧ yX6_findFirst.cls ≠ "java/lang/invoke/MethodHandle" ∧ yX6_findFirst.cls ≠ "java/lang/invoke/VarHandle" ∧ (parseMethodDescriptor yX6_findFirst.desc).map (fun d => d.parameters.length) = some 3 := by decide +kernel
theorem hs_X6_findFirst : yX6_findFirst.cls ≠ "java/lang/invoke/MethodHandle" ∧ yX6_findFirst.cls ≠ "java/lang/invoke/VarHandle" ∧ (parseMethodDescriptor yX6_findFirst.desc).map (fun d => d.parameters.length) = some 3 := by decide +kernel
set_option maxHeartbeats 4000000 in
set_option maxRecDepth 100000 in
theorem l_X6_findFirst_L20 (C : CX p l e s m args meth c cX6_findFirst 6 RX6 (Option.some Jvm.ClassFile.FieldType.boolean) E) {o : Nat} (ho : K o = some (5, 0)) {r : Bool} {w' : Wd} (k : Option Nat → Int32 → Int32 → Int32 → Int32 → Wd → Option (Bool × Wd)) (hk : ∀ (v1_20 : Option Nat) (v2_20 : Int32) (v3_20 : Int32) (v4_20 : Int32) (v5_20 : Int32) (w : Wd) (H : Heap) (locs : List Loc) (ls : Array Slot), HQ E K z w s H locs → lv_has ls 6 [(1, rv E v1_20), (2, .int v2_20), (3, .int v3_20), (4, .int v4_20), (5, .int v5_20), (0, rv E (some o))] → k v1_20 v2_20 v3_20 v4_20 v5_20 w = some (r, w') → W p l e ({ frames := 4, cells := 0, slots := 0, locals := 103 } : Room) s m args below meth c H locs 0 0 (MQ below (QI E K z w' (b2i r)) args s 0 0 (hA E)) (F0 m 47 ls [])) : ∀ (n : Nat) (v1_20 : Option Nat) (v2_20 : Int32) (v3_20 : Int32) (v4_20 : Int32) (v5_20 : Int32) (w : Wd) (H : Heap) (locs : List Loc) (ls : Array Slot), HQ E K z w s H locs → lv_has ls 6 [(1, rv E v1_20), (2, .int v2_20), (3, .int v3_20), (4, .int v4_20), (5, .int v5_20), (0, rv E (some o))] → f_X6_findFirst_L20 K o k n v1_20 v2_20 v3_20 v4_20 v5_20 w = some (r, w') → W p l e ({ frames := 4, cells := 0, slots := 0, locals := 103 } : Room) s m args below meth c H locs 0 0 (MQ below (QI E K z w' (b2i r)) args s 0 0 (hA E)) (F0 m 20 ls []) := by
  obtain ⟨hx, hb, hml, hown, hts, hKs, hT, hb0, hlocks, hret⟩ := id C
  intro n
  induction n with
  | zero =>
    intro v1_20 v2_20 v3_20 v4_20 v5_20 w H locs ls hH hl hf
    cases hf
  | succ n ih =>
    intro v1_20 v2_20 v3_20 v4_20 v5_20 w H locs ls hH hl hf
    rw [f_X6_findFirst_L20] at hf
    refine lv_iload hx hb dX6_findFirst_20 (lv_at hl 4 rfl) ?_
    refine lv_iload hx hb dX6_findFirst_22 (lv_at hl 3 rfl) ?_
    refine lv_icmp_gt (tgt := 47) hx hb dX6_findFirst_24 (by decide) (fun c5 => ?_) (fun c5 => ?_)
    · replace hf := (if_pos c5).symm.trans hf
      exact hk v1_20 v2_20 v3_20 v4_20 v5_20 _ _ _ _ hH (lv_sub hl [0, 1, 2, 3, 4, 5] rfl) hf
    · replace hf := (if_neg c5).symm.trans hf
      refine hl_aload_n hx hb dX6_findFirst_27 rfl (lv_at hl 5 rfl) ?_
      refine hl_aload_n hx hb dX6_findFirst_28 rfl (lv_at hl 0 rfl) ?_
      refine lv_iload_n hx hb dX6_findFirst_29 rfl (lv_at hl 1 rfl) ?_
      refine lv_iload hx hb dX6_findFirst_30 (lv_at hl 4 rfl) ?_
      refine lv_iload_n hx hb dX6_findFirst_32 rfl (lv_at hl 2 rfl) ?_
      obtain ⟨q6, hq6, hf⟩ := bnd hf
      refine hcV_i hx hb hml hown hts hKs hT hb0 hH (As := [rv E v1_20, .int v2_20, .int v5_20, .int v3_20]) (rest := []) (k_X6_findOn l E K H.size o v1_20 v2_20 v5_20 v3_20 w ho hq6) (gV m4_137 m4_139 ms_26 m1_14 m4_140) hd_X6_findOn ⟨Nat.le_of_ble_eq_true rfl, Nat.le_of_ble_eq_true rfl, rfl, rfl⟩ rfl ho rfl rfl rfl hl.1 rfl rc0 rfl dX6_findFirst_33 ⟨Nat.zero_le _, Nat.zero_le _⟩ (fun H locs hH => ?_)
      refine lv_if_eq (tgt := 41) hx hb dX6_findFirst_36 (by decide) (fun c7 => ?_) (fun c7 => ?_)
      · replace hf := (if_pos c7).symm.trans hf
        refine lv_iinc (v := (v5_20 + 1)) (lv' := [(5, .int ((v5_20 + 1))), (1, rv E v1_20), (2, .int v2_20), (3, .int v3_20), (4, .int v4_20), (0, rv E (some o))]) hx hb dX6_findFirst_41 hl (k := 4) rfl rfl (by decide) rfl (fun ls hl => ?_)
        refine lv_goto (tgt := 20) hx hb dX6_findFirst_44 (by decide) ?_
        exact ih v1_20 v2_20 v3_20 v4_20 (v5_20 + 1) _ _ _ _ hH (lv_sub hl [1, 2, 3, 4, 0, 5] rfl) hf
      · replace hf := (if_neg c7).symm.trans hf
        refine lv_iconst (v := 1) hx hb dX6_findFirst_39 (by decide) ?_
        exact hw_zret hx hb hret rfl hf hH hlocks dX6_findFirst_40
set_option maxHeartbeats 4000000 in
set_option maxRecDepth 100000 in
theorem k_X6_findFirst (l : Launch) (E : Ev) (K : Kd) (z : Nat) (o : Nat) (a_1 : Option Nat) (a_2 : Int32) (a_3 : Int32) (w : Wd) (ho : K o = some (5, 0)) {r : Bool} {w' : Wd} (hf : f_X6_findFirst K o a_1 a_2 a_3 w = some (r, w')) : Met l yX6_findFirst (Cond.code yX6_findFirst cX6_findFirst 6 (Option.some Jvm.ClassFile.FieldType.boolean) :: bt) ({ frames := 4, cells := 0, slots := 0, locals := 103 } : Room) (va_Pc [rv E (some o), rv E a_1, .int a_2, .int a_3] (HB E K w z)) (QI E K z w' (b2i r)) 0 0 (hA E) := by
  refine Met.ofW (cc := cX6_findFirst) (maxL := 6) (ret := (Option.some Jvm.ClassFile.FieldType.boolean)) (by decide) rfl ?_
  intro p e s m args below meth c s₁ B hml hv
  obtain ⟨rfl, hz, hP, hKs, hT, hb0⟩ := hv
  have C : CX p l e s m _ meth c cX6_findFirst 6 RX6 (Option.some Jvm.ClassFile.FieldType.boolean) E := ⟨B.exec, B.bytes, hml, findClass_of_methodNamed B.named, fun w h => atoms_spec (ws := Cond.code yX6_findFirst cX6_findFirst 6 (Option.some Jvm.ClassFile.FieldType.boolean) :: bt) B.pre w (List.mem_cons_of_mem _ h), hKs, hT, by rw [hz]; exact hb0, B.notSynchronized, B.returns⟩
  have hH : HQ E K z w s s.heap [] := ⟨hP, va_S.rf, hz⟩
  obtain ⟨hx, hb, hml, hown, hts, hKs, hT, hb0, hlocks, hret⟩ := id C
  have hl := lv_entry [rv E (some o), rv E a_1, .int a_2, .int a_3] (n := 6) (by simp [lg_len_nil, lg_len_i, lg_len_j, lg_len_q, lg_len_f, lg_len_d, lg_len_r])
  rw [lg_entry_eq]
  generalize (lg_sl [rv E (some o), rv E a_1, .int a_2, .int a_3] ++ List.replicate (6 - (lg_sl [rv E (some o), rv E a_1, .int a_2, .int a_3]).length) Slot.unset).toArray = ls at hl ⊢
  replace hl : lv_has ls 6 [(0, rv E (some o)), (1, rv E a_1), (2, .int a_2), (3, .int a_3)] := by simpa only [lv_args, cat_q, cat_i, cat_j, reduceIte, Nat.reduceEqDiff, Nat.reduceAdd, Nat.zero_add] using hl
  generalize s.heap = H at hH ⊢
  unfold f_X6_findFirst at hf
  refine hl_aload_n hx hb dX6_findFirst_0 rfl (lv_at hl 0 rfl) ?_
  refine hl_aload_n hx hb dX6_findFirst_1 rfl (lv_at hl 1 rfl) ?_
  refine lv_iload_n hx hb dX6_findFirst_2 rfl (lv_at hl 2 rfl) ?_
  obtain ⟨q1, hq1, hf⟩ := bnd hf
  refine hcV_v hx hb hml hown hts hKs hT hb0 hH (As := [rv E a_1, .int a_2]) (rest := []) (k_X6_lookAtOfficers l E K H.size o a_1 a_2 w ho hq1) (gV m4_114 m4_116 ms_25 m1_14 m4_117) hd_X6_lookAtOfficers ⟨Nat.le_of_ble_eq_true rfl, Nat.le_of_ble_eq_true rfl, rfl, rfl⟩ rfl ho rfl rfl rfl hl.1 rfl rc0 rfl dX6_findFirst_3 ⟨Nat.zero_le _, Nat.zero_le _⟩ (fun H locs hH => ?_)
  refine hl_aload_n hx hb dX6_findFirst_6 rfl (lv_at hl 1 rfl) ?_
  refine lv_iload_n hx hb dX6_findFirst_7 rfl (lv_at hl 2 rfl) ?_
  obtain ⟨q2, hq2, hf⟩ := bnd hf
  refine hcS_i hx hb hml hown hts hKs hT hb0 hH (As := [rv E a_1, .int a_2]) (rest := []) (k_X6_lastDay l E K H.size a_1 a_2 q1 hq2) (gS m4_128 m4_129 m1_14 m4_130) hs_X6_lastDay ⟨Nat.le_of_ble_eq_true rfl, Nat.le_of_ble_eq_true rfl, rfl, rfl⟩ hl.1 rfl rc0 rfl dX6_findFirst_8 ⟨Nat.zero_le _, Nat.zero_le _⟩ (fun H locs hH => ?_)
  refine lv_istore (i := 4) (lv' := [(4, .int (q2.1)), (0, rv E (some o)), (1, rv E a_1), (2, .int a_2), (3, .int a_3)]) hx hb dX6_findFirst_11 hl (by decide) rfl (fun ls hl => ?_)
  refine hl_aload_n hx hb dX6_findFirst_13 rfl (lv_at hl 2 rfl) ?_
  refine lv_iload_n hx hb dX6_findFirst_14 rfl (lv_at hl 3 rfl) ?_
  obtain ⟨q3, hq3, hf⟩ := bnd hf
  refine hcS_i hx hb hml hown hts hKs hT hb0 hH (As := [rv E a_1, .int a_2]) (rest := []) (k_X6_firstDay l E K H.size a_1 a_2 q2.2 hq3) (gS m4_133 m4_134 m1_14 m4_135) hs_X6_firstDay ⟨Nat.le_of_ble_eq_true rfl, Nat.le_of_ble_eq_true rfl, rfl, rfl⟩ hl.1 rfl rc0 rfl dX6_findFirst_15 ⟨Nat.zero_le _, Nat.zero_le _⟩ (fun H locs hH => ?_)
  refine lv_istore (i := 5) (lv' := [(5, .int (q3.1)), (4, .int (q2.1)), (0, rv E (some o)), (1, rv E a_1), (2, .int a_2), (3, .int a_3)]) hx hb dX6_findFirst_18 hl (by decide) rfl (fun ls hl => ?_)
  refine l_X6_findFirst_L20  C ho _ (fun v1_20 v2_20 v3_20 v4_20 v5_20 w4 H locs ls hH hl hf => ?_) fu a_1 a_2 a_3 q2.1 q3.1 q3.2 _ _ _ hH (lv_sub hl [3, 4, 5, 1, 0, 2] rfl) hf
  refine lv_iconst (v := 0) hx hb dX6_findFirst_47 (by decide) ?_
  exact hw_zret hx hb hret rfl hf hH hlocks dX6_findFirst_48

theorem dX6_countOpenDays_0 : decode cX6_countOpenDays 0 = .ok (.aload_n 0, 1) := by decide +kernel
theorem dX6_countOpenDays_1 : decode cX6_countOpenDays 1 = .ok (.aload_n 1, 1) := by decide +kernel
theorem dX6_countOpenDays_2 : decode cX6_countOpenDays 2 = .ok (.iload_n 2, 1) := by decide +kernel
theorem dX6_countOpenDays_3 : decode cX6_countOpenDays 3 = .ok (.invokevirtual 53, 3) := by decide +kernel
theorem dX6_countOpenDays_6 : decode cX6_countOpenDays 6 = .ok (.aload_n 1, 1) := by decide +kernel
theorem dX6_countOpenDays_7 : decode cX6_countOpenDays 7 = .ok (.iload_n 2, 1) := by decide +kernel
theorem dX6_countOpenDays_8 : decode cX6_countOpenDays 8 = .ok (.invokestatic 87, 3) := by decide +kernel
theorem dX6_countOpenDays_11 : decode cX6_countOpenDays 11 = .ok (.istore_n 3, 1) := by decide +kernel
theorem dX6_countOpenDays_12 : decode cX6_countOpenDays 12 = .ok (.iconst 0, 1) := by decide +kernel
theorem dX6_countOpenDays_13 : decode cX6_countOpenDays 13 = .ok (.istore 4, 2) := by decide +kernel
theorem dX6_countOpenDays_15 : decode cX6_countOpenDays 15 = .ok (.aload_n 1, 1) := by decide +kernel
theorem dX6_countOpenDays_16 : decode cX6_countOpenDays 16 = .ok (.iload_n 2, 1) := by decide +kernel
theorem dX6_countOpenDays_17 : decode cX6_countOpenDays 17 = .ok (.invokestatic 91, 3) := by decide +kernel
theorem dX6_countOpenDays_20 : decode cX6_countOpenDays 20 = .ok (.istore 5, 2) := by decide +kernel
theorem dX6_countOpenDays_22 : decode cX6_countOpenDays 22 = .ok (.iload 5, 2) := by decide +kernel
theorem dX6_countOpenDays_24 : decode cX6_countOpenDays 24 = .ok (.iload_n 3, 1) := by decide +kernel
theorem dX6_countOpenDays_25 : decode cX6_countOpenDays 25 = .ok (.if_icmp .gt 24, 3) := by decide +kernel
theorem dX6_countOpenDays_28 : decode cX6_countOpenDays 28 = .ok (.aload_n 0, 1) := by decide +kernel
theorem dX6_countOpenDays_29 : decode cX6_countOpenDays 29 = .ok (.aload_n 1, 1) := by decide +kernel
theorem dX6_countOpenDays_30 : decode cX6_countOpenDays 30 = .ok (.iload_n 2, 1) := by decide +kernel
theorem dX6_countOpenDays_31 : decode cX6_countOpenDays 31 = .ok (.iload 5, 2) := by decide +kernel
theorem dX6_countOpenDays_33 : decode cX6_countOpenDays 33 = .ok (.iconst 0, 1) := by decide +kernel
theorem dX6_countOpenDays_34 : decode cX6_countOpenDays 34 = .ok (.invokevirtual 94, 3) := by decide +kernel
theorem dX6_countOpenDays_37 : decode cX6_countOpenDays 37 = .ok (.ifCond .eq 6, 3) := by decide +kernel
theorem dX6_countOpenDays_40 : decode cX6_countOpenDays 40 = .ok (.iinc 4 1, 3) := by decide +kernel
theorem dX6_countOpenDays_43 : decode cX6_countOpenDays 43 = .ok (.iinc 5 1, 3) := by decide +kernel
theorem dX6_countOpenDays_46 : decode cX6_countOpenDays 46 = .ok (.goto (-24), 3) := by decide +kernel
theorem dX6_countOpenDays_49 : decode cX6_countOpenDays 49 = .ok (.iload 4, 2) := by decide +kernel
theorem dX6_countOpenDays_51 : decode cX6_countOpenDays 51 = .ok (.ireturn, 1) := by decide +kernel
theorem hd_X6_countOpenDays : yX6_countOpenDays.cls = RX6 ∧ yX6_countOpenDays.cls ≠ "java/lang/invoke/MethodHandle" ∧ yX6_countOpenDays.cls ≠ "java/lang/invoke/VarHandle" ∧ (parseMethodDescriptor yX6_countOpenDays.desc).map (fun d => d.parameters.length) = some 2 := by decide +kernel
theorem hs_X6_countOpenDays : yX6_countOpenDays.cls ≠ "java/lang/invoke/MethodHandle" ∧ yX6_countOpenDays.cls ≠ "java/lang/invoke/VarHandle" ∧ (parseMethodDescriptor yX6_countOpenDays.desc).map (fun d => d.parameters.length) = some 2 := by decide +kernel
set_option maxHeartbeats 4000000 in
set_option maxRecDepth 100000 in
theorem l_X6_countOpenDays_L22 (C : CX p l e s m args meth c cX6_countOpenDays 6 RX6 (Option.some Jvm.ClassFile.FieldType.int) E) {o : Nat} (ho : K o = some (5, 0)) {r : Int32} {w' : Wd} (k : Option Nat → Int32 → Int32 → Int32 → Int32 → Wd → Option (Int32 × Wd)) (hk : ∀ (v1_22 : Option Nat) (v2_22 : Int32) (v3_22 : Int32) (v4_22 : Int32) (v5_22 : Int32) (w : Wd) (H : Heap) (locs : List Loc) (ls : Array Slot), HQ E K z w s H locs → lv_has ls 6 [(1, rv E v1_22), (2, .int v2_22), (3, .int v3_22), (4, .int v4_22), (5, .int v5_22), (0, rv E (some o))] → k v1_22 v2_22 v3_22 v4_22 v5_22 w = some (r, w') → W p l e ({ frames := 4, cells := 0, slots := 0, locals := 103 } : Room) s m args below meth c H locs 0 0 (MQ below (QI E K z w' r) args s 0 0 (hA E)) (F0 m 49 ls [])) : ∀ (n : Nat) (v1_22 : Option Nat) (v2_22 : Int32) (v3_22 : Int32) (v4_22 : Int32) (v5_22 : Int32) (w : Wd) (H : Heap) (locs : List Loc) (ls : Array Slot), HQ E K z w s H locs → lv_has ls 6 [(1, rv E v1_22), (2, .int v2_22), (3, .int v3_22), (4, .int v4_22), (5, .int v5_22), (0, rv E (some o))] → f_X6_countOpenDays_L22 K o k n v1_22 v2_22 v3_22 v4_22 v5_22 w = some (r, w') → W p l e ({ frames := 4, cells := 0, slots := 0, locals := 103 } : Room) s m args below meth c H locs 0 0 (MQ below (QI E K z w' r) args s 0 0 (hA E)) (F0 m 22 ls []) := by
  obtain ⟨hx, hb, hml, hown, hts, hKs, hT, hb0, hlocks, hret⟩ := id C
  intro n
  induction n with
  | zero =>
    intro v1_22 v2_22 v3_22 v4_22 v5_22 w H locs ls hH hl hf
    cases hf
  | succ n ih =>
    intro v1_22 v2_22 v3_22 v4_22 v5_22 w H locs ls hH hl hf
    rw [f_X6_countOpenDays_L22] at hf
    refine lv_iload hx hb dX6_countOpenDays_22 (lv_at hl 4 rfl) ?_
    refine lv_iload_n hx hb dX6_countOpenDays_24 rfl (lv_at hl 2 rfl) ?_
    refine lv_icmp_gt (tgt := 49) hx hb dX6_countOpenDays_25 (by decide) (fun c5 => ?_) (fun c5 => ?_)
    · replace hf := (if_pos c5).symm.trans hf
      exact hk v1_22 v2_22 v3_22 v4_22 v5_22 _ _ _ _ hH (lv_sub hl [0, 1, 2, 3, 4, 5] rfl) hf
    · replace hf := (if_neg c5).symm.trans hf
      refine hl_aload_n hx hb dX6_countOpenDays_28 rfl (lv_at hl 5 rfl) ?_
      refine hl_aload_n hx hb dX6_countOpenDays_29 rfl (lv_at hl 0 rfl) ?_
      refine lv_iload_n hx hb dX6_countOpenDays_30 rfl (lv_at hl 1 rfl) ?_
      refine lv_iload hx hb dX6_countOpenDays_31 (lv_at hl 4 rfl) ?_
      refine lv_iconst (v := 0) hx hb dX6_countOpenDays_33 (by decide) ?_
      obtain ⟨q6, hq6, hf⟩ := bnd hf
      refine hcV_i hx hb hml hown hts hKs hT hb0 hH (As := [rv E v1_22, .int v2_22, .int v5_22, .int 0]) (rest := []) (k_X6_findOn l E K H.size o v1_22 v2_22 v5_22 0 w ho hq6) (gV m4_137 m4_139 ms_26 m1_14 m4_140) hd_X6_findOn ⟨Nat.le_of_ble_eq_true rfl, Nat.le_of_ble_eq_true rfl, rfl, rfl⟩ rfl ho rfl rfl rfl hl.1 rfl rc0 rfl dX6_countOpenDays_34 ⟨Nat.zero_le _, Nat.zero_le _⟩ (fun H locs hH => ?_)
      refine lv_if_eq (tgt := 43) hx hb dX6_countOpenDays_37 (by decide) (fun c7 => ?_) (fun c7 => ?_)
      · replace hf := (if_pos c7).symm.trans hf
        refine lv_iinc (v := (v5_22 + 1)) (lv' := [(5, .int ((v5_22 + 1))), (1, rv E v1_22), (2, .int v2_22), (3, .int v3_22), (4, .int v4_22), (0, rv E (some o))]) hx hb dX6_countOpenDays_43 hl (k := 4) rfl rfl (by decide) rfl (fun ls hl => ?_)
        refine lv_goto (tgt := 22) hx hb dX6_countOpenDays_46 (by decide) ?_
        exact ih v1_22 v2_22 v3_22 v4_22 (v5_22 + 1) _ _ _ _ hH (lv_sub hl [1, 2, 3, 4, 0, 5] rfl) hf
      · replace hf := (if_neg c7).symm.trans hf
        refine lv_iinc (v := (v4_22 + 1)) (lv' := [(4, .int ((v4_22 + 1))), (1, rv E v1_22), (2, .int v2_22), (3, .int v3_22), (5, .int v5_22), (0, rv E (some o))]) hx hb dX6_countOpenDays_40 hl (k := 3) rfl rfl (by decide) rfl (fun ls hl => ?_)
        refine lv_iinc (v := (v5_22 + 1)) (lv' := [(5, .int ((v5_22 + 1))), (4, .int ((v4_22 + 1))), (1, rv E v1_22), (2, .int v2_22), (3, .int v3_22), (0, rv E (some o))]) hx hb dX6_countOpenDays_43 hl (k := 4) rfl rfl (by decide) rfl (fun ls hl => ?_)
        refine lv_goto (tgt := 22) hx hb dX6_countOpenDays_46 (by decide) ?_
        exact ih v1_22 v2_22 v3_22 (v4_22 + 1) (v5_22 + 1) _ _ _ _ hH (lv_sub hl [2, 3, 4, 1, 0, 5] rfl) hf
set_option maxHeartbeats 4000000 in
set_option maxRecDepth 100000 in
theorem k_X6_countOpenDays (l : Launch) (E : Ev) (K : Kd) (z : Nat) (o : Nat) (a_1 : Option Nat) (a_2 : Int32) (w : Wd) (ho : K o = some (5, 0)) {r : Int32} {w' : Wd} (hf : f_X6_countOpenDays K o a_1 a_2 w = some (r, w')) : Met l yX6_countOpenDays (Cond.code yX6_countOpenDays cX6_countOpenDays 6 (Option.some Jvm.ClassFile.FieldType.int) :: bt) ({ frames := 4, cells := 0, slots := 0, locals := 103 } : Room) (va_Pc [rv E (some o), rv E a_1, .int a_2] (HB E K w z)) (QI E K z w' r) 0 0 (hA E) := by
  refine Met.ofW (cc := cX6_countOpenDays) (maxL := 6) (ret := (Option.some Jvm.ClassFile.FieldType.int)) (by decide) rfl ?_
  intro p e s m args below meth c s₁ B hml hv
  obtain ⟨rfl, hz, hP, hKs, hT, hb0⟩ := hv
  have C : CX p l e s m _ meth c cX6_countOpenDays 6 RX6 (Option.some Jvm.ClassFile.FieldType.int) E := ⟨B.exec, B.bytes, hml, findClass_of_methodNamed B.named, fun w h => atoms_spec (ws := Cond.code yX6_countOpenDays cX6_countOpenDays 6 (Option.some Jvm.ClassFile.FieldType.int) :: bt) B.pre w (List.mem_cons_of_mem _ h), hKs, hT, by rw [hz]; exact hb0, B.notSynchronized, B.returns⟩
  have hH : HQ E K z w s s.heap [] := ⟨hP, va_S.rf, hz⟩
  obtain ⟨hx, hb, hml, hown, hts, hKs, hT, hb0, hlocks, hret⟩ := id C
  have hl := lv_entry [rv E (some o), rv E a_1, .int a_2] (n := 6) (by simp [lg_len_nil, lg_len_i, lg_len_j, lg_len_q, lg_len_f, lg_len_d, lg_len_r])
  rw [lg_entry_eq]
  generalize (lg_sl [rv E (some o), rv E a_1, .int a_2] ++ List.replicate (6 - (lg_sl [rv E (some o), rv E a_1, .int a_2]).length) Slot.unset).toArray = ls at hl ⊢
  replace hl : lv_has ls 6 [(0, rv E (some o)), (1, rv E a_1), (2, .int a_2)] := by simpa only [lv_args, cat_q, cat_i, cat_j, reduceIte, Nat.reduceEqDiff, Nat.reduceAdd, Nat.zero_add] using hl
  generalize s.heap = H at hH ⊢
  unfold f_X6_countOpenDays at hf
  refine hl_aload_n hx hb dX6_countOpenDays_0 rfl (lv_at hl 0 rfl) ?_
  refine hl_aload_n hx hb dX6_countOpenDays_1 rfl (lv_at hl 1 rfl) ?_
  refine lv_iload_n hx hb dX6_countOpenDays_2 rfl (lv_at hl 2 rfl) ?_
  obtain ⟨q1, hq1, hf⟩ := bnd hf
  refine hcV_v hx hb hml hown hts hKs hT hb0 hH (As := [rv E a_1, .int a_2]) (rest := []) (k_X6_lookAtOfficers l E K H.size o a_1 a_2 w ho hq1) (gV m4_114 m4_116 ms_25 m1_14 m4_117) hd_X6_lookAtOfficers ⟨Nat.le_of_ble_eq_true rfl, Nat.le_of_ble_eq_true rfl, rfl, rfl⟩ rfl ho rfl rfl rfl hl.1 rfl rc0 rfl dX6_countOpenDays_3 ⟨Nat.zero_le _, Nat.zero_le _⟩ (fun H locs hH => ?_)
  refine hl_aload_n hx hb dX6_countOpenDays_6 rfl (lv_at hl 1 rfl) ?_
  refine lv_iload_n hx hb dX6_countOpenDays_7 rfl (lv_at hl 2 rfl) ?_
  obtain ⟨q2, hq2, hf⟩ := bnd hf
  refine hcS_i hx hb hml hown hts hKs hT hb0 hH (As := [rv E a_1, .int a_2]) (rest := []) (k_X6_lastDay l E K H.size a_1 a_2 q1 hq2) (gS m4_128 m4_129 m1_14 m4_130) hs_X6_lastDay ⟨Nat.le_of_ble_eq_true rfl, Nat.le_of_ble_eq_true rfl, rfl, rfl⟩ hl.1 rfl rc0 rfl dX6_countOpenDays_8 ⟨Nat.zero_le _, Nat.zero_le _⟩ (fun H locs hH => ?_)
  refine lv_istore_n (i := 3) (lv' := [(3, .int (q2.1)), (0, rv E (some o)), (1, rv E a_1), (2, .int a_2)]) hx hb dX6_countOpenDays_11 rfl hl (by decide) rfl (fun ls hl => ?_)
  refine lv_iconst (v := 0) hx hb dX6_countOpenDays_12 (by decide) ?_
  refine lv_istore (i := 4) (lv' := [(4, .int 0), (3, .int (q2.1)), (0, rv E (some o)), (1, rv E a_1), (2, .int a_2)]) hx hb dX6_countOpenDays_13 hl (by decide) rfl (fun ls hl => ?_)
  refine hl_aload_n hx hb dX6_countOpenDays_15 rfl (lv_at hl 3 rfl) ?_
  refine lv_iload_n hx hb dX6_countOpenDays_16 rfl (lv_at hl 4 rfl) ?_
  obtain ⟨q3, hq3, hf⟩ := bnd hf
  refine hcS_i hx hb hml hown hts hKs hT hb0 hH (As := [rv E a_1, .int a_2]) (rest := []) (k_X6_firstDay l E K H.size a_1 a_2 q2.2 hq3) (gS m4_133 m4_134 m1_14 m4_135) hs_X6_firstDay ⟨Nat.le_of_ble_eq_true rfl, Nat.le_of_ble_eq_true rfl, rfl, rfl⟩ hl.1 rfl rc0 rfl dX6_countOpenDays_17 ⟨Nat.zero_le _, Nat.zero_le _⟩ (fun H locs hH => ?_)
  refine lv_istore (i := 5) (lv' := [(5, .int (q3.1)), (4, .int 0), (3, .int (q2.1)), (0, rv E (some o)), (1, rv E a_1), (2, .int a_2)]) hx hb dX6_countOpenDays_20 hl (by decide) rfl (fun ls hl => ?_)
  refine l_X6_countOpenDays_L22  C ho _ (fun v1_22 v2_22 v3_22 v4_22 v5_22 w4 H locs ls hH hl hf => ?_) fu a_1 a_2 q2.1 0 q3.1 q3.2 _ _ _ hH (lv_sub hl [4, 5, 2, 1, 0, 3] rfl) hf
  refine lv_iload hx hb dX6_countOpenDays_49 (lv_at hl 3 rfl) ?_
  exact hw_iret hx hb hret hf hH hlocks dX6_countOpenDays_51
end
