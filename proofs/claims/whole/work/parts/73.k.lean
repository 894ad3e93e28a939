section
variable {p : Program} {l : Launch} {e : Env} {s : State} {m : MethodId} {args : Array Value} {below : List Frame} {meth : Method} {c : Code} {E : Ev} {K : Kd} {z : Nat}

theorem dX12_isBarred_0 : decode cX12_isBarred 0 = .ok (.aload_n 0, 1) := by decide +kernel
theorem dX12_isBarred_1 : decode cX12_isBarred 1 = .ok (.iconst 1, 1) := by decide +kernel
theorem dX12_isBarred_2 : decode cX12_isBarred 2 = .ok (.iload_n 1, 1) := by decide +kernel
theorem dX12_isBarred_3 : decode cX12_isBarred 3 = .ok (.invokevirtual 175, 3) := by decide +kernel
theorem dX12_isBarred_6 : decode cX12_isBarred 6 = .ok (.aload_n 0, 1) := by decide +kernel
theorem dX12_isBarred_7 : decode cX12_isBarred 7 = .ok (.iconst 3, 1) := by decide +kernel
theorem dX12_isBarred_8 : decode cX12_isBarred 8 = .ok (.iload_n 2, 1) := by decide +kernel
theorem dX12_isBarred_9 : decode cX12_isBarred 9 = .ok (.invokevirtual 175, 3) := by decide +kernel
theorem dX12_isBarred_12 : decode cX12_isBarred 12 = .ok (.aload_n 0, 1) := by decide +kernel
theorem dX12_isBarred_13 : decode cX12_isBarred 13 = .ok (.getfield 35, 3) := by decide +kernel
theorem dX12_isBarred_16 : decode cX12_isBarred 16 = .ok (.iload_n 2, 1) := by decide +kernel
theorem dX12_isBarred_17 : decode cX12_isBarred 17 = .ok (.invokevirtual 200, 3) := by decide +kernel
theorem dX12_isBarred_20 : decode cX12_isBarred 20 = .ok (.iload_n 1, 1) := by decide +kernel
theorem dX12_isBarred_21 : decode cX12_isBarred 21 = .ok (.invokestatic 203, 3) := by decide +kernel
theorem dX12_isBarred_24 : decode cX12_isBarred 24 = .ok (.ireturn, 1) := by decide +kernel
theorem hd_X12_isBarred : yX12_isBarred.cls = RX12 ∧ yX12_isBarred.cls ≠ "java/lang/invoke/MethodHandle" ∧ yX12_isBarred.cls ≠ "java/lang/invoke/VarHandle" ∧ (parseMethodDescriptor yX12_isBarred.desc).map (fun d => d.parameters.length) = some 2 := by decide +kernel
theorem hs_X12_isBarred : yX12_isBarred.cls ≠ "java/lang/invoke/MethodHandle" ∧ yX12_isBarred.cls ≠ "java/lang/invoke/VarHandle" ∧ (parseMethodDescriptor yX12_isBarred.desc).map (fun d => d.parameters.length) = some 2 := by decide +kernel
set_option maxHeartbeats 4000000 in
set_option maxRecDepth 100000 in
theorem k_X12_isBarred (l : Launch) (hls : l.stackTraces = false) (E : Ev) (K : Kd) (z : Nat) (o : Nat) (a_1 : Int32) (a_2 : Int32) (w : Wd) (ho : K o = some (10, 0)) {r : Bool ⊕ Nat} {w' : Wd} (hf : f_X12_isBarred K o a_1 a_2 w = some (r, w')) : vx_Met l yX12_isBarred (Cond.code yX12_isBarred cX12_isBarred 3 (Option.some Jvm.ClassFile.FieldType.boolean) :: bt) ({ frames := 7, cells := 2, slots := 12, locals := 112 } : Room) (va_Pc [rv E (some o), .int a_1, .int a_2] (HB E K w z)) (XZ E K z w' r) (XX E K w' r) 2 12 (hA E) := by
  refine vx_ofW (cc := cX12_isBarred) (maxL := 3) (ret := (Option.some Jvm.ClassFile.FieldType.boolean)) (by decide) rfl ?_
  intro p e s m args below meth c s₁ B hml hout hv
  obtain ⟨rfl, hz, hP, hKs, hT, hb0⟩ := hv
  have C : CX p l e s m _ meth c cX12_isBarred 3 RX12 (Option.some Jvm.ClassFile.FieldType.boolean) E := ⟨B.exec, B.bytes, hml, findClass_of_methodNamed B.named, fun w h => atoms_spec (ws := Cond.code yX12_isBarred cX12_isBarred 3 (Option.some Jvm.ClassFile.FieldType.boolean) :: bt) B.pre w (List.mem_cons_of_mem _ h), hKs, hT, by rw [hz]; exact hb0, B.notSynchronized, B.returns⟩
  have hH : HQ E K z w s s.heap [] := ⟨hP, va_S.rf, hz⟩
  obtain ⟨hx, hb, hml, hown, hts, hKs, hT, hb0, hlocks, hret⟩ := id C
  have hl := lv_entry [rv E (some o), .int a_1, .int a_2] (n := 3) (by simp [lg_len_nil, lg_len_i, lg_len_j, lg_len_q, lg_len_f, lg_len_d, lg_len_r])
  rw [lg_entry_eq]
  generalize (lg_sl [rv E (some o), .int a_1, .int a_2] ++ List.replicate (3 - (lg_sl [rv E (some o), .int a_1, .int a_2]).length) Slot.unset).toArray = ls at hl ⊢
  replace hl : lv_has ls 3 [(0, rv E (some o)), (1, .int a_1), (2, .int a_2)] := by simpa only [lv_args, cat_q, cat_i, cat_j, reduceIte, Nat.reduceEqDiff, Nat.reduceAdd, Nat.zero_add] using hl
  generalize s.heap = H at hH ⊢
  unfold f_X12_isBarred at hf
  refine hl_aload_n hx hb dX12_isBarred_0 rfl (lv_at hl 0 rfl) ?_
  refine lv_iconst (v := 1) hx hb dX12_isBarred_1 (by decide) ?_
  refine lv_iload_n hx hb dX12_isBarred_2 rfl (lv_at hl 1 rfl) ?_
  obtain ⟨q1, hq1, hf⟩ := bnd hf
  refine hxV_v hx hb hml hown hts hKs hT hb0 hH (As := [.int 1, .int a_1]) (rest := []) (k_X12_requireExisting l hls E K H.size o 1 a_1 w ho hq1) (gV m5_90 m5_92 ms_36 m1_1 m5_93) hd_X12_requireExisting ⟨Nat.le_of_ble_eq_true rfl, Nat.le_of_ble_eq_true rfl, rfl, rfl⟩ rfl ho rfl rfl rfl hl.1 rfl rc0 rfl dX12_isBarred_3 ⟨Nat.le_of_ble_eq_true rfl, Nat.le_of_ble_eq_true rfl⟩ ⟨Nat.le_of_ble_eq_true rfl, Nat.le_of_ble_eq_true rfl⟩ hout hlocks (fun x hx9 => (fun h9 => ⟨(congrArg Prod.fst h9).symm, (congrArg Prod.snd h9).symm⟩) (Option.some.inj ((xk_inr hx9).symm.trans hf))) (fun v2 hv2 H locs hH => ?_)
  replace hf := (xk_inl hv2).symm.trans hf
  refine hl_aload_n hx hb dX12_isBarred_6 rfl (lv_at hl 0 rfl) ?_
  refine lv_iconst (v := 3) hx hb dX12_isBarred_7 (by decide) ?_
  refine lv_iload_n hx hb dX12_isBarred_8 rfl (lv_at hl 2 rfl) ?_
  obtain ⟨q3, hq3, hf⟩ := bnd hf
  refine hxV_v hx hb hml hown hts hKs hT hb0 hH (As := [.int 3, .int a_2]) (rest := []) (k_X12_requireExisting l hls E K H.size o 3 a_2 q1.2 ho hq3) (gV m5_90 m5_92 ms_36 m1_1 m5_93) hd_X12_requireExisting ⟨Nat.le_of_ble_eq_true rfl, Nat.le_of_ble_eq_true rfl, rfl, rfl⟩ rfl ho rfl rfl rfl hl.1 rfl rc0 rfl dX12_isBarred_9 ⟨Nat.le_of_ble_eq_true rfl, Nat.le_of_ble_eq_true rfl⟩ ⟨Nat.le_of_ble_eq_true rfl, Nat.le_of_ble_eq_true rfl⟩ hout hlocks (fun x hx9 => (fun h9 => ⟨(congrArg Prod.fst h9).symm, (congrArg Prod.snd h9).symm⟩) (Option.some.inj ((xk_inr hx9).symm.trans hf))) (fun v4 hv4 H locs hH => ?_)
  replace hf := (xk_inl hv4).symm.trans hf
  refine hl_aload_n hx hb dX12_isBarred_12 rfl (lv_at hl 0 rfl) ?_
  refine g12_5 hx hb hts hown hKs hH rfl ho m2_224 dX12_isBarred_13 ?_
  refine lv_iload_n hx hb dX12_isBarred_16 rfl (lv_at hl 2 rfl) ?_
  obtain ⟨a5, ha5, hf⟩ := bnd hf
  replace ha5 := chk_some ha5
  obtain ⟨q6, hq6, hf⟩ := bnd hf
  refine hcV_i hx hb hml hown hts hKs hT hb0 hH (As := [.int a_2]) (rest := []) (k_X10_barredOfficers l E K H.size a5 a_2 q3.2 ha5.2 hq6) (gV m5_128 m4_119 m4_120 m1_12 m4_121) hd_X10_barredOfficers ⟨Nat.le_of_ble_eq_true rfl, Nat.le_of_ble_eq_true rfl, rfl, rfl⟩ ha5.1 ha5.2 rfl rfl rfl hl.1 rfl rc0 rfl dX12_isBarred_17 ⟨Nat.le_of_ble_eq_true rfl, Nat.le_of_ble_eq_true rfl⟩ (fun H locs hH => ?_)
  refine lv_iload_n hx hb dX12_isBarred_20 rfl (lv_at hl 1 rfl) ?_
  obtain ⟨q7, hq7, hf⟩ := bnd hf
  refine hcS_i hx hb hml hown hts hKs hT hb0 hH (As := [.int (q6.1), .int a_1]) (rest := []) (k_X12_has l E K H.size q6.1 a_1 q6.2 hq7) (gS m5_129 m3_194 m1_1 m3_195) hs_X12_has ⟨Nat.le_of_ble_eq_true rfl, Nat.le_of_ble_eq_true rfl, rfl, rfl⟩ hl.1 rfl rc0 rfl dX12_isBarred_21 ⟨Nat.le_of_ble_eq_true rfl, Nat.le_of_ble_eq_true rfl⟩ (fun H locs hH => ?_)
  exact hx_zret hx hb (Nat.le_of_ble_eq_true rfl) (Nat.le_of_ble_eq_true rfl) hret rfl hf hH hlocks dX12_isBarred_24

theorem dX12_load_0 : decode cX12_load 0 = .ok (.aload_n 0, 1) := by decide +kernel
theorem dX12_load_1 : decode cX12_load 1 = .ok (.iconst 1, 1) := by decide +kernel
theorem dX12_load_2 : decode cX12_load 2 = .ok (.iload_n 1, 1) := by decide +kernel
theorem dX12_load_3 : decode cX12_load 3 = .ok (.invokevirtual 175, 3) := by decide +kernel
theorem dX12_load_6 : decode cX12_load 6 = .ok (.aload_n 0, 1) := by decide +kernel
theorem dX12_load_7 : decode cX12_load 7 = .ok (.getfield 35, 3) := by decide +kernel
theorem dX12_load_10 : decode cX12_load 10 = .ok (.iload_n 1, 1) := by decide +kernel
theorem dX12_load_11 : decode cX12_load 11 = .ok (.invokevirtual 206, 3) := by decide +kernel
theorem dX12_load_14 : decode cX12_load 14 = .ok (.ireturn, 1) := by decide +kernel
theorem hd_X12_load : yX12_load.cls = RX12 ∧ yX12_load.cls ≠ "java/lang/invoke/MethodHandle" ∧ yX12_load.cls ≠ "java/lang/invoke/VarHandle" ∧ (parseMethodDescriptor yX12_load.desc).map (fun d => d.parameters.length) = some 1 := by decide +kernel
theorem hs_X12_load : yX12_load.cls ≠ "java/lang/invoke/MethodHandle" ∧ yX12_load.cls ≠ "java/lang/invoke/VarHandle" ∧ (parseMethodDescriptor yX12_load.desc).map (fun d => d.parameters.length) = some 1 := by decide +kernel
set_option maxHeartbeats 4000000 in
set_option maxRecDepth 100000 in
theorem k_X12_load (l : Launch) (hls : l.stackTraces = false) (E : Ev) (K : Kd) (z : Nat) (o : Nat) (a_1 : Int32) (w : Wd) (ho : K o = some (10, 0)) {r : Int32 ⊕ Nat} {w' : Wd} (hf : f_X12_load K o a_1 w = some (r, w')) : vx_Met l yX12_load (Cond.code yX12_load cX12_load 2 (Option.some Jvm.ClassFile.FieldType.int) :: bt) ({ frames := 7, cells := 1, slots := 6, locals := 112 } : Room) (va_Pc [rv E (some o), .int a_1] (HB E K w z)) (XI E K z w' r) (XX E K w' r) 1 6 (hA E) := by
  refine vx_ofW (cc := cX12_load) (maxL := 2) (ret := (Option.some Jvm.ClassFile.FieldType.int)) (by decide) rfl ?_
  intro p e s m args below meth c s₁ B hml hout hv
  obtain ⟨rfl, hz, hP, hKs, hT, hb0⟩ := hv
  have C : CX p l e s m _ meth c cX12_load 2 RX12 (Option.some Jvm.ClassFile.FieldType.int) E := ⟨B.exec, B.bytes, hml, findClass_of_methodNamed B.named, fun w h => atoms_spec (ws := Cond.code yX12_load cX12_load 2 (Option.some Jvm.ClassFile.FieldType.int) :: bt) B.pre w (List.mem_cons_of_mem _ h), hKs, hT, by rw [hz]; exact hb0, B.notSynchronized, B.returns⟩
  have hH : HQ E K z w s s.heap [] := ⟨hP, va_S.rf, hz⟩
  obtain ⟨hx, hb, hml, hown, hts, hKs, hT, hb0, hlocks, hret⟩ := id C
  have hl := lv_entry [rv E (some o), .int a_1] (n := 2) (by simp [lg_len_nil, lg_len_i, lg_len_j, lg_len_q, lg_len_f, lg_len_d, lg_len_r])
  rw [lg_entry_eq]
  generalize (lg_sl [rv E (some o), .int a_1] ++ List.replicate (2 - (lg_sl [rv E (some o), .int a_1]).length) Slot.unset).toArray = ls at hl ⊢
  replace hl : lv_has ls 2 [(0, rv E (some o)), (1, .int a_1)] := by simpa only [lv_args, cat_q, cat_i, cat_j, reduceIte, Nat.reduceEqDiff, Nat.reduceAdd, Nat.zero_add] using hl
  generalize s.heap = H at hH ⊢
  unfold f_X12_load at hf
  refine hl_aload_n hx hb dX12_load_0 rfl (lv_at hl 0 rfl) ?_
  refine lv_iconst (v := 1) hx hb dX12_load_1 (by decide) ?_
  refine lv_iload_n hx hb dX12_load_2 rfl (lv_at hl 1 rfl) ?_
  obtain ⟨q1, hq1, hf⟩ := bnd hf
  refine hxV_v hx hb hml hown hts hKs hT hb0 hH (As := [.int 1, .int a_1]) (rest := []) (k_X12_requireExisting l hls E K H.size o 1 a_1 w ho hq1) (gV m5_90 m5_92 ms_36 m1_1 m5_93) hd_X12_requireExisting ⟨Nat.le_of_ble_eq_true rfl, Nat.le_of_ble_eq_true rfl, rfl, rfl⟩ rfl ho rfl rfl rfl hl.1 rfl rc0 rfl dX12_load_3 ⟨Nat.le_of_ble_eq_true rfl, Nat.le_of_ble_eq_true rfl⟩ ⟨Nat.le_of_ble_eq_true rfl, Nat.le_of_ble_eq_true rfl⟩ hout hlocks (fun x hx9 => (fun h9 => ⟨(congrArg Prod.fst h9).symm, (congrArg Prod.snd h9).symm⟩) (Option.some.inj ((xk_inr hx9).symm.trans hf))) (fun v2 hv2 H locs hH => ?_)
  replace hf := (xk_inl hv2).symm.trans hf
  refine hl_aload_n hx hb dX12_load_6 rfl (lv_at hl 0 rfl) ?_
  refine g12_5 hx hb hts hown hKs hH rfl ho m2_224 dX12_load_7 ?_
  refine lv_iload_n hx hb dX12_load_10 rfl (lv_at hl 1 rfl) ?_
  obtain ⟨a3, ha3, hf⟩ := bnd hf
  replace ha3 := chk_some ha3
  obtain ⟨q4, hq4, hf⟩ := bnd hf
  refine hcV_i hx hb hml hown hts hKs hT hb0 hH (As := [.int a_1]) (rest := []) (k_X10_loadOf l E K H.size a3 a_1 q1.2 ha3.2 hq4) (gV m5_137 m4_125 m4_126 m1_12 m4_127) hd_X10_loadOf ⟨Nat.le_of_ble_eq_true rfl, Nat.le_of_ble_eq_true rfl, rfl, rfl⟩ ha3.1 ha3.2 rfl rfl rfl hl.1 rfl rc0 rfl dX12_load_11 ⟨Nat.le_of_ble_eq_true rfl, Nat.le_of_ble_eq_true rfl⟩ (fun H locs hH => ?_)
  exact hx_iret hx hb (Nat.le_of_ble_eq_true rfl) (Nat.le_of_ble_eq_true rfl) hret hf hH hlocks dX12_load_14

theorem dX12_matter_0 : decode cX12_matter 0 = .ok (.aload_n 0, 1) := by decide +kernel
theorem dX12_matter_1 : decode cX12_matter 1 = .ok (.iconst 3, 1) := by decide +kernel
theorem dX12_matter_2 : decode cX12_matter 2 = .ok (.iload_n 1, 1) := by decide +kernel
theorem dX12_matter_3 : decode cX12_matter 3 = .ok (.invokevirtual 175, 3) := by decide +kernel
theorem dX12_matter_6 : decode cX12_matter 6 = .ok (.aload_n 0, 1) := by decide +kernel
theorem dX12_matter_7 : decode cX12_matter 7 = .ok (.getfield 35, 3) := by decide +kernel
theorem dX12_matter_10 : decode cX12_matter 10 = .ok (.getfield 87, 3) := by decide +kernel
theorem dX12_matter_13 : decode cX12_matter 13 = .ok (.getfield 209, 3) := by decide +kernel
theorem dX12_matter_16 : decode cX12_matter 16 = .ok (.iload_n 1, 1) := by decide +kernel
theorem dX12_matter_17 : decode cX12_matter 17 = .ok (.aaload, 1) := by decide +kernel
theorem dX12_matter_18 : decode cX12_matter 18 = .ok (.astore_n 3, 1) := by decide +kernel
theorem dX12_matter_19 : decode cX12_matter 19 = .ok (.aload_n 0, 1) := by decide +kernel
theorem dX12_matter_20 : decode cX12_matter 20 = .ok (.getfield 35, 3) := by decide +kernel
theorem dX12_matter_23 : decode cX12_matter 23 = .ok (.getfield 213, 3) := by decide +kernel
theorem dX12_matter_26 : decode cX12_matter 26 = .ok (.iload_n 1, 1) := by decide +kernel
theorem dX12_matter_27 : decode cX12_matter 27 = .ok (.aaload, 1) := by decide +kernel
theorem dX12_matter_28 : decode cX12_matter 28 = .ok (.astore 4, 2) := by decide +kernel
theorem dX12_matter_30 : decode cX12_matter 30 = .ok (.iload_n 2, 1) := by decide +kernel
theorem dX12_matter_31 : decode cX12_matter 31 = .ok (.tableswitch 124 0 9 #[53, 58, 63, 68, 74, 83, 89, 102, 108, 116], 53) := by decide +kernel
theorem dX12_matter_84 : decode cX12_matter 84 = .ok (.aload_n 3, 1) := by decide +kernel
theorem dX12_matter_85 : decode cX12_matter 85 = .ok (.getfield 217, 3) := by decide +kernel
theorem dX12_matter_88 : decode cX12_matter 88 = .ok (.ireturn, 1) := by decide +kernel
theorem dX12_matter_89 : decode cX12_matter 89 = .ok (.aload_n 3, 1) := by decide +kernel
theorem dX12_matter_90 : decode cX12_matter 90 = .ok (.getfield 222, 3) := by decide +kernel
theorem dX12_matter_93 : decode cX12_matter 93 = .ok (.ireturn, 1) := by decide +kernel
theorem dX12_matter_94 : decode cX12_matter 94 = .ok (.aload_n 3, 1) := by decide +kernel
theorem dX12_matter_95 : decode cX12_matter 95 = .ok (.getfield 225, 3) := by decide +kernel
theorem dX12_matter_98 : decode cX12_matter 98 = .ok (.ireturn, 1) := by decide +kernel
theorem dX12_matter_99 : decode cX12_matter 99 = .ok (.aload 4, 2) := by decide +kernel
theorem dX12_matter_101 : decode cX12_matter 101 = .ok (.getfield 228, 3) := by decide +kernel
theorem dX12_matter_104 : decode cX12_matter 104 = .ok (.ireturn, 1) := by decide +kernel
theorem dX12_matter_105 : decode cX12_matter 105 = .ok (.aload_n 0, 1) := by decide +kernel
theorem dX12_matter_106 : decode cX12_matter 106 = .ok (.getfield 35, 3) := by decide +kernel
theorem dX12_matter_109 : decode cX12_matter 109 = .ok (.iload_n 1, 1) := by decide +kernel
theorem dX12_matter_110 : decode cX12_matter 110 = .ok (.invokevirtual 233, 3) := by decide +kernel
theorem dX12_matter_113 : decode cX12_matter 113 = .ok (.ireturn, 1) := by decide +kernel
theorem dX12_matter_114 : decode cX12_matter 114 = .ok (.aload 4, 2) := by decide +kernel
theorem dX12_matter_116 : decode cX12_matter 116 = .ok (.getfield 236, 3) := by decide +kernel
theorem dX12_matter_119 : decode cX12_matter 119 = .ok (.ireturn, 1) := by decide +kernel
theorem dX12_matter_120 : decode cX12_matter 120 = .ok (.aload_n 3, 1) := by decide +kernel
theorem dX12_matter_121 : decode cX12_matter 121 = .ok (.getfield 239, 3) := by decide +kernel
theorem dX12_matter_124 : decode cX12_matter 124 = .ok (.ifCond .eq 7, 3) := by decide +kernel
theorem dX12_matter_127 : decode cX12_matter 127 = .ok (.iconst 1, 1) := by decide +kernel
theorem dX12_matter_128 : decode cX12_matter 128 = .ok (.goto 4, 3) := by decide +kernel
theorem dX12_matter_131 : decode cX12_matter 131 = .ok (.iconst 0, 1) := by decide +kernel
theorem dX12_matter_132 : decode cX12_matter 132 = .ok (.ireturn, 1) := by decide +kernel
theorem dX12_matter_133 : decode cX12_matter 133 = .ok (.aload 4, 2) := by decide +kernel
theorem dX12_matter_135 : decode cX12_matter 135 = .ok (.getfield 242, 3) := by decide +kernel
theorem dX12_matter_138 : decode cX12_matter 138 = .ok (.ireturn, 1) := by decide +kernel
theorem dX12_matter_139 : decode cX12_matter 139 = .ok (.aload_n 3, 1) := by decide +kernel
theorem dX12_matter_140 : decode cX12_matter 140 = .ok (.getfield 245, 3) := by decide +kernel
theorem dX12_matter_143 : decode cX12_matter 143 = .ok (.invokestatic 248, 3) := by decide +kernel
theorem dX12_matter_146 : decode cX12_matter 146 = .ok (.ireturn, 1) := by decide +kernel
theorem dX12_matter_147 : decode cX12_matter 147 = .ok (.aload_n 3, 1) := by decide +kernel
theorem dX12_matter_148 : decode cX12_matter 148 = .ok (.getfield 253, 3) := by decide +kernel
theorem dX12_matter_151 : decode cX12_matter 151 = .ok (.invokestatic 248, 3) := by decide +kernel
theorem dX12_matter_154 : decode cX12_matter 154 = .ok (.ireturn, 1) := by decide +kernel
theorem dX12_matter_155 : decode cX12_matter 155 = .ok (.new 193, 3) := by decide +kernel
theorem dX12_matter_158 : decode cX12_matter 158 = .ok (.dup, 1) := by decide +kernel
theorem dX12_matter_159 : decode cX12_matter 159 = .ok (.invokespecial 195, 3) := by decide +kernel
theorem dX12_matter_162 : decode cX12_matter 162 = .ok (.athrow, 1) := by decide +kernel
theorem hd_X12_matter : yX12_matter.cls = RX12 ∧ yX12_matter.cls ≠ "java/lang/invoke/MethodHandle" ∧ yX12_matter.cls ≠ "java/lang/invoke/VarHandle" ∧ (parseMethodDescriptor yX12_matter.desc).map (fun d => d.parameters.length) = some 2 := by decide +kernel
theorem hs_X12_matter : yX12_matter.cls ≠ "java/lang/invoke/MethodHandle" ∧ yX12_matter.cls ≠ "java/lang/invoke/VarHandle" ∧ (parseMethodDescriptor yX12_matter.desc).map (fun d => d.parameters.length) = some 2 := by decide +kernel
set_option maxHeartbeats 4000000 in
set_option maxRecDepth 100000 in
theorem k_X12_matter (l : Launch) (hls : l.stackTraces = false) (E : Ev) (K : Kd) (z : Nat) (o : Nat) (a_1 : Int32) (a_2 : Int32) (w : Wd) (ho : K o = some (10, 0)) {r : Int32 ⊕ Nat} {w' : Wd} (hf : f_X12_matter K o a_1 a_2 w = some (r, w')) : vx_Met l yX12_matter (Cond.code yX12_matter cX12_matter 5 (Option.some Jvm.ClassFile.FieldType.int) :: bt) ({ frames := 7, cells := 2, slots := 12, locals := 112 } : Room) (va_Pc [rv E (some o), .int a_1, .int a_2] (HB E K w z)) (XI E K z w' r) (XX E K w' r) 2 12 (hA E) := by
  refine vx_ofW (cc := cX12_matter) (maxL := 5) (ret := (Option.some Jvm.ClassFile.FieldType.int)) (by decide) rfl ?_
  intro p e s m args below meth c s₁ B hml hout hv
  obtain ⟨rfl, hz, hP, hKs, hT, hb0⟩ := hv
  have C : CX p l e s m _ meth c cX12_matter 5 RX12 (Option.some Jvm.ClassFile.FieldType.int) E := ⟨B.exec, B.bytes, hml, findClass_of_methodNamed B.named, fun w h => atoms_spec (ws := Cond.code yX12_matter cX12_matter 5 (Option.some Jvm.ClassFile.FieldType.int) :: bt) B.pre w (List.mem_cons_of_mem _ h), hKs, hT, by rw [hz]; exact hb0, B.notSynchronized, B.returns⟩
  have hH : HQ E K z w s s.heap [] := ⟨hP, va_S.rf, hz⟩
  obtain ⟨hx, hb, hml, hown, hts, hKs, hT, hb0, hlocks, hret⟩ := id C
  have hl := lv_entry [rv E (some o), .int a_1, .int a_2] (n := 5) (by simp [lg_len_nil, lg_len_i, lg_len_j, lg_len_q, lg_len_f, lg_len_d, lg_len_r])
  rw [lg_entry_eq]
  generalize (lg_sl [rv E (some o), .int a_1, .int a_2] ++ List.replicate (5 - (lg_sl [rv E (some o), .int a_1, .int a_2]).length) Slot.unset).toArray = ls at hl ⊢
  replace hl : lv_has ls 5 [(0, rv E (some o)), (1, .int a_1), (2, .int a_2)] := by simpa only [lv_args, cat_q, cat_i, cat_j, reduceIte, Nat.reduceEqDiff, Nat.reduceAdd, Nat.zero_add] using hl
  generalize s.heap = H at hH ⊢
  unfold f_X12_matter at hf
  refine hl_aload_n hx hb dX12_matter_0 rfl (lv_at hl 0 rfl) ?_
  refine lv_iconst (v := 3) hx hb dX12_matter_1 (by decide) ?_
  refine lv_iload_n hx hb dX12_matter_2 rfl (lv_at hl 1 rfl) ?_
  obtain ⟨q1, hq1, hf⟩ := bnd hf
  refine hxV_v hx hb hml hown hts hKs hT hb0 hH (As := [.int 3, .int a_1]) (rest := []) (k_X12_requireExisting l hls E K H.size o 3 a_1 w ho hq1) (gV m5_90 m5_92 ms_36 m1_1 m5_93) hd_X12_requireExisting ⟨Nat.le_of_ble_eq_true rfl, Nat.le_of_ble_eq_true rfl, rfl, rfl⟩ rfl ho rfl rfl rfl hl.1 rfl rc0 rfl dX12_matter_3 ⟨Nat.le_of_ble_eq_true rfl, Nat.le_of_ble_eq_true rfl⟩ ⟨Nat.le_of_ble_eq_true rfl, Nat.le_of_ble_eq_true rfl⟩ hout hlocks (fun x hx9 => (fun h9 => ⟨(congrArg Prod.fst h9).symm, (congrArg Prod.snd h9).symm⟩) (Option.some.inj ((xk_inr hx9).symm.trans hf))) (fun v2 hv2 H locs hH => ?_)
  replace hf := (xk_inl hv2).symm.trans hf
  refine hl_aload_n hx hb dX12_matter_6 rfl (lv_at hl 0 rfl) ?_
  refine g12_5 hx hb hts hown hKs hH rfl ho m2_224 dX12_matter_7 ?_
  obtain ⟨a3, ha3, hf⟩ := bnd hf
  replace ha3 := chk_some ha3
  refine gn10_0 hx hb hts hown hKs hH ha3.1 ha3.2 m2_122 dX12_matter_10 ?_
  obtain ⟨a4, ha4, hf⟩ := bnd hf
  replace ha4 := chk_some ha4
  refine gn9_9 hx hb hts hown hKs hH ha4.1 ha4.2 m1_180 dX12_matter_13 ?_
  refine lv_iload_n hx hb dX12_matter_16 rfl (lv_at hl 1 rfl) ?_
  obtain ⟨a5, ha5, hf⟩ := bnd hf
  replace ha5 := cha_some ha5
  obtain ⟨j6, hj6, hf⟩ := bnd hf
  refine hw_aald25 hx hb hKs hH ha5.1 ha5.2 hj6 dX12_matter_17 ?_
  refine hl_astore_n (i := 3) (lv' := [(3, rv E (aR q1.2 a5.1 j6)), (0, rv E (some o)), (1, .int a_1), (2, .int a_2)]) hx hb dX12_matter_18 rfl hl (by decide) rfl (fun ls hl => ?_)
  refine hl_aload_n hx hb dX12_matter_19 rfl (lv_at hl 1 rfl) ?_
  refine g12_5 hx hb hts hown hKs hH rfl ho m2_224 dX12_matter_20 ?_
  refine gn10_5 hx hb hts hown hKs hH ha3.1 ha3.2 m2_135 dX12_matter_23 ?_
  refine lv_iload_n hx hb dX12_matter_26 rfl (lv_at hl 2 rfl) ?_
  obtain ⟨a7, ha7, hf⟩ := bnd hf
  replace ha7 := cha_some ha7
  obtain ⟨j8, hj8, hf⟩ := bnd hf
  refine hw_aald27 hx hb hKs hH ha7.1 ha7.2 hj8 dX12_matter_27 ?_
  refine hl_astore (i := 4) (lv' := [(4, rv E (aR q1.2 a7.1 j8)), (3, rv E (aR q1.2 a5.1 j6)), (0, rv E (some o)), (1, .int a_1), (2, .int a_2)]) hx hb dX12_matter_28 hl (by decide) (by simp [List.filter_cons, cat_q, cat_i, cat_j, imax, imin]) (fun ls hl => ?_)
  refine lv_iload_n hx hb dX12_matter_30 rfl (lv_at hl 4 rfl) ?_
  by_cases c9 : (a_2 < 0 ∨ 9 < a_2)
  · replace hf := (if_pos c9).symm.trans hf
    refine hl_tabOut (tgt := 155) hx hb dX12_matter_31 c9 (by decide) (by decide) (by decide) ?_
    exact hx_throw hx hb hls (code := 1) hml hl.1 hown hts hKs hT hb0 hH (by decide) rfl m5_94 m1_28 hat_RX12_195 dX12_matter_155 dX12_matter_158 dX12_matter_159 dX12_matter_162 hout (Nat.le_of_ble_eq_true rfl) rc0 (Nat.le_of_ble_eq_true rfl) (Nat.le_of_ble_eq_true rfl) (Nat.le_of_ble_eq_true rfl) hlocks hf (Nat.le_of_ble_eq_true rfl) (Nat.le_of_ble_eq_true rfl)
  replace hf := (if_neg c9).symm.trans hf
  by_cases c10 : a_2 = 0
  · replace hf := (if_pos c10).symm.trans hf
    refine hl_tabIn (tgt := 84) hx hb dX12_matter_31 c10 (by decide) (by decide) rfl (by decide) ?_
    refine hl_aload_n hx hb dX12_matter_84 rfl (lv_at hl 1 rfl) ?_
    obtain ⟨a11, ha11, hf⟩ := bnd hf
    replace ha11 := chk_some ha11
    refine gn3_0 hx hb hts hown hKs hH ha11.1 ha11.2 m1_91 dX12_matter_85 ?_
    exact hx_iret hx hb (Nat.le_of_ble_eq_true rfl) (Nat.le_of_ble_eq_true rfl) hret hf hH hlocks dX12_matter_88
  replace hf := (if_neg c10).symm.trans hf
  by_cases c12 : a_2 = 1
  · replace hf := (if_pos c12).symm.trans hf
    refine hl_tabIn (tgt := 89) hx hb dX12_matter_31 c12 (by decide) (by decide) rfl (by decide) ?_
    refine hl_aload_n hx hb dX12_matter_89 rfl (lv_at hl 1 rfl) ?_
    obtain ⟨a13, ha13, hf⟩ := bnd hf
    replace ha13 := chk_some ha13
    refine gn3_1 hx hb hts hown hKs hH ha13.1 ha13.2 m1_96 dX12_matter_90 ?_
    exact hx_iret hx hb (Nat.le_of_ble_eq_true rfl) (Nat.le_of_ble_eq_true rfl) hret hf hH hlocks dX12_matter_93
  replace hf := (if_neg c12).symm.trans hf
  by_cases c14 : a_2 = 2
  · replace hf := (if_pos c14).symm.trans hf
    refine hl_tabIn (tgt := 94) hx hb dX12_matter_31 c14 (by decide) (by decide) rfl (by decide) ?_
    refine hl_aload_n hx hb dX12_matter_94 rfl (lv_at hl 1 rfl) ?_
    obtain ⟨a15, ha15, hf⟩ := bnd hf
    replace ha15 := chk_some ha15
    refine gn3_2 hx hb hts hown hKs hH ha15.1 ha15.2 m1_100 dX12_matter_95 ?_
    exact hx_iret hx hb (Nat.le_of_ble_eq_true rfl) (Nat.le_of_ble_eq_true rfl) hret hf hH hlocks dX12_matter_98
  replace hf := (if_neg c14).symm.trans hf
  by_cases c16 : a_2 = 3
  · replace hf := (if_pos c16).symm.trans hf
    refine hl_tabIn (tgt := 99) hx hb dX12_matter_31 c16 (by decide) (by decide) rfl (by decide) ?_
    refine hl_aload hx hb dX12_matter_99 (lv_at hl 0 rfl) ?_
    obtain ⟨a17, ha17, hf⟩ := bnd hf
    replace ha17 := chk_some ha17
    refine gn7_1 hx hb hts hown hKs hH ha17.1 ha17.2 m2_74 dX12_matter_101 ?_
    exact hx_iret hx hb (Nat.le_of_ble_eq_true rfl) (Nat.le_of_ble_eq_true rfl) hret hf hH hlocks dX12_matter_104
  replace hf := (if_neg c16).symm.trans hf
  by_cases c18 : a_2 = 4
  · replace hf := (if_pos c18).symm.trans hf
    refine hl_tabIn (tgt := 105) hx hb dX12_matter_31 c18 (by decide) (by decide) rfl (by decide) ?_
    refine hl_aload_n hx hb dX12_matter_105 rfl (lv_at hl 2 rfl) ?_
    refine g12_5 hx hb hts hown hKs hH rfl ho m2_224 dX12_matter_106 ?_
    refine lv_iload_n hx hb dX12_matter_109 rfl (lv_at hl 3 rfl) ?_
    obtain ⟨q19, hq19, hf⟩ := bnd hf
    refine hcV_i hx hb hml hown hts hKs hT hb0 hH (As := [.int a_1]) (rest := []) (k_X10_limitDay l E K H.size a3 a_1 q1.2 ha3.2 hq19) (gV m5_145 m4_66 m4_67 m1_12 m4_68) hd_X10_limitDay ⟨Nat.le_of_ble_eq_true rfl, Nat.le_of_ble_eq_true rfl, rfl, rfl⟩ ha3.1 ha3.2 rfl rfl rfl hl.1 rfl rc0 rfl dX12_matter_110 ⟨Nat.le_of_ble_eq_true rfl, Nat.le_of_ble_eq_true rfl⟩ (fun H locs hH => ?_)
    exact hx_iret hx hb (Nat.le_of_ble_eq_true rfl) (Nat.le_of_ble_eq_true rfl) hret hf hH hlocks dX12_matter_113
  replace hf := (if_neg c18).symm.trans hf
  by_cases c20 : a_2 = 5
  · replace hf := (if_pos c20).symm.trans hf
    refine hl_tabIn (tgt := 114) hx hb dX12_matter_31 c20 (by decide) (by decide) rfl (by decide) ?_
    refine hl_aload hx hb dX12_matter_114 (lv_at hl 0 rfl) ?_
    obtain ⟨a21, ha21, hf⟩ := bnd hf
    replace ha21 := chk_some ha21
    refine gn7_0 hx hb hts hown hKs hH ha21.1 ha21.2 m2_71 dX12_matter_116 ?_
    exact hx_iret hx hb (Nat.le_of_ble_eq_true rfl) (Nat.le_of_ble_eq_true rfl) hret hf hH hlocks dX12_matter_119
  replace hf := (if_neg c20).symm.trans hf
  by_cases c22 : a_2 = 6
  · replace hf := (if_pos c22).symm.trans hf
    refine hl_tabIn (tgt := 120) hx hb dX12_matter_31 c22 (by decide) (by decide) rfl (by decide) ?_
    refine hl_aload_n hx hb dX12_matter_120 rfl (lv_at hl 1 rfl) ?_
    obtain ⟨a23, ha23, hf⟩ := bnd hf
    replace ha23 := chk_some ha23
    refine gn3_3 hx hb hts hown hKs hH ha23.1 ha23.2 m1_104 dX12_matter_121 ?_
    refine lv_if_eq (tgt := 131) hx hb dX12_matter_124 (by decide) (fun c24 => ?_) (fun c24 => ?_)
    · replace hf := (if_pos c24).symm.trans hf
      refine lv_iconst (v := 0) hx hb dX12_matter_131 (by decide) ?_
      exact hx_iret hx hb (Nat.le_of_ble_eq_true rfl) (Nat.le_of_ble_eq_true rfl) hret hf hH hlocks dX12_matter_132
    · replace hf := (if_neg c24).symm.trans hf
      refine lv_iconst (v := 1) hx hb dX12_matter_127 (by decide) ?_
      refine lv_goto (tgt := 132) hx hb dX12_matter_128 (by decide) ?_
      exact hx_iret hx hb (Nat.le_of_ble_eq_true rfl) (Nat.le_of_ble_eq_true rfl) hret hf hH hlocks dX12_matter_132
  replace hf := (if_neg c22).symm.trans hf
  by_cases c25 : a_2 = 7
  · replace hf := (if_pos c25).symm.trans hf
    refine hl_tabIn (tgt := 133) hx hb dX12_matter_31 c25 (by decide) (by decide) rfl (by decide) ?_
    refine hl_aload hx hb dX12_matter_133 (lv_at hl 0 rfl) ?_
    obtain ⟨a26, ha26, hf⟩ := bnd hf
    replace ha26 := chk_some ha26
    refine gn7_6 hx hb hts hown hKs hH ha26.1 ha26.2 m2_90 dX12_matter_135 ?_
    exact hx_iret hx hb (Nat.le_of_ble_eq_true rfl) (Nat.le_of_ble_eq_true rfl) hret hf hH hlocks dX12_matter_138
  replace hf := (if_neg c25).symm.trans hf
  by_cases c27 : a_2 = 8
  · replace hf := (if_pos c27).symm.trans hf
    refine hl_tabIn (tgt := 139) hx hb dX12_matter_31 c27 (by decide) (by decide) rfl (by decide) ?_
    refine hl_aload_n hx hb dX12_matter_139 rfl (lv_at hl 1 rfl) ?_
    obtain ⟨a28, ha28, hf⟩ := bnd hf
    replace ha28 := chk_some ha28
    refine gn3_4 hx hb hts hown hKs hH ha28.1 ha28.2 m1_109 dX12_matter_140 ?_
    obtain ⟨q29, hq29, hf⟩ := bnd hf
    refine hcS_i hx hb hml hown hts hKs hT hb0 hH (As := [.int ((wI q1.2 304 a28))]) (rest := []) (k_J6_bitCount_0f7a4 l E K H.size (wI q1.2 304 a28) q1.2 hq29) (gS m5_146 m4_8 m1_23 m4_9) hs_J6_bitCount_0f7a4 ⟨Nat.le_of_ble_eq_true rfl, Nat.le_of_ble_eq_true rfl, rfl, rfl⟩ hl.1 rfl rc0 rfl dX12_matter_143 ⟨Nat.le_of_ble_eq_true rfl, Nat.le_of_ble_eq_true rfl⟩ (fun H locs hH => ?_)
    exact hx_iret hx hb (Nat.le_of_ble_eq_true rfl) (Nat.le_of_ble_eq_true rfl) hret hf hH hlocks dX12_matter_146
  replace hf := (if_neg c27).symm.trans hf
  by_cases c30 : a_2 = 9
  · replace hf := (if_pos c30).symm.trans hf
    refine hl_tabIn (tgt := 147) hx hb dX12_matter_31 c30 (by decide) (by decide) rfl (by decide) ?_
    refine hl_aload_n hx hb dX12_matter_147 rfl (lv_at hl 1 rfl) ?_
    obtain ⟨a31, ha31, hf⟩ := bnd hf
    replace ha31 := chk_some ha31
    refine gn3_5 hx hb hts hown hKs hH ha31.1 ha31.2 m1_115 dX12_matter_148 ?_
    obtain ⟨q32, hq32, hf⟩ := bnd hf
    refine hcS_i hx hb hml hown hts hKs hT hb0 hH (As := [.int ((wI q1.2 305 a31))]) (rest := []) (k_J6_bitCount_0f7a4 l E K H.size (wI q1.2 305 a31) q1.2 hq32) (gS m5_146 m4_8 m1_23 m4_9) hs_J6_bitCount_0f7a4 ⟨Nat.le_of_ble_eq_true rfl, Nat.le_of_ble_eq_true rfl, rfl, rfl⟩ hl.1 rfl rc0 rfl dX12_matter_151 ⟨Nat.le_of_ble_eq_true rfl, Nat.le_of_ble_eq_true rfl⟩ (fun H locs hH => ?_)
    exact hx_iret hx hb (Nat.le_of_ble_eq_true rfl) (Nat.le_of_ble_eq_true rfl) hret hf hH hlocks dX12_matter_154
  replace hf := (if_neg c30).symm.trans hf
  cases hf

theorem dX12_hearing_0 : decode cX12_hearing 0 = .ok (.aload_n 0, 1) := by decide +kernel
theorem dX12_hearing_1 : decode cX12_hearing 1 = .ok (.iconst 3, 1) := by decide +kernel
theorem dX12_hearing_2 : decode cX12_hearing 2 = .ok (.iload_n 1, 1) := by decide +kernel
theorem dX12_hearing_3 : decode cX12_hearing 3 = .ok (.invokevirtual 175, 3) := by decide +kernel
theorem dX12_hearing_6 : decode cX12_hearing 6 = .ok (.aload_n 0, 1) := by decide +kernel
theorem dX12_hearing_7 : decode cX12_hearing 7 = .ok (.getfield 35, 3) := by decide +kernel
theorem dX12_hearing_10 : decode cX12_hearing 10 = .ok (.getfield 213, 3) := by decide +kernel
theorem dX12_hearing_13 : decode cX12_hearing 13 = .ok (.iload_n 1, 1) := by decide +kernel
theorem dX12_hearing_14 : decode cX12_hearing 14 = .ok (.aaload, 1) := by decide +kernel
theorem dX12_hearing_15 : decode cX12_hearing 15 = .ok (.astore_n 3, 1) := by decide +kernel
theorem dX12_hearing_16 : decode cX12_hearing 16 = .ok (.iload_n 2, 1) := by decide +kernel
theorem dX12_hearing_17 : decode cX12_hearing 17 = .ok (.tableswitch 51 0 3 #[31, 36, 41, 46], 31) := by decide +kernel
theorem dX12_hearing_48 : decode cX12_hearing 48 = .ok (.aload_n 3, 1) := by decide +kernel
theorem dX12_hearing_49 : decode cX12_hearing 49 = .ok (.getfield 256, 3) := by decide +kernel
theorem dX12_hearing_52 : decode cX12_hearing 52 = .ok (.ireturn, 1) := by decide +kernel
theorem dX12_hearing_53 : decode cX12_hearing 53 = .ok (.aload_n 3, 1) := by decide +kernel
theorem dX12_hearing_54 : decode cX12_hearing 54 = .ok (.getfield 257, 3) := by decide +kernel
theorem dX12_hearing_57 : decode cX12_hearing 57 = .ok (.ireturn, 1) := by decide +kernel
theorem dX12_hearing_58 : decode cX12_hearing 58 = .ok (.aload_n 3, 1) := by decide +kernel
theorem dX12_hearing_59 : decode cX12_hearing 59 = .ok (.getfield 260, 3) := by decide +kernel
theorem dX12_hearing_62 : decode cX12_hearing 62 = .ok (.ireturn, 1) := by decide +kernel
theorem dX12_hearing_63 : decode cX12_hearing 63 = .ok (.aload_n 3, 1) := by decide +kernel
theorem dX12_hearing_64 : decode cX12_hearing 64 = .ok (.getfield 263, 3) := by decide +kernel
theorem dX12_hearing_67 : decode cX12_hearing 67 = .ok (.ireturn, 1) := by decide +kernel
theorem dX12_hearing_68 : decode cX12_hearing 68 = .ok (.new 193, 3) := by decide +kernel
theorem dX12_hearing_71 : decode cX12_hearing 71 = .ok (.dup, 1) := by decide +kernel
theorem dX12_hearing_72 : decode cX12_hearing 72 = .ok (.invokespecial 195, 3) := by decide +kernel
theorem dX12_hearing_75 : decode cX12_hearing 75 = .ok (.athrow, 1) := by decide +kernel
theorem hd_X12_hearing : yX12_hearing.cls = RX12 ∧ yX12_hearing.cls ≠ "java/lang/invoke/MethodHandle" ∧ yX12_hearing.cls ≠ "java/lang/invoke/VarHandle" ∧ (parseMethodDescriptor yX12_hearing.desc).map (fun d => d.parameters.length) = some 2 := by decide +kernel
theorem hs_X12_hearing : yX12_hearing.cls ≠ "java/lang/invoke/MethodHandle" ∧ yX12_hearing.cls ≠ "java/lang/invoke/VarHandle" ∧ (parseMethodDescriptor yX12_hearing.desc).map (fun d => d.parameters.length) = some 2 := by decide +kernel
set_option maxHeartbeats 4000000 in
set_option maxRecDepth 100000 in
theorem k_X12_hearing (l : Launch) (hls : l.stackTraces = false) (E : Ev) (K : Kd) (z : Nat) (o : Nat) (a_1 : Int32) (a_2 : Int32) (w : Wd) (ho : K o = some (10, 0)) {r : Int32 ⊕ Nat} {w' : Wd} (hf : f_X12_hearing K o a_1 a_2 w = some (r, w')) : vx_Met l yX12_hearing (Cond.code yX12_hearing cX12_hearing 4 (Option.some Jvm.ClassFile.FieldType.int) :: bt) ({ frames := 7, cells := 2, slots := 12, locals := 112 } : Room) (va_Pc [rv E (some o), .int a_1, .int a_2] (HB E K w z)) (XI E K z w' r) (XX E K w' r) 2 12 (hA E) := by
  refine vx_ofW (cc := cX12_hearing) (maxL := 4) (ret := (Option.some Jvm.ClassFile.FieldType.int)) (by decide) rfl ?_
  intro p e s m args below meth c s₁ B hml hout hv
  obtain ⟨rfl, hz, hP, hKs, hT, hb0⟩ := hv
  have C : CX p l e s m _ meth c cX12_hearing 4 RX12 (Option.some Jvm.ClassFile.FieldType.int) E := ⟨B.exec, B.bytes, hml, findClass_of_methodNamed B.named, fun w h => atoms_spec (ws := Cond.code yX12_hearing cX12_hearing 4 (Option.some Jvm.ClassFile.FieldType.int) :: bt) B.pre w (List.mem_cons_of_mem _ h), hKs, hT, by rw [hz]; exact hb0, B.notSynchronized, B.returns⟩
  have hH : HQ E K z w s s.heap [] := ⟨hP, va_S.rf, hz⟩
  obtain ⟨hx, hb, hml, hown, hts, hKs, hT, hb0, hlocks, hret⟩ := id C
  have hl := lv_entry [rv E (some o), .int a_1, .int a_2] (n := 4) (by simp [lg_len_nil, lg_len_i, lg_len_j, lg_len_q, lg_len_f, lg_len_d, lg_len_r])
  rw [lg_entry_eq]
  generalize (lg_sl [rv E (some o), .int a_1, .int a_2] ++ List.replicate (4 - (lg_sl [rv E (some o), .int a_1, .int a_2]).length) Slot.unset).toArray = ls at hl ⊢
  replace hl : lv_has ls 4 [(0, rv E (some o)), (1, .int a_1), (2, .int a_2)] := by simpa only [lv_args, cat_q, cat_i, cat_j, reduceIte, Nat.reduceEqDiff, Nat.reduceAdd, Nat.zero_add] using hl
  generalize s.heap = H at hH ⊢
  unfold f_X12_hearing at hf
  refine hl_aload_n hx hb dX12_hearing_0 rfl (lv_at hl 0 rfl) ?_
  refine lv_iconst (v := 3) hx hb dX12_hearing_1 (by decide) ?_
  refine lv_iload_n hx hb dX12_hearing_2 rfl (lv_at hl 1 rfl) ?_
  obtain ⟨q1, hq1, hf⟩ := bnd hf
  refine hxV_v hx hb hml hown hts hKs hT hb0 hH (As := [.int 3, .int a_1]) (rest := []) (k_X12_requireExisting l hls E K H.size o 3 a_1 w ho hq1) (gV m5_90 m5_92 ms_36 m1_1 m5_93) hd_X12_requireExisting ⟨Nat.le_of_ble_eq_true rfl, Nat.le_of_ble_eq_true rfl, rfl, rfl⟩ rfl ho rfl rfl rfl hl.1 rfl rc0 rfl dX12_hearing_3 ⟨Nat.le_of_ble_eq_true rfl, Nat.le_of_ble_eq_true rfl⟩ ⟨Nat.le_of_ble_eq_true rfl, Nat.le_of_ble_eq_true rfl⟩ hout hlocks (fun x hx9 => (fun h9 => ⟨(congrArg Prod.fst h9).symm, (congrArg Prod.snd h9).symm⟩) (Option.some.inj ((xk_inr hx9).symm.trans hf))) (fun v2 hv2 H locs hH => ?_)
  replace hf := (xk_inl hv2).symm.trans hf
  refine hl_aload_n hx hb dX12_hearing_6 rfl (lv_at hl 0 rfl) ?_
  refine g12_5 hx hb hts hown hKs hH rfl ho m2_224 dX12_hearing_7 ?_
  obtain ⟨a3, ha3, hf⟩ := bnd hf
  replace ha3 := chk_some ha3
  refine gn10_5 hx hb hts hown hKs hH ha3.1 ha3.2 m2_135 dX12_hearing_10 ?_
  refine lv_iload_n hx hb dX12_hearing_13 rfl (lv_at hl 1 rfl) ?_
  obtain ⟨a4, ha4, hf⟩ := bnd hf
  replace ha4 := cha_some ha4
  obtain ⟨j5, hj5, hf⟩ := bnd hf
  refine hw_aald27 hx hb hKs hH ha4.1 ha4.2 hj5 dX12_hearing_14 ?_
  refine hl_astore_n (i := 3) (lv' := [(3, rv E (aR q1.2 a4.1 j5)), (0, rv E (some o)), (1, .int a_1), (2, .int a_2)]) hx hb dX12_hearing_15 rfl hl (by decide) rfl (fun ls hl => ?_)
  refine lv_iload_n hx hb dX12_hearing_16 rfl (lv_at hl 3 rfl) ?_
  by_cases c6 : (a_2 < 0 ∨ 3 < a_2)
  · replace hf := (if_pos c6).symm.trans hf
    refine hl_tabOut (tgt := 68) hx hb dX12_hearing_17 c6 (by decide) (by decide) (by decide) ?_
    exact hx_throw hx hb hls (code := 1) hml hl.1 hown hts hKs hT hb0 hH (by decide) rfl m5_94 m1_28 hat_RX12_195 dX12_hearing_68 dX12_hearing_71 dX12_hearing_72 dX12_hearing_75 hout (Nat.le_of_ble_eq_true rfl) rc0 (Nat.le_of_ble_eq_true rfl) (Nat.le_of_ble_eq_true rfl) (Nat.le_of_ble_eq_true rfl) hlocks hf (Nat.le_of_ble_eq_true rfl) (Nat.le_of_ble_eq_true rfl)
  replace hf := (if_neg c6).symm.trans hf
  by_cases c7 : a_2 = 0
  · replace hf := (if_pos c7).symm.trans hf
    refine hl_tabIn (tgt := 48) hx hb dX12_hearing_17 c7 (by decide) (by decide) rfl (by decide) ?_
    refine hl_aload_n hx hb dX12_hearing_48 rfl (lv_at hl 0 rfl) ?_
    obtain ⟨a8, ha8, hf⟩ := bnd hf
    replace ha8 := chk_some ha8
    refine gn7_2 hx hb hts hown hKs hH ha8.1 ha8.2 m2_77 dX12_hearing_49 ?_
    exact hx_iret hx hb (Nat.le_of_ble_eq_true rfl) (Nat.le_of_ble_eq_true rfl) hret hf hH hlocks dX12_hearing_52
  replace hf := (if_neg c7).symm.trans hf
  by_cases c9 : a_2 = 1
  · replace hf := (if_pos c9).symm.trans hf
    refine hl_tabIn (tgt := 53) hx hb dX12_hearing_17 c9 (by decide) (by decide) rfl (by decide) ?_
    refine hl_aload_n hx hb dX12_hearing_53 rfl (lv_at hl 0 rfl) ?_
    obtain ⟨a10, ha10, hf⟩ := bnd hf
    replace ha10 := chk_some ha10
    refine gn7_3 hx hb hts hown hKs hH ha10.1 ha10.2 m2_80 dX12_hearing_54 ?_
    exact hx_iret hx hb (Nat.le_of_ble_eq_true rfl) (Nat.le_of_ble_eq_true rfl) hret hf hH hlocks dX12_hearing_57
  replace hf := (if_neg c9).symm.trans hf
  by_cases c11 : a_2 = 2
  · replace hf := (if_pos c11).symm.trans hf
    refine hl_tabIn (tgt := 58) hx hb dX12_hearing_17 c11 (by decide) (by decide) rfl (by decide) ?_
    refine hl_aload_n hx hb dX12_hearing_58 rfl (lv_at hl 0 rfl) ?_
    obtain ⟨a12, ha12, hf⟩ := bnd hf
    replace ha12 := chk_some ha12
    refine gn7_4 hx hb hts hown hKs hH ha12.1 ha12.2 m2_84 dX12_hearing_59 ?_
    exact hx_iret hx hb (Nat.le_of_ble_eq_true rfl) (Nat.le_of_ble_eq_true rfl) hret hf hH hlocks dX12_hearing_62
  replace hf := (if_neg c11).symm.trans hf
  by_cases c13 : a_2 = 3
  · replace hf := (if_pos c13).symm.trans hf
    refine hl_tabIn (tgt := 63) hx hb dX12_hearing_17 c13 (by decide) (by decide) rfl (by decide) ?_
    refine hl_aload_n hx hb dX12_hearing_63 rfl (lv_at hl 0 rfl) ?_
    obtain ⟨a14, ha14, hf⟩ := bnd hf
    replace ha14 := chk_some ha14
    refine gn7_5 hx hb hts hown hKs hH ha14.1 ha14.2 m2_88 dX12_hearing_64 ?_
    exact hx_iret hx hb (Nat.le_of_ble_eq_true rfl) (Nat.le_of_ble_eq_true rfl) hret hf hH hlocks dX12_hearing_67
  replace hf := (if_neg c13).symm.trans hf
  cases hf

theorem dX12_adjournment_0 : decode cX12_adjournment 0 = .ok (.aload_n 0, 1) := by decide +kernel
theorem dX12_adjournment_1 : decode cX12_adjournment 1 = .ok (.iconst 3, 1) := by decide +kernel
theorem dX12_adjournment_2 : decode cX12_adjournment 2 = .ok (.iload_n 1, 1) := by decide +kernel
theorem dX12_adjournment_3 : decode cX12_adjournment 3 = .ok (.invokevirtual 175, 3) := by decide +kernel
theorem dX12_adjournment_6 : decode cX12_adjournment 6 = .ok (.aload_n 0, 1) := by decide +kernel
theorem dX12_adjournment_7 : decode cX12_adjournment 7 = .ok (.getfield 35, 3) := by decide +kernel
theorem dX12_adjournment_10 : decode cX12_adjournment 10 = .ok (.getfield 213, 3) := by decide +kernel
theorem dX12_adjournment_13 : decode cX12_adjournment 13 = .ok (.iload_n 1, 1) := by decide +kernel
theorem dX12_adjournment_14 : decode cX12_adjournment 14 = .ok (.aaload, 1) := by decide +kernel
theorem dX12_adjournment_15 : decode cX12_adjournment 15 = .ok (.astore 4, 2) := by decide +kernel
theorem dX12_adjournment_17 : decode cX12_adjournment 17 = .ok (.iload_n 2, 1) := by decide +kernel
theorem dX12_adjournment_18 : decode cX12_adjournment 18 = .ok (.ifCond .lt 21, 3) := by decide +kernel
theorem dX12_adjournment_21 : decode cX12_adjournment 21 = .ok (.iload_n 2, 1) := by decide +kernel
theorem dX12_adjournment_22 : decode cX12_adjournment 22 = .ok (.aload 4, 2) := by decide +kernel
theorem dX12_adjournment_24 : decode cX12_adjournment 24 = .ok (.getfield 242, 3) := by decide +kernel
theorem dX12_adjournment_27 : decode cX12_adjournment 27 = .ok (.if_icmp .ge 12, 3) := by decide +kernel
theorem dX12_adjournment_30 : decode cX12_adjournment 30 = .ok (.iload_n 3, 1) := by decide +kernel
theorem dX12_adjournment_31 : decode cX12_adjournment 31 = .ok (.ifCond .lt 8, 3) := by decide +kernel
theorem dX12_adjournment_34 : decode cX12_adjournment 34 = .ok (.iload_n 3, 1) := by decide +kernel
theorem dX12_adjournment_35 : decode cX12_adjournment 35 = .ok (.iconst 4, 1) := by decide +kernel
theorem dX12_adjournment_36 : decode cX12_adjournment 36 = .ok (.if_icmp .lt 11, 3) := by decide +kernel
theorem dX12_adjournment_39 : decode cX12_adjournment 39 = .ok (.new 193, 3) := by decide +kernel
theorem dX12_adjournment_42 : decode cX12_adjournment 42 = .ok (.dup, 1) := by decide +kernel
theorem dX12_adjournment_43 : decode cX12_adjournment 43 = .ok (.invokespecial 195, 3) := by decide +kernel
theorem dX12_adjournment_46 : decode cX12_adjournment 46 = .ok (.athrow, 1) := by decide +kernel
theorem dX12_adjournment_47 : decode cX12_adjournment 47 = .ok (.aload 4, 2) := by decide +kernel
theorem dX12_adjournment_49 : decode cX12_adjournment 49 = .ok (.getfield 266, 3) := by decide +kernel
theorem dX12_adjournment_52 : decode cX12_adjournment 52 = .ok (.iload_n 2, 1) := by decide +kernel
theorem dX12_adjournment_53 : decode cX12_adjournment 53 = .ok (.iconst 4, 1) := by decide +kernel
theorem dX12_adjournment_54 : decode cX12_adjournment 54 = .ok (.imul, 1) := by decide +kernel
theorem dX12_adjournment_55 : decode cX12_adjournment 55 = .ok (.iload_n 3, 1) := by decide +kernel
theorem dX12_adjournment_56 : decode cX12_adjournment 56 = .ok (.iadd, 1) := by decide +kernel
theorem dX12_adjournment_57 : decode cX12_adjournment 57 = .ok (.iaload, 1) := by decide +kernel
theorem dX12_adjournment_58 : decode cX12_adjournment 58 = .ok (.ireturn, 1) := by decide +kernel
theorem hd_X12_adjournment : yX12_adjournment.cls = RX12 ∧ yX12_adjournment.cls ≠ "java/lang/invoke/MethodHandle" ∧ yX12_adjournment.cls ≠ "java/lang/invoke/VarHandle" ∧ (parseMethodDescriptor yX12_adjournment.desc).map (fun d => d.parameters.length) = some 3 := by decide +kernel
theorem hs_X12_adjournment : yX12_adjournment.cls ≠ "java/lang/invoke/MethodHandle" ∧ yX12_adjournment.cls ≠ "java/lang/invoke/VarHandle" ∧ (parseMethodDescriptor yX12_adjournment.desc).map (fun d => d.parameters.length) = some 3 := by decide +kernel
set_option maxHeartbeats 4000000 in
set_option maxRecDepth 100000 in
theorem k_X12_adjournment (l : Launch) (hls : l.stackTraces = false) (E : Ev) (K : Kd) (z : Nat) (o : Nat) (a_1 : Int32) (a_2 : Int32) (a_3 : Int32) (w : Wd) (ho : K o = some (10, 0)) {r : Int32 ⊕ Nat} {w' : Wd} (hf : f_X12_adjournment K o a_1 a_2 a_3 w = some (r, w')) : vx_Met l yX12_adjournment (Cond.code yX12_adjournment cX12_adjournment 5 (Option.some Jvm.ClassFile.FieldType.int) :: bt) ({ frames := 7, cells := 2, slots := 12, locals := 112 } : Room) (va_Pc [rv E (some o), .int a_1, .int a_2, .int a_3] (HB E K w z)) (XI E K z w' r) (XX E K w' r) 2 12 (hA E) := by
  refine vx_ofW (cc := cX12_adjournment) (maxL := 5) (ret := (Option.some Jvm.ClassFile.FieldType.int)) (by decide) rfl ?_
  intro p e s m args below meth c s₁ B hml hout hv
  obtain ⟨rfl, hz, hP, hKs, hT, hb0⟩ := hv
  have C : CX p l e s m _ meth c cX12_adjournment 5 RX12 (Option.some Jvm.ClassFile.FieldType.int) E := ⟨B.exec, B.bytes, hml, findClass_of_methodNamed B.named, fun w h => atoms_spec (ws := Cond.code yX12_adjournment cX12_adjournment 5 (Option.some Jvm.ClassFile.FieldType.int) :: bt) B.pre w (List.mem_cons_of_mem _ h), hKs, hT, by rw [hz]; exact hb0, B.notSynchronized, B.returns⟩
  have hH : HQ E K z w s s.heap [] := ⟨hP, va_S.rf, hz⟩
  obtain ⟨hx, hb, hml, hown, hts, hKs, hT, hb0, hlocks, hret⟩ := id C
  have hl := lv_entry [rv E (some o), .int a_1, .int a_2, .int a_3] (n := 5) (by simp [lg_len_nil, lg_len_i, lg_len_j, lg_len_q, lg_len_f, lg_len_d, lg_len_r])
  rw [lg_entry_eq]
  generalize (lg_sl [rv E (some o), .int a_1, .int a_2, .int a_3] ++ List.replicate (5 - (lg_sl [rv E (some o), .int a_1, .int a_2, .int a_3]).length) Slot.unset).toArray = ls at hl ⊢
  replace hl : lv_has ls 5 [(0, rv E (some o)), (1, .int a_1), (2, .int a_2), (3, .int a_3)] := by simpa only [lv_args, cat_q, cat_i, cat_j, reduceIte, Nat.reduceEqDiff, Nat.reduceAdd, Nat.zero_add] using hl
  generalize s.heap = H at hH ⊢
  unfold f_X12_adjournment at hf
  refine hl_aload_n hx hb dX12_adjournment_0 rfl (lv_at hl 0 rfl) ?_
  refine lv_iconst (v := 3) hx hb dX12_adjournment_1 (by decide) ?_
  refine lv_iload_n hx hb dX12_adjournment_2 rfl (lv_at hl 1 rfl) ?_
  obtain ⟨q1, hq1, hf⟩ := bnd hf
  refine hxV_v hx hb hml hown hts hKs hT hb0 hH (As := [.int 3, .int a_1]) (rest := []) (k_X12_requireExisting l hls E K H.size o 3 a_1 w ho hq1) (gV m5_90 m5_92 ms_36 m1_1 m5_93) hd_X12_requireExisting ⟨Nat.le_of_ble_eq_true rfl, Nat.le_of_ble_eq_true rfl, rfl, rfl⟩ rfl ho rfl rfl rfl hl.1 rfl rc0 rfl dX12_adjournment_3 ⟨Nat.le_of_ble_eq_true rfl, Nat.le_of_ble_eq_true rfl⟩ ⟨Nat.le_of_ble_eq_true rfl, Nat.le_of_ble_eq_true rfl⟩ hout hlocks (fun x hx9 => (fun h9 => ⟨(congrArg Prod.fst h9).symm, (congrArg Prod.snd h9).symm⟩) (Option.some.inj ((xk_inr hx9).symm.trans hf))) (fun v2 hv2 H locs hH => ?_)
  replace hf := (xk_inl hv2).symm.trans hf
  refine hl_aload_n hx hb dX12_adjournment_6 rfl (lv_at hl 0 rfl) ?_
  refine g12_5 hx hb hts hown hKs hH rfl ho m2_224 dX12_adjournment_7 ?_
  obtain ⟨a3, ha3, hf⟩ := bnd hf
  replace ha3 := chk_some ha3
  refine gn10_5 hx hb hts hown hKs hH ha3.1 ha3.2 m2_135 dX12_adjournment_10 ?_
  refine lv_iload_n hx hb dX12_adjournment_13 rfl (lv_at hl 1 rfl) ?_
  obtain ⟨a4, ha4, hf⟩ := bnd hf
  replace ha4 := cha_some ha4
  obtain ⟨j5, hj5, hf⟩ := bnd hf
  refine hw_aald27 hx hb hKs hH ha4.1 ha4.2 hj5 dX12_adjournment_14 ?_
  refine hl_astore (i := 4) (lv' := [(4, rv E (aR q1.2 a4.1 j5)), (0, rv E (some o)), (1, .int a_1), (2, .int a_2), (3, .int a_3)]) hx hb dX12_adjournment_15 hl (by decide) rfl (fun ls hl => ?_)
  refine lv_iload_n hx hb dX12_adjournment_17 rfl (lv_at hl 3 rfl) ?_
  refine lv_if_lt (tgt := 39) hx hb dX12_adjournment_18 (by decide) (fun c6 => ?_) (fun c6 => ?_)
  · replace hf := (if_pos c6).symm.trans hf
    exact hx_throw hx hb hls (code := 1) hml hl.1 hown hts hKs hT hb0 hH (by decide) rfl m5_94 m1_28 hat_RX12_195 dX12_adjournment_39 dX12_adjournment_42 dX12_adjournment_43 dX12_adjournment_46 hout (Nat.le_of_ble_eq_true rfl) rc0 (Nat.le_of_ble_eq_true rfl) (Nat.le_of_ble_eq_true rfl) (Nat.le_of_ble_eq_true rfl) hlocks hf (Nat.le_of_ble_eq_true rfl) (Nat.le_of_ble_eq_true rfl)
  · replace hf := (if_neg c6).symm.trans hf
    refine lv_iload_n hx hb dX12_adjournment_21 rfl (lv_at hl 3 rfl) ?_
    refine hl_aload hx hb dX12_adjournment_22 (lv_at hl 0 rfl) ?_
    obtain ⟨a7, ha7, hf⟩ := bnd hf
    replace ha7 := chk_some ha7
    refine gn7_6 hx hb hts hown hKs hH ha7.1 ha7.2 m2_90 dX12_adjournment_24 ?_
    refine lv_icmp_ge (tgt := 39) hx hb dX12_adjournment_27 (by decide) (fun c8 => ?_) (fun c8 => ?_)
    · replace hf := (if_pos c8).symm.trans hf
      exact hx_throw hx hb hls (code := 1) hml hl.1 hown hts hKs hT hb0 hH (by decide) rfl m5_94 m1_28 hat_RX12_195 dX12_adjournment_39 dX12_adjournment_42 dX12_adjournment_43 dX12_adjournment_46 hout (Nat.le_of_ble_eq_true rfl) rc0 (Nat.le_of_ble_eq_true rfl) (Nat.le_of_ble_eq_true rfl) (Nat.le_of_ble_eq_true rfl) hlocks hf (Nat.le_of_ble_eq_true rfl) (Nat.le_of_ble_eq_true rfl)
    · replace hf := (if_neg c8).symm.trans hf
      refine lv_iload_n hx hb dX12_adjournment_30 rfl (lv_at hl 4 rfl) ?_
      refine lv_if_lt (tgt := 39) hx hb dX12_adjournment_31 (by decide) (fun c9 => ?_) (fun c9 => ?_)
      · replace hf := (if_pos c9).symm.trans hf
        exact hx_throw hx hb hls (code := 1) hml hl.1 hown hts hKs hT hb0 hH (by decide) rfl m5_94 m1_28 hat_RX12_195 dX12_adjournment_39 dX12_adjournment_42 dX12_adjournment_43 dX12_adjournment_46 hout (Nat.le_of_ble_eq_true rfl) rc0 (Nat.le_of_ble_eq_true rfl) (Nat.le_of_ble_eq_true rfl) (Nat.le_of_ble_eq_true rfl) hlocks hf (Nat.le_of_ble_eq_true rfl) (Nat.le_of_ble_eq_true rfl)
      · replace hf := (if_neg c9).symm.trans hf
        refine lv_iload_n hx hb dX12_adjournment_34 rfl (lv_at hl 4 rfl) ?_
        refine lv_iconst (v := 4) hx hb dX12_adjournment_35 (by decide) ?_
        refine lv_icmp_lt (tgt := 47) hx hb dX12_adjournment_36 (by decide) (fun c10 => ?_) (fun c10 => ?_)
        · replace hf := (if_pos c10).symm.trans hf
          refine hl_aload hx hb dX12_adjournment_47 (lv_at hl 0 rfl) ?_
          refine gn7_7 hx hb hts hown hKs hH ha7.1 ha7.2 m2_93 dX12_adjournment_49 ?_
          refine lv_iload_n hx hb dX12_adjournment_52 rfl (lv_at hl 3 rfl) ?_
          refine lv_iconst (v := 4) hx hb dX12_adjournment_53 (by decide) ?_
          refine lv_imul hx hb dX12_adjournment_54 ?_
          refine lv_iload_n hx hb dX12_adjournment_55 rfl (lv_at hl 4 rfl) ?_
          refine lv_iadd hx hb dX12_adjournment_56 ?_
          obtain ⟨a11, ha11, hf⟩ := bnd hf
          replace ha11 := cha_some ha11
          obtain ⟨j12, hj12, hf⟩ := bnd hf
          refine hw_iald hx hb hKs hH ha11.1 ha11.2 hj12 dX12_adjournment_57 ?_
          exact hx_iret hx hb (Nat.le_of_ble_eq_true rfl) (Nat.le_of_ble_eq_true rfl) hret hf hH hlocks dX12_adjournment_58
        · replace hf := (if_neg c10).symm.trans hf
          exact hx_throw hx hb hls (code := 1) hml hl.1 hown hts hKs hT hb0 hH (by decide) rfl m5_94 m1_28 hat_RX12_195 dX12_adjournment_39 dX12_adjournment_42 dX12_adjournment_43 dX12_adjournment_46 hout (Nat.le_of_ble_eq_true rfl) rc0 (Nat.le_of_ble_eq_true rfl) (Nat.le_of_ble_eq_true rfl) (Nat.le_of_ble_eq_true rfl) hlocks hf (Nat.le_of_ble_eq_true rfl) (Nat.le_of_ble_eq_true rfl)

theorem dX12_caseAt_0 : decode cX12_caseAt 0 = .ok (.aload_n 0, 1) := by decide +kernel
theorem dX12_caseAt_1 : decode cX12_caseAt 1 = .ok (.iconst 0, 1) := by decide +kernel
theorem dX12_caseAt_2 : decode cX12_caseAt 2 = .ok (.iload_n 1, 1) := by decide +kernel
theorem dX12_caseAt_3 : decode cX12_caseAt 3 = .ok (.invokevirtual 175, 3) := by decide +kernel
theorem dX12_caseAt_6 : decode cX12_caseAt 6 = .ok (.aload_n 0, 1) := by decide +kernel
theorem dX12_caseAt_7 : decode cX12_caseAt 7 = .ok (.iload_n 2, 1) := by decide +kernel
theorem dX12_caseAt_8 : decode cX12_caseAt 8 = .ok (.invokevirtual 154, 3) := by decide +kernel
theorem dX12_caseAt_11 : decode cX12_caseAt 11 = .ok (.aload_n 0, 1) := by decide +kernel
theorem dX12_caseAt_12 : decode cX12_caseAt 12 = .ok (.iload_n 3, 1) := by decide +kernel
theorem dX12_caseAt_13 : decode cX12_caseAt 13 = .ok (.invokevirtual 269, 3) := by decide +kernel
theorem dX12_caseAt_16 : decode cX12_caseAt 16 = .ok (.aload_n 0, 1) := by decide +kernel
theorem dX12_caseAt_17 : decode cX12_caseAt 17 = .ok (.getfield 35, 3) := by decide +kernel
theorem dX12_caseAt_20 : decode cX12_caseAt 20 = .ok (.iload_n 1, 1) := by decide +kernel
theorem dX12_caseAt_21 : decode cX12_caseAt 21 = .ok (.iload_n 2, 1) := by decide +kernel
theorem dX12_caseAt_22 : decode cX12_caseAt 22 = .ok (.iload_n 3, 1) := by decide +kernel
theorem dX12_caseAt_23 : decode cX12_caseAt 23 = .ok (.invokevirtual 272, 3) := by decide +kernel
theorem dX12_caseAt_26 : decode cX12_caseAt 26 = .ok (.ireturn, 1) := by decide +kernel
theorem hd_X12_caseAt : yX12_caseAt.cls = RX12 ∧ yX12_caseAt.cls ≠ "java/lang/invoke/MethodHandle" ∧ yX12_caseAt.cls ≠ "java/lang/invoke/VarHandle" ∧ (parseMethodDescriptor yX12_caseAt.desc).map (fun d => d.parameters.length) = some 3 := by decide +kernel
theorem hs_X12_caseAt : yX12_caseAt.cls ≠ "java/lang/invoke/MethodHandle" ∧ yX12_caseAt.cls ≠ "java/lang/invoke/VarHandle" ∧ (parseMethodDescriptor yX12_caseAt.desc).map (fun d => d.parameters.length) = some 3 := by decide +kernel
set_option maxHeartbeats 4000000 in
set_option maxRecDepth 100000 in
theorem k_X12_caseAt (l : Launch) (hls : l.stackTraces = false) (E : Ev) (K : Kd) (z : Nat) (o : Nat) (a_1 : Int32) (a_2 : Int32) (a_3 : Int32) (w : Wd) (ho : K o = some (10, 0)) {r : Int32 ⊕ Nat} {w' : Wd} (hf : f_X12_caseAt K o a_1 a_2 a_3 w = some (r, w')) : vx_Met l yX12_caseAt (Cond.code yX12_caseAt cX12_caseAt 4 (Option.some Jvm.ClassFile.FieldType.int) :: bt) ({ frames := 7, cells := 3, slots := 18, locals := 112 } : Room) (va_Pc [rv E (some o), .int a_1, .int a_2, .int a_3] (HB E K w z)) (XI E K z w' r) (XX E K w' r) 3 18 (hA E) := by
  refine vx_ofW (cc := cX12_caseAt) (maxL := 4) (ret := (Option.some Jvm.ClassFile.FieldType.int)) (by decide) rfl ?_
  intro p e s m args below meth c s₁ B hml hout hv
  obtain ⟨rfl, hz, hP, hKs, hT, hb0⟩ := hv
  have C : CX p l e s m _ meth c cX12_caseAt 4 RX12 (Option.some Jvm.ClassFile.FieldType.int) E := ⟨B.exec, B.bytes, hml, findClass_of_methodNamed B.named, fun w h => atoms_spec (ws := Cond.code yX12_caseAt cX12_caseAt 4 (Option.some Jvm.ClassFile.FieldType.int) :: bt) B.pre w (List.mem_cons_of_mem _ h), hKs, hT, by rw [hz]; exact hb0, B.notSynchronized, B.returns⟩
  have hH : HQ E K z w s s.heap [] := ⟨hP, va_S.rf, hz⟩
  obtain ⟨hx, hb, hml, hown, hts, hKs, hT, hb0, hlocks, hret⟩ := id C
  have hl := lv_entry [rv E (some o), .int a_1, .int a_2, .int a_3] (n := 4) (by simp [lg_len_nil, lg_len_i, lg_len_j, lg_len_q, lg_len_f, lg_len_d, lg_len_r])
  rw [lg_entry_eq]
  generalize (lg_sl [rv E (some o), .int a_1, .int a_2, .int a_3] ++ List.replicate (4 - (lg_sl [rv E (some o), .int a_1, .int a_2, .int a_3]).length) Slot.unset).toArray = ls at hl ⊢
  replace hl : lv_has ls 4 [(0, rv E (some o)), (1, .int a_1), (2, .int a_2), (3, .int a_3)] := by simpa only [lv_args, cat_q, cat_i, cat_j, reduceIte, Nat.reduceEqDiff, Nat.reduceAdd, Nat.zero_add] using hl
  generalize s.heap = H at hH ⊢
  unfold f_X12_caseAt at hf
  refine hl_aload_n hx hb dX12_caseAt_0 rfl (lv_at hl 0 rfl) ?_
  refine lv_iconst (v := 0) hx hb dX12_caseAt_1 (by decide) ?_
  refine lv_iload_n hx hb dX12_caseAt_2 rfl (lv_at hl 1 rfl) ?_
  obtain ⟨q1, hq1, hf⟩ := bnd hf
  refine hxV_v hx hb hml hown hts hKs hT hb0 hH (As := [.int 0, .int a_1]) (rest := []) (k_X12_requireExisting l hls E K H.size o 0 a_1 w ho hq1) (gV m5_90 m5_92 ms_36 m1_1 m5_93) hd_X12_requireExisting ⟨Nat.le_of_ble_eq_true rfl, Nat.le_of_ble_eq_true rfl, rfl, rfl⟩ rfl ho rfl rfl rfl hl.1 rfl rc0 rfl dX12_caseAt_3 ⟨Nat.le_of_ble_eq_true rfl, Nat.le_of_ble_eq_true rfl⟩ ⟨Nat.le_of_ble_eq_true rfl, Nat.le_of_ble_eq_true rfl⟩ hout hlocks (fun x hx9 => (fun h9 => ⟨(congrArg Prod.fst h9).symm, (congrArg Prod.snd h9).symm⟩) (Option.some.inj ((xk_inr hx9).symm.trans hf))) (fun v2 hv2 H locs hH => ?_)
  replace hf := (xk_inl hv2).symm.trans hf
  refine hl_aload_n hx hb dX12_caseAt_6 rfl (lv_at hl 0 rfl) ?_
  refine lv_iload_n hx hb dX12_caseAt_7 rfl (lv_at hl 2 rfl) ?_
  obtain ⟨q3, hq3, hf⟩ := bnd hf
  refine hxV_v hx hb hml hown hts hKs hT hb0 hH (As := [.int a_2]) (rest := []) (k_X12_requireDay l hls E K H.size o a_2 q1.2 ho hq3) (gV m5_54 m5_56 ms_33 m1_1 m5_57) hd_X12_requireDay ⟨Nat.le_of_ble_eq_true rfl, Nat.le_of_ble_eq_true rfl, rfl, rfl⟩ rfl ho rfl rfl rfl hl.1 rfl rc0 rfl dX12_caseAt_8 ⟨Nat.le_of_ble_eq_true rfl, Nat.le_of_ble_eq_true rfl⟩ ⟨Nat.le_of_ble_eq_true rfl, Nat.le_of_ble_eq_true rfl⟩ hout hlocks (fun x hx9 => (fun h9 => ⟨(congrArg Prod.fst h9).symm, (congrArg Prod.snd h9).symm⟩) (Option.some.inj ((xk_inr hx9).symm.trans hf))) (fun v4 hv4 H locs hH => ?_)
  replace hf := (xk_inl hv4).symm.trans hf
  refine hl_aload_n hx hb dX12_caseAt_11 rfl (lv_at hl 0 rfl) ?_
  refine lv_iload_n hx hb dX12_caseAt_12 rfl (lv_at hl 3 rfl) ?_
  obtain ⟨q5, hq5, hf⟩ := bnd hf
  refine hxV_v hx hb hml hown hts hKs hT hb0 hH (As := [.int a_3]) (rest := []) (k_X12_requireSlot l hls E K H.size o a_3 q3.2 ho hq5) (gV m5_168 m5_170 ms_37 m1_1 m5_171) hd_X12_requireSlot ⟨Nat.le_of_ble_eq_true rfl, Nat.le_of_ble_eq_true rfl, rfl, rfl⟩ rfl ho rfl rfl rfl hl.1 rfl rc0 rfl dX12_caseAt_13 ⟨Nat.le_of_ble_eq_true rfl, Nat.le_of_ble_eq_true rfl⟩ ⟨Nat.le_of_ble_eq_true rfl, Nat.le_of_ble_eq_true rfl⟩ hout hlocks (fun x hx9 => (fun h9 => ⟨(congrArg Prod.fst h9).symm, (congrArg Prod.snd h9).symm⟩) (Option.some.inj ((xk_inr hx9).symm.trans hf))) (fun v6 hv6 H locs hH => ?_)
  replace hf := (xk_inl hv6).symm.trans hf
  refine hl_aload_n hx hb dX12_caseAt_16 rfl (lv_at hl 0 rfl) ?_
  refine g12_5 hx hb hts hown hKs hH rfl ho m2_224 dX12_caseAt_17 ?_
  refine lv_iload_n hx hb dX12_caseAt_20 rfl (lv_at hl 1 rfl) ?_
  refine lv_iload_n hx hb dX12_caseAt_21 rfl (lv_at hl 2 rfl) ?_
  refine lv_iload_n hx hb dX12_caseAt_22 rfl (lv_at hl 3 rfl) ?_
  obtain ⟨a7, ha7, hf⟩ := bnd hf
  replace ha7 := chk_some ha7
  obtain ⟨q8, hq8, hf⟩ := bnd hf
  refine hcV_i hx hb hml hown hts hKs hT hb0 hH (As := [.int a_1, .int a_2, .int a_3]) (rest := []) (k_X10_caseTaking l E K H.size a7 a_1 a_2 a_3 q5.2 ha7.2 hq8) (gV m5_172 m5_173 m5_174 m1_12 m5_175) hd_X10_caseTaking ⟨Nat.le_of_ble_eq_true rfl, Nat.le_of_ble_eq_true rfl, rfl, rfl⟩ ha7.1 ha7.2 rfl rfl rfl hl.1 rfl rc0 rfl dX12_caseAt_23 ⟨Nat.le_of_ble_eq_true rfl, Nat.le_of_ble_eq_true rfl⟩ (fun H locs hH => ?_)
  exact hx_iret hx hb (Nat.le_of_ble_eq_true rfl) (Nat.le_of_ble_eq_true rfl) hret hf hH hlocks dX12_caseAt_26

theorem dX12_urgent_0 : decode cX12_urgent 0 = .ok (.aload_n 0, 1) := by decide +kernel
theorem dX12_urgent_1 : decode cX12_urgent 1 = .ok (.getfield 35, 3) := by decide +kernel
theorem dX12_urgent_4 : decode cX12_urgent 4 = .ok (.aload_n 0, 1) := by decide +kernel
theorem dX12_urgent_5 : decode cX12_urgent 5 = .ok (.getfield 63, 3) := by decide +kernel
theorem dX12_urgent_8 : decode cX12_urgent 8 = .ok (.invokevirtual 299, 3) := by decide +kernel
theorem dX12_urgent_11 : decode cX12_urgent 11 = .ok (.istore_n 2, 1) := by decide +kernel
theorem dX12_urgent_12 : decode cX12_urgent 12 = .ok (.iload_n 1, 1) := by decide +kernel
theorem dX12_urgent_13 : decode cX12_urgent 13 = .ok (.ifCond .lt 8, 3) := by decide +kernel
theorem dX12_urgent_16 : decode cX12_urgent 16 = .ok (.iload_n 1, 1) := by decide +kernel
theorem dX12_urgent_17 : decode cX12_urgent 17 = .ok (.iload_n 2, 1) := by decide +kernel
theorem dX12_urgent_18 : decode cX12_urgent 18 = .ok (.if_icmp .lt 11, 3) := by decide +kernel
theorem dX12_urgent_21 : decode cX12_urgent 21 = .ok (.new 303, 3) := by decide +kernel
theorem dX12_urgent_24 : decode cX12_urgent 24 = .ok (.dup, 1) := by decide +kernel
theorem dX12_urgent_25 : decode cX12_urgent 25 = .ok (.invokespecial 305, 3) := by decide +kernel
theorem dX12_urgent_28 : decode cX12_urgent 28 = .ok (.athrow, 1) := by decide +kernel
theorem dX12_urgent_29 : decode cX12_urgent 29 = .ok (.aload_n 0, 1) := by decide +kernel
theorem dX12_urgent_30 : decode cX12_urgent 30 = .ok (.getfield 63, 3) := by decide +kernel
theorem dX12_urgent_33 : decode cX12_urgent 33 = .ok (.iload_n 1, 1) := by decide +kernel
theorem dX12_urgent_34 : decode cX12_urgent 34 = .ok (.iaload, 1) := by decide +kernel
theorem dX12_urgent_35 : decode cX12_urgent 35 = .ok (.ireturn, 1) := by decide +kernel
theorem hd_X12_urgent : yX12_urgent.cls = RX12 ∧ yX12_urgent.cls ≠ "java/lang/invoke/MethodHandle" ∧ yX12_urgent.cls ≠ "java/lang/invoke/VarHandle" ∧ (parseMethodDescriptor yX12_urgent.desc).map (fun d => d.parameters.length) = some 1 := by decide +kernel
theorem hs_X12_urgent : yX12_urgent.cls ≠ "java/lang/invoke/MethodHandle" ∧ yX12_urgent.cls ≠ "java/lang/invoke/VarHandle" ∧ (parseMethodDescriptor yX12_urgent.desc).map (fun d => d.parameters.length) = some 1 := by decide +kernel
set_option maxHeartbeats 4000000 in
set_option maxRecDepth 100000 in
theorem k_X12_urgent (l : Launch) (hls : l.stackTraces = false) (E : Ev) (K : Kd) (z : Nat) (o : Nat) (a_1 : Int32) (w : Wd) (ho : K o = some (10, 0)) {r : Int32 ⊕ Nat} {w' : Wd} (hf : f_X12_urgent K o a_1 w = some (r, w')) : vx_Met l yX12_urgent (Cond.code yX12_urgent cX12_urgent 3 (Option.some Jvm.ClassFile.FieldType.int) :: bt) ({ frames := 6, cells := 1, slots := 6, locals := 111 } : Room) (va_Pc [rv E (some o), .int a_1] (HB E K w z)) (XI E K z w' r) (XX E K w' r) 1 6 (hA E) := by
  refine vx_ofW (cc := cX12_urgent) (maxL := 3) (ret := (Option.some Jvm.ClassFile.FieldType.int)) (by decide) rfl ?_
  intro p e s m args below meth c s₁ B hml hout hv
  obtain ⟨rfl, hz, hP, hKs, hT, hb0⟩ := hv
  have C : CX p l e s m _ meth c cX12_urgent 3 RX12 (Option.some Jvm.ClassFile.FieldType.int) E := ⟨B.exec, B.bytes, hml, findClass_of_methodNamed B.named, fun w h => atoms_spec (ws := Cond.code yX12_urgent cX12_urgent 3 (Option.some Jvm.ClassFile.FieldType.int) :: bt) B.pre w (List.mem_cons_of_mem _ h), hKs, hT, by rw [hz]; exact hb0, B.notSynchronized, B.returns⟩
  have hH : HQ E K z w s s.heap [] := ⟨hP, va_S.rf, hz⟩
  obtain ⟨hx, hb, hml, hown, hts, hKs, hT, hb0, hlocks, hret⟩ := id C
  have hl := lv_entry [rv E (some o), .int a_1] (n := 3) (by simp [lg_len_nil, lg_len_i, lg_len_j, lg_len_q, lg_len_f, lg_len_d, lg_len_r])
  rw [lg_entry_eq]
  generalize (lg_sl [rv E (some o), .int a_1] ++ List.replicate (3 - (lg_sl [rv E (some o), .int a_1]).length) Slot.unset).toArray = ls at hl ⊢
  replace hl : lv_has ls 3 [(0, rv E (some o)), (1, .int a_1)] := by simpa only [lv_args, cat_q, cat_i, cat_j, reduceIte, Nat.reduceEqDiff, Nat.reduceAdd, Nat.zero_add] using hl
  generalize s.heap = H at hH ⊢
  unfold f_X12_urgent at hf
  refine hl_aload_n hx hb dX12_urgent_0 rfl (lv_at hl 0 rfl) ?_
  refine g12_5 hx hb hts hown hKs hH rfl ho m2_224 dX12_urgent_1 ?_
  refine hl_aload_n hx hb dX12_urgent_4 rfl (lv_at hl 0 rfl) ?_
  refine g12_13 hx hb hts hown hKs hH rfl ho m2_232 dX12_urgent_5 ?_
  obtain ⟨a1, ha1, hf⟩ := bnd hf
  replace ha1 := chk_some ha1
  obtain ⟨q2, hq2, hf⟩ := bnd hf
  refine hcV_i hx hb hml hown hts hKs hT hb0 hH (As := [rv E (wR w 1213 o)]) (rest := []) (k_X10_sortWaiting l E K H.size a1 (wR w 1213 o) w ha1.2 hq2) (gV m6_0 m4_100 m4_101 m1_12 m4_102) hd_X10_sortWaiting ⟨Nat.le_of_ble_eq_true rfl, Nat.le_of_ble_eq_true rfl, rfl, rfl⟩ ha1.1 ha1.2 rfl rfl rfl hl.1 rfl rc0 rfl dX12_urgent_8 ⟨Nat.le_of_ble_eq_true rfl, Nat.le_of_ble_eq_true rfl⟩ (fun H locs hH => ?_)
  refine lv_istore_n (i := 2) (lv' := [(2, .int (q2.1)), (0, rv E (some o)), (1, .int a_1)]) hx hb dX12_urgent_11 rfl hl (by decide) rfl (fun ls hl => ?_)
  refine lv_iload_n hx hb dX12_urgent_12 rfl (lv_at hl 2 rfl) ?_
  refine lv_if_lt (tgt := 21) hx hb dX12_urgent_13 (by decide) (fun c3 => ?_) (fun c3 => ?_)
  · replace hf := (if_pos c3).symm.trans hf
    exact hx_throw hx hb hls (code := 4) hml hl.1 hown hts hKs hT hb0 hH (by decide) rfl m6_1 m1_30 hat_RX12_305 dX12_urgent_21 dX12_urgent_24 dX12_urgent_25 dX12_urgent_28 hout (Nat.le_of_ble_eq_true rfl) rc0 (Nat.le_of_ble_eq_true rfl) (Nat.le_of_ble_eq_true rfl) (Nat.le_of_ble_eq_true rfl) hlocks hf (Nat.le_of_ble_eq_true rfl) (Nat.le_of_ble_eq_true rfl)
  · replace hf := (if_neg c3).symm.trans hf
    refine lv_iload_n hx hb dX12_urgent_16 rfl (lv_at hl 2 rfl) ?_
    refine lv_iload_n hx hb dX12_urgent_17 rfl (lv_at hl 0 rfl) ?_
    refine lv_icmp_lt (tgt := 29) hx hb dX12_urgent_18 (by decide) (fun c4 => ?_) (fun c4 => ?_)
    · replace hf := (if_pos c4).symm.trans hf
      refine hl_aload_n hx hb dX12_urgent_29 rfl (lv_at hl 1 rfl) ?_
      refine g12_13 hx hb hts hown hKs hH rfl ho m2_232 dX12_urgent_30 ?_
      refine lv_iload_n hx hb dX12_urgent_33 rfl (lv_at hl 2 rfl) ?_
      obtain ⟨a5, ha5, hf⟩ := bnd hf
      replace ha5 := cha_some ha5
      obtain ⟨j6, hj6, hf⟩ := bnd hf
      refine hw_iald hx hb hKs hH ha5.1 ha5.2 hj6 dX12_urgent_34 ?_
      exact hx_iret hx hb (Nat.le_of_ble_eq_true rfl) (Nat.le_of_ble_eq_true rfl) hret hf hH hlocks dX12_urgent_35
    · replace hf := (if_neg c4).symm.trans hf
      exact hx_throw hx hb hls (code := 4) hml hl.1 hown hts hKs hT hb0 hH (by decide) rfl m6_1 m1_30 hat_RX12_305 dX12_urgent_21 dX12_urgent_24 dX12_urgent_25 dX12_urgent_28 hout (Nat.le_of_ble_eq_true rfl) rc0 (Nat.le_of_ble_eq_true rfl) (Nat.le_of_ble_eq_true rfl) (Nat.le_of_ble_eq_true rfl) hlocks hf (Nat.le_of_ble_eq_true rfl) (Nat.le_of_ble_eq_true rfl)

theorem dX12_slack_0 : decode cX12_slack 0 = .ok (.aload_n 0, 1) := by decide +kernel
theorem dX12_slack_1 : decode cX12_slack 1 = .ok (.iconst 3, 1) := by decide +kernel
theorem dX12_slack_2 : decode cX12_slack 2 = .ok (.iload_n 1, 1) := by decide +kernel
theorem dX12_slack_3 : decode cX12_slack 3 = .ok (.invokevirtual 175, 3) := by decide +kernel
theorem dX12_slack_6 : decode cX12_slack 6 = .ok (.aload_n 0, 1) := by decide +kernel
theorem dX12_slack_7 : decode cX12_slack 7 = .ok (.getfield 35, 3) := by decide +kernel
theorem dX12_slack_10 : decode cX12_slack 10 = .ok (.iload_n 1, 1) := by decide +kernel
theorem dX12_slack_11 : decode cX12_slack 11 = .ok (.invokevirtual 306, 3) := by decide +kernel
theorem dX12_slack_14 : decode cX12_slack 14 = .ok (.ireturn, 1) := by decide +kernel
theorem hd_X12_slack : yX12_slack.cls = RX12 ∧ yX12_slack.cls ≠ "java/lang/invoke/MethodHandle" ∧ yX12_slack.cls ≠ "java/lang/invoke/VarHandle" ∧ (parseMethodDescriptor yX12_slack.desc).map (fun d => d.parameters.length) = some 1 := by decide +kernel
theorem hs_X12_slack : yX12_slack.cls ≠ "java/lang/invoke/MethodHandle" ∧ yX12_slack.cls ≠ "java/lang/invoke/VarHandle" ∧ (parseMethodDescriptor yX12_slack.desc).map (fun d => d.parameters.length) = some 1 := by decide +kernel
set_option maxHeartbeats 4000000 in
set_option maxRecDepth 100000 in
theorem k_X12_slack (l : Launch) (hls : l.stackTraces = false) (E : Ev) (K : Kd) (z : Nat) (o : Nat) (a_1 : Int32) (w : Wd) (ho : K o = some (10, 0)) {r : Int32 ⊕ Nat} {w' : Wd} (hf : f_X12_slack K o a_1 w = some (r, w')) : vx_Met l yX12_slack (Cond.code yX12_slack cX12_slack 2 (Option.some Jvm.ClassFile.FieldType.int) :: bt) ({ frames := 7, cells := 1, slots := 6, locals := 112 } : Room) (va_Pc [rv E (some o), .int a_1] (HB E K w z)) (XI E K z w' r) (XX E K w' r) 1 6 (hA E) := by
  refine vx_ofW (cc := cX12_slack) (maxL := 2) (ret := (Option.some Jvm.ClassFile.FieldType.int)) (by decide) rfl ?_
  intro p e s m args below meth c s₁ B hml hout hv
  obtain ⟨rfl, hz, hP, hKs, hT, hb0⟩ := hv
  have C : CX p l e s m _ meth c cX12_slack 2 RX12 (Option.some Jvm.ClassFile.FieldType.int) E := ⟨B.exec, B.bytes, hml, findClass_of_methodNamed B.named, fun w h => atoms_spec (ws := Cond.code yX12_slack cX12_slack 2 (Option.some Jvm.ClassFile.FieldType.int) :: bt) B.pre w (List.mem_cons_of_mem _ h), hKs, hT, by rw [hz]; exact hb0, B.notSynchronized, B.returns⟩
  have hH : HQ E K z w s s.heap [] := ⟨hP, va_S.rf, hz⟩
  obtain ⟨hx, hb, hml, hown, hts, hKs, hT, hb0, hlocks, hret⟩ := id C
  have hl := lv_entry [rv E (some o), .int a_1] (n := 2) (by simp [lg_len_nil, lg_len_i, lg_len_j, lg_len_q, lg_len_f, lg_len_d, lg_len_r])
  rw [lg_entry_eq]
  generalize (lg_sl [rv E (some o), .int a_1] ++ List.replicate (2 - (lg_sl [rv E (some o), .int a_1]).length) Slot.unset).toArray = ls at hl ⊢
  replace hl : lv_has ls 2 [(0, rv E (some o)), (1, .int a_1)] := by simpa only [lv_args, cat_q, cat_i, cat_j, reduceIte, Nat.reduceEqDiff, Nat.reduceAdd, Nat.zero_add] using hl
  generalize s.heap = H at hH ⊢
  unfold f_X12_slack at hf
  refine hl_aload_n hx hb dX12_slack_0 rfl (lv_at hl 0 rfl) ?_
  refine lv_iconst (v := 3) hx hb dX12_slack_1 (by decide) ?_
  refine lv_iload_n hx hb dX12_slack_2 rfl (lv_at hl 1 rfl) ?_
  obtain ⟨q1, hq1, hf⟩ := bnd hf
  refine hxV_v hx hb hml hown hts hKs hT hb0 hH (As := [.int 3, .int a_1]) (rest := []) (k_X12_requireExisting l hls E K H.size o 3 a_1 w ho hq1) (gV m5_90 m5_92 ms_36 m1_1 m5_93) hd_X12_requireExisting ⟨Nat.le_of_ble_eq_true rfl, Nat.le_of_ble_eq_true rfl, rfl, rfl⟩ rfl ho rfl rfl rfl hl.1 rfl rc0 rfl dX12_slack_3 ⟨Nat.le_of_ble_eq_true rfl, Nat.le_of_ble_eq_true rfl⟩ ⟨Nat.le_of_ble_eq_true rfl, Nat.le_of_ble_eq_true rfl⟩ hout hlocks (fun x hx9 => (fun h9 => ⟨(congrArg Prod.fst h9).symm, (congrArg Prod.snd h9).symm⟩) (Option.some.inj ((xk_inr hx9).symm.trans hf))) (fun v2 hv2 H locs hH => ?_)
  replace hf := (xk_inl hv2).symm.trans hf
  refine hl_aload_n hx hb dX12_slack_6 rfl (lv_at hl 0 rfl) ?_
  refine g12_5 hx hb hts hown hKs hH rfl ho m2_224 dX12_slack_7 ?_
  refine lv_iload_n hx hb dX12_slack_10 rfl (lv_at hl 1 rfl) ?_
  obtain ⟨a3, ha3, hf⟩ := bnd hf
  replace ha3 := chk_some ha3
  obtain ⟨q4, hq4, hf⟩ := bnd hf
  refine hcV_i hx hb hml hown hts hKs hT hb0 hH (As := [.int a_1]) (rest := []) (k_X10_slackOf l E K H.size a3 a_1 q1.2 ha3.2 hq4) (gV m4_61 m4_62 m4_63 m1_12 m4_64) hd_X10_slackOf ⟨Nat.le_of_ble_eq_true rfl, Nat.le_of_ble_eq_true rfl, rfl, rfl⟩ ha3.1 ha3.2 rfl rfl rfl hl.1 rfl rc0 rfl dX12_slack_11 ⟨Nat.le_of_ble_eq_true rfl, Nat.le_of_ble_eq_true rfl⟩ (fun H locs hH => ?_)
  exact hx_iret hx hb (Nat.le_of_ble_eq_true rfl) (Nat.le_of_ble_eq_true rfl) hret hf hH hlocks dX12_slack_14

theorem dX12_eligible_0 : decode cX12_eligible 0 = .ok (.aload_n 0, 1) := by decide +kernel
theorem dX12_eligible_1 : decode cX12_eligible 1 = .ok (.iconst 3, 1) := by decide +kernel
theorem dX12_eligible_2 : decode cX12_eligible 2 = .ok (.iload_n 1, 1) := by decide +kernel
theorem dX12_eligible_3 : decode cX12_eligible 3 = .ok (.invokevirtual 175, 3) := by decide +kernel
theorem dX12_eligible_6 : decode cX12_eligible 6 = .ok (.aload_n 0, 1) := by decide +kernel
theorem dX12_eligible_7 : decode cX12_eligible 7 = .ok (.getfield 35, 3) := by decide +kernel
theorem dX12_eligible_10 : decode cX12_eligible 10 = .ok (.getfield 87, 3) := by decide +kernel
theorem dX12_eligible_13 : decode cX12_eligible 13 = .ok (.iconst 1, 1) := by decide +kernel
theorem dX12_eligible_14 : decode cX12_eligible 14 = .ok (.invokevirtual 105, 3) := by decide +kernel
theorem dX12_eligible_17 : decode cX12_eligible 17 = .ok (.invokestatic 309, 3) := by decide +kernel
theorem dX12_eligible_20 : decode cX12_eligible 20 = .ok (.aload_n 0, 1) := by decide +kernel
theorem dX12_eligible_21 : decode cX12_eligible 21 = .ok (.getfield 35, 3) := by decide +kernel
theorem dX12_eligible_24 : decode cX12_eligible 24 = .ok (.iload_n 1, 1) := by decide +kernel
theorem dX12_eligible_25 : decode cX12_eligible 25 = .ok (.invokevirtual 200, 3) := by decide +kernel
theorem dX12_eligible_28 : decode cX12_eligible 28 = .ok (.iconst (-1), 1) := by decide +kernel
theorem dX12_eligible_29 : decode cX12_eligible 29 = .ok (.ixor, 1) := by decide +kernel
theorem dX12_eligible_30 : decode cX12_eligible 30 = .ok (.iand, 1) := by decide +kernel
theorem dX12_eligible_31 : decode cX12_eligible 31 = .ok (.ireturn, 1) := by decide +kernel
theorem hd_X12_eligible : yX12_eligible.cls = RX12 ∧ yX12_eligible.cls ≠ "java/lang/invoke/MethodHandle" ∧ yX12_eligible.cls ≠ "java/lang/invoke/VarHandle" ∧ (parseMethodDescriptor yX12_eligible.desc).map (fun d => d.parameters.length) = some 1 := by decide +kernel
theorem hs_X12_eligible : yX12_eligible.cls ≠ "java/lang/invoke/MethodHandle" ∧ yX12_eligible.cls ≠ "java/lang/invoke/VarHandle" ∧ (parseMethodDescriptor yX12_eligible.desc).map (fun d => d.parameters.length) = some 1 := by decide +kernel
set_option maxHeartbeats 4000000 in
set_option maxRecDepth 100000 in
theorem k_X12_eligible (l : Launch) (hls : l.stackTraces = false) (E : Ev) (K : Kd) (z : Nat) (o : Nat) (a_1 : Int32) (w : Wd) (ho : K o = some (10, 0)) {r : Int32 ⊕ Nat} {w' : Wd} (hf : f_X12_eligible K o a_1 w = some (r, w')) : vx_Met l yX12_eligible (Cond.code yX12_eligible cX12_eligible 2 (Option.some Jvm.ClassFile.FieldType.int) :: bt) ({ frames := 7, cells := 1, slots := 6, locals := 112 } : Room) (va_Pc [rv E (some o), .int a_1] (HB E K w z)) (XI E K z w' r) (XX E K w' r) 1 6 (hA E) := by
  refine vx_ofW (cc := cX12_eligible) (maxL := 2) (ret := (Option.some Jvm.ClassFile.FieldType.int)) (by decide) rfl ?_
  intro p e s m args below meth c s₁ B hml hout hv
  obtain ⟨rfl, hz, hP, hKs, hT, hb0⟩ := hv
  have C : CX p l e s m _ meth c cX12_eligible 2 RX12 (Option.some Jvm.ClassFile.FieldType.int) E := ⟨B.exec, B.bytes, hml, findClass_of_methodNamed B.named, fun w h => atoms_spec (ws := Cond.code yX12_eligible cX12_eligible 2 (Option.some Jvm.ClassFile.FieldType.int) :: bt) B.pre w (List.mem_cons_of_mem _ h), hKs, hT, by rw [hz]; exact hb0, B.notSynchronized, B.returns⟩
  have hH : HQ E K z w s s.heap [] := ⟨hP, va_S.rf, hz⟩
  obtain ⟨hx, hb, hml, hown, hts, hKs, hT, hb0, hlocks, hret⟩ := id C
  have hl := lv_entry [rv E (some o), .int a_1] (n := 2) (by simp [lg_len_nil, lg_len_i, lg_len_j, lg_len_q, lg_len_f, lg_len_d, lg_len_r])
  rw [lg_entry_eq]
  generalize (lg_sl [rv E (some o), .int a_1] ++ List.replicate (2 - (lg_sl [rv E (some o), .int a_1]).length) Slot.unset).toArray = ls at hl ⊢
  replace hl : lv_has ls 2 [(0, rv E (some o)), (1, .int a_1)] := by simpa only [lv_args, cat_q, cat_i, cat_j, reduceIte, Nat.reduceEqDiff, Nat.reduceAdd, Nat.zero_add] using hl
  generalize s.heap = H at hH ⊢
  unfold f_X12_eligible at hf
  refine hl_aload_n hx hb dX12_eligible_0 rfl (lv_at hl 0 rfl) ?_
  refine lv_iconst (v := 3) hx hb dX12_eligible_1 (by decide) ?_
  refine lv_iload_n hx hb dX12_eligible_2 rfl (lv_at hl 1 rfl) ?_
  obtain ⟨q1, hq1, hf⟩ := bnd hf
  refine hxV_v hx hb hml hown hts hKs hT hb0 hH (As := [.int 3, .int a_1]) (rest := []) (k_X12_requireExisting l hls E K H.size o 3 a_1 w ho hq1) (gV m5_90 m5_92 ms_36 m1_1 m5_93) hd_X12_requireExisting ⟨Nat.le_of_ble_eq_true rfl, Nat.le_of_ble_eq_true rfl, rfl, rfl⟩ rfl ho rfl rfl rfl hl.1 rfl rc0 rfl dX12_eligible_3 ⟨Nat.le_of_ble_eq_true rfl, Nat.le_of_ble_eq_true rfl⟩ ⟨Nat.le_of_ble_eq_true rfl, Nat.le_of_ble_eq_true rfl⟩ hout hlocks (fun x hx9 => (fun h9 => ⟨(congrArg Prod.fst h9).symm, (congrArg Prod.snd h9).symm⟩) (Option.some.inj ((xk_inr hx9).symm.trans hf))) (fun v2 hv2 H locs hH => ?_)
  replace hf := (xk_inl hv2).symm.trans hf
  refine hl_aload_n hx hb dX12_eligible_6 rfl (lv_at hl 0 rfl) ?_
  refine g12_5 hx hb hts hown hKs hH rfl ho m2_224 dX12_eligible_7 ?_
  obtain ⟨a3, ha3, hf⟩ := bnd hf
  replace ha3 := chk_some ha3
  refine gn10_0 hx hb hts hown hKs hH ha3.1 ha3.2 m2_122 dX12_eligible_10 ?_
  refine lv_iconst (v := 1) hx hb dX12_eligible_13 (by decide) ?_
  obtain ⟨a4, ha4, hf⟩ := bnd hf
  replace ha4 := chk_some ha4
  obtain ⟨q5, hq5, hf⟩ := bnd hf
  refine hcV_i hx hb hml hown hts hKs hT hb0 hH (As := [.int 1]) (rest := []) (k_X9_size l E K H.size a4 1 q1.2 ha4.2 hq5) (gV m3_229 m3_151 m3_152 m1_2 m3_153) hd_X9_size ⟨Nat.le_of_ble_eq_true rfl, Nat.le_of_ble_eq_true rfl, rfl, rfl⟩ ha4.1 ha4.2 rfl rfl rfl hl.1 rfl rc0 rfl dX12_eligible_14 ⟨Nat.le_of_ble_eq_true rfl, Nat.le_of_ble_eq_true rfl⟩ (fun H locs hH => ?_)
  obtain ⟨q6, hq6, hf⟩ := bnd hf
  refine hcS_i hx hb hml hown hts hKs hT hb0 hH (As := [.int (q5.1)]) (rest := []) (k_X12_allOf l E K H.size q5.1 q5.2 hq6) (gS m6_30 m4_38 m1_1 m4_39) hs_X12_allOf ⟨Nat.le_of_ble_eq_true rfl, Nat.le_of_ble_eq_true rfl, rfl, rfl⟩ hl.1 rfl rc0 rfl dX12_eligible_17 ⟨Nat.le_of_ble_eq_true rfl, Nat.le_of_ble_eq_true rfl⟩ (fun H locs hH => ?_)
  refine hl_aload_n hx hb dX12_eligible_20 rfl (lv_at hl 0 rfl) ?_
  refine g12_5 hx hb hts hown hKs hH rfl ho m2_224 dX12_eligible_21 ?_
  refine lv_iload_n hx hb dX12_eligible_24 rfl (lv_at hl 1 rfl) ?_
  obtain ⟨a7, ha7, hf⟩ := bnd hf
  replace ha7 := chk_some ha7
  obtain ⟨q8, hq8, hf⟩ := bnd hf
  refine hcV_i hx hb hml hown hts hKs hT hb0 hH (As := [.int a_1]) (rest := [.int (q6.1)]) (k_X10_barredOfficers l E K H.size a7 a_1 q6.2 ha7.2 hq8) (gV m5_128 m4_119 m4_120 m1_12 m4_121) hd_X10_barredOfficers ⟨Nat.le_of_ble_eq_true rfl, Nat.le_of_ble_eq_true rfl, rfl, rfl⟩ ha7.1 ha7.2 rfl rfl rfl hl.1 rfl (rcI rc0) rfl dX12_eligible_25 ⟨Nat.le_of_ble_eq_true rfl, Nat.le_of_ble_eq_true rfl⟩ (fun H locs hH => ?_)
  refine lv_iconst (v := (-1)) hx hb dX12_eligible_28 (by decide) ?_
  refine lv_ixor hx hb dX12_eligible_29 ?_
  refine lv_iand hx hb dX12_eligible_30 ?_
  exact hx_iret hx hb (Nat.le_of_ble_eq_true rfl) (Nat.le_of_ble_eq_true rfl) hret hf hH hlocks dX12_eligible_31

theorem dX12_usage_0 : decode cX12_usage 0 = .ok (.aload_n 0, 1) := by decide +kernel
theorem dX12_usage_1 : decode cX12_usage 1 = .ok (.iconst 0, 1) := by decide +kernel
theorem dX12_usage_2 : decode cX12_usage 2 = .ok (.iload_n 1, 1) := by decide +kernel
theorem dX12_usage_3 : decode cX12_usage 3 = .ok (.invokevirtual 175, 3) := by decide +kernel
theorem dX12_usage_6 : decode cX12_usage 6 = .ok (.aload_n 0, 1) := by decide +kernel
theorem dX12_usage_7 : decode cX12_usage 7 = .ok (.iload_n 2, 1) := by decide +kernel
theorem dX12_usage_8 : decode cX12_usage 8 = .ok (.iload_n 3, 1) := by decide +kernel
theorem dX12_usage_9 : decode cX12_usage 9 = .ok (.invokevirtual 161, 3) := by decide +kernel
theorem dX12_usage_12 : decode cX12_usage 12 = .ok (.aload_n 0, 1) := by decide +kernel
theorem dX12_usage_13 : decode cX12_usage 13 = .ok (.getfield 35, 3) := by decide +kernel
theorem dX12_usage_16 : decode cX12_usage 16 = .ok (.getfield 87, 3) := by decide +kernel
theorem dX12_usage_19 : decode cX12_usage 19 = .ok (.getfield 316, 3) := by decide +kernel
theorem dX12_usage_22 : decode cX12_usage 22 = .ok (.iload_n 1, 1) := by decide +kernel
theorem dX12_usage_23 : decode cX12_usage 23 = .ok (.iaload, 1) := by decide +kernel
theorem dX12_usage_24 : decode cX12_usage 24 = .ok (.invokestatic 248, 3) := by decide +kernel
theorem dX12_usage_27 : decode cX12_usage 27 = .ok (.aload_n 0, 1) := by decide +kernel
theorem dX12_usage_28 : decode cX12_usage 28 = .ok (.getfield 35, 3) := by decide +kernel
theorem dX12_usage_31 : decode cX12_usage 31 = .ok (.iload_n 2, 1) := by decide +kernel
theorem dX12_usage_32 : decode cX12_usage 32 = .ok (.iload_n 3, 1) := by decide +kernel
theorem dX12_usage_33 : decode cX12_usage 33 = .ok (.invokevirtual 165, 3) := by decide +kernel
theorem dX12_usage_36 : decode cX12_usage 36 = .ok (.imul, 1) := by decide +kernel
theorem dX12_usage_37 : decode cX12_usage 37 = .ok (.istore 4, 2) := by decide +kernel
theorem dX12_usage_39 : decode cX12_usage 39 = .ok (.iload 4, 2) := by decide +kernel
theorem dX12_usage_41 : decode cX12_usage 41 = .ok (.ifCond .ne 7, 3) := by decide +kernel
theorem dX12_usage_44 : decode cX12_usage 44 = .ok (.fconst 0, 1) := by decide +kernel
theorem dX12_usage_45 : decode cX12_usage 45 = .ok (.goto 18, 3) := by decide +kernel
theorem dX12_usage_48 : decode cX12_usage 48 = .ok (.aload_n 0, 1) := by decide +kernel
theorem dX12_usage_49 : decode cX12_usage 49 = .ok (.getfield 35, 3) := by decide +kernel
theorem dX12_usage_52 : decode cX12_usage 52 = .ok (.iload_n 1, 1) := by decide +kernel
theorem dX12_usage_53 : decode cX12_usage 53 = .ok (.iload_n 2, 1) := by decide +kernel
theorem dX12_usage_54 : decode cX12_usage 54 = .ok (.iload_n 3, 1) := by decide +kernel
theorem dX12_usage_55 : decode cX12_usage 55 = .ok (.invokevirtual 319, 3) := by decide +kernel
theorem dX12_usage_58 : decode cX12_usage 58 = .ok (.i2f, 1) := by decide +kernel
theorem dX12_usage_59 : decode cX12_usage 59 = .ok (.iload 4, 2) := by decide +kernel
theorem dX12_usage_61 : decode cX12_usage 61 = .ok (.i2f, 1) := by decide +kernel
theorem dX12_usage_62 : decode cX12_usage 62 = .ok (.fdiv, 1) := by decide +kernel
theorem dX12_usage_63 : decode cX12_usage 63 = .ok (.freturn, 1) := by decide +kernel
theorem hd_X12_usage : yX12_usage.cls = RX12 ∧ yX12_usage.cls ≠ "java/lang/invoke/MethodHandle" ∧ yX12_usage.cls ≠ "java/lang/invoke/VarHandle" ∧ (parseMethodDescriptor yX12_usage.desc).map (fun d => d.parameters.length) = some 3 := by decide +kernel
theorem hs_X12_usage : yX12_usage.cls ≠ "java/lang/invoke/MethodHandle" ∧ yX12_usage.cls ≠ "java/lang/invoke/VarHandle" ∧ (parseMethodDescriptor yX12_usage.desc).map (fun d => d.parameters.length) = some 3 := by decide +kernel
set_option maxHeartbeats 4000000 in
set_option maxRecDepth 100000 in
theorem k_X12_usage (l : Launch) (hls : l.stackTraces = false) (E : Ev) (K : Kd) (z : Nat) (o : Nat) (a_1 : Int32) (a_2 : Int32) (a_3 : Int32) (w : Wd) (ho : K o = some (10, 0)) {r : UInt32 ⊕ Nat} {w' : Wd} (hf : f_X12_usage K o a_1 a_2 a_3 w = some (r, w')) : vx_Met l yX12_usage (Cond.code yX12_usage cX12_usage 5 (Option.some Jvm.ClassFile.FieldType.float) :: bt) ({ frames := 7, cells := 2, slots := 12, locals := 112 } : Room) (va_Pc [rv E (some o), .int a_1, .int a_2, .int a_3] (HB E K w z)) (XF E K z w' r) (XX E K w' r) 2 12 (hA E) := by
  refine vx_ofW (cc := cX12_usage) (maxL := 5) (ret := (Option.some Jvm.ClassFile.FieldType.float)) (by decide) rfl ?_
  intro p e s m args below meth c s₁ B hml hout hv
  obtain ⟨rfl, hz, hP, hKs, hT, hb0⟩ := hv
  have C : CX p l e s m _ meth c cX12_usage 5 RX12 (Option.some Jvm.ClassFile.FieldType.float) E := ⟨B.exec, B.bytes, hml, findClass_of_methodNamed B.named, fun w h => atoms_spec (ws := Cond.code yX12_usage cX12_usage 5 (Option.some Jvm.ClassFile.FieldType.float) :: bt) B.pre w (List.mem_cons_of_mem _ h), hKs, hT, by rw [hz]; exact hb0, B.notSynchronized, B.returns⟩
  have hH : HQ E K z w s s.heap [] := ⟨hP, va_S.rf, hz⟩
  obtain ⟨hx, hb, hml, hown, hts, hKs, hT, hb0, hlocks, hret⟩ := id C
  have hl := lv_entry [rv E (some o), .int a_1, .int a_2, .int a_3] (n := 5) (by simp [lg_len_nil, lg_len_i, lg_len_j, lg_len_q, lg_len_f, lg_len_d, lg_len_r])
  rw [lg_entry_eq]
  generalize (lg_sl [rv E (some o), .int a_1, .int a_2, .int a_3] ++ List.replicate (5 - (lg_sl [rv E (some o), .int a_1, .int a_2, .int a_3]).length) Slot.unset).toArray = ls at hl ⊢
  replace hl : lv_has ls 5 [(0, rv E (some o)), (1, .int a_1), (2, .int a_2), (3, .int a_3)] := by simpa only [lv_args, cat_q, cat_i, cat_j, reduceIte, Nat.reduceEqDiff, Nat.reduceAdd, Nat.zero_add] using hl
  generalize s.heap = H at hH ⊢
  unfold f_X12_usage at hf
  refine hl_aload_n hx hb dX12_usage_0 rfl (lv_at hl 0 rfl) ?_
  refine lv_iconst (v := 0) hx hb dX12_usage_1 (by decide) ?_
  refine lv_iload_n hx hb dX12_usage_2 rfl (lv_at hl 1 rfl) ?_
  obtain ⟨q1, hq1, hf⟩ := bnd hf
  refine hxV_v hx hb hml hown hts hKs hT hb0 hH (As := [.int 0, .int a_1]) (rest := []) (k_X12_requireExisting l hls E K H.size o 0 a_1 w ho hq1) (gV m5_90 m5_92 ms_36 m1_1 m5_93) hd_X12_requireExisting ⟨Nat.le_of_ble_eq_true rfl, Nat.le_of_ble_eq_true rfl, rfl, rfl⟩ rfl ho rfl rfl rfl hl.1 rfl rc0 rfl dX12_usage_3 ⟨Nat.le_of_ble_eq_true rfl, Nat.le_of_ble_eq_true rfl⟩ ⟨Nat.le_of_ble_eq_true rfl, Nat.le_of_ble_eq_true rfl⟩ hout hlocks (fun x hx9 => (fun h9 => ⟨(congrArg Prod.fst h9).symm, (congrArg Prod.snd h9).symm⟩) (Option.some.inj ((xk_inr hx9).symm.trans hf))) (fun v2 hv2 H locs hH => ?_)
  replace hf := (xk_inl hv2).symm.trans hf
  refine hl_aload_n hx hb dX12_usage_6 rfl (lv_at hl 0 rfl) ?_
  refine lv_iload_n hx hb dX12_usage_7 rfl (lv_at hl 2 rfl) ?_
  refine lv_iload_n hx hb dX12_usage_8 rfl (lv_at hl 3 rfl) ?_
  obtain ⟨q3, hq3, hf⟩ := bnd hf
  refine hxV_v hx hb hml hown hts hKs hT hb0 hH (As := [.int a_2, .int a_3]) (rest := []) (k_X12_requireSpan l hls E K H.size o a_2 a_3 q1.2 ho hq3) (gV m5_66 m5_68 ms_34 m1_1 m5_69) hd_X12_requireSpan ⟨Nat.le_of_ble_eq_true rfl, Nat.le_of_ble_eq_true rfl, rfl, rfl⟩ rfl ho rfl rfl rfl hl.1 rfl rc0 rfl dX12_usage_9 ⟨Nat.le_of_ble_eq_true rfl, Nat.le_of_ble_eq_true rfl⟩ ⟨Nat.le_of_ble_eq_true rfl, Nat.le_of_ble_eq_true rfl⟩ hout hlocks (fun x hx9 => (fun h9 => ⟨(congrArg Prod.fst h9).symm, (congrArg Prod.snd h9).symm⟩) (Option.some.inj ((xk_inr hx9).symm.trans hf))) (fun v4 hv4 H locs hH => ?_)
  replace hf := (xk_inl hv4).symm.trans hf
  refine hl_aload_n hx hb dX12_usage_12 rfl (lv_at hl 0 rfl) ?_
  refine g12_5 hx hb hts hown hKs hH rfl ho m2_224 dX12_usage_13 ?_
  obtain ⟨a5, ha5, hf⟩ := bnd hf
  replace ha5 := chk_some ha5
  refine gn10_0 hx hb hts hown hKs hH ha5.1 ha5.2 m2_122 dX12_usage_16 ?_
  obtain ⟨a6, ha6, hf⟩ := bnd hf
  replace ha6 := chk_some ha6
  refine gn9_1 hx hb hts hown hKs hH ha6.1 ha6.2 m1_156 dX12_usage_19 ?_
  refine lv_iload_n hx hb dX12_usage_22 rfl (lv_at hl 1 rfl) ?_
  obtain ⟨a7, ha7, hf⟩ := bnd hf
  replace ha7 := cha_some ha7
  obtain ⟨j8, hj8, hf⟩ := bnd hf
  refine hw_iald hx hb hKs hH ha7.1 ha7.2 hj8 dX12_usage_23 ?_
  obtain ⟨q9, hq9, hf⟩ := bnd hf
  refine hcS_i hx hb hml hown hts hKs hT hb0 hH (As := [.int ((aI q3.2 a7.1 j8))]) (rest := []) (k_J6_bitCount_0f7a4 l E K H.size (aI q3.2 a7.1 j8) q3.2 hq9) (gS m5_146 m4_8 m1_23 m4_9) hs_J6_bitCount_0f7a4 ⟨Nat.le_of_ble_eq_true rfl, Nat.le_of_ble_eq_true rfl, rfl, rfl⟩ hl.1 rfl rc0 rfl dX12_usage_24 ⟨Nat.le_of_ble_eq_true rfl, Nat.le_of_ble_eq_true rfl⟩ (fun H locs hH => ?_)
  refine hl_aload_n hx hb dX12_usage_27 rfl (lv_at hl 0 rfl) ?_
  refine g12_5 hx hb hts hown hKs hH rfl ho m2_224 dX12_usage_28 ?_
  refine lv_iload_n hx hb dX12_usage_31 rfl (lv_at hl 2 rfl) ?_
  refine lv_iload_n hx hb dX12_usage_32 rfl (lv_at hl 3 rfl) ?_
  obtain ⟨a10, ha10, hf⟩ := bnd hf
  replace ha10 := chk_some ha10
  obtain ⟨q11, hq11, hf⟩ := bnd hf
  refine hcV_i hx hb hml hown hts hKs hT hb0 hH (As := [.int a_2, .int a_3]) (rest := [.int (q9.1)]) (k_X10_countWorking l E K H.size a10 a_2 a_3 q9.2 ha10.2 hq11) (gV m5_70 m4_75 m4_76 m1_12 m4_77) hd_X10_countWorking ⟨Nat.le_of_ble_eq_true rfl, Nat.le_of_ble_eq_true rfl, rfl, rfl⟩ ha10.1 ha10.2 rfl rfl rfl hl.1 rfl (rcI rc0) rfl dX12_usage_33 ⟨Nat.le_of_ble_eq_true rfl, Nat.le_of_ble_eq_true rfl⟩ (fun H locs hH => ?_)
  refine lv_imul hx hb dX12_usage_36 ?_
  refine lv_istore (i := 4) (lv' := [(4, .int ((q9.1 * q11.1))), (0, rv E (some o)), (1, .int a_1), (2, .int a_2), (3, .int a_3)]) hx hb dX12_usage_37 hl (by decide) rfl (fun ls hl => ?_)
  refine lv_iload hx hb dX12_usage_39 (lv_at hl 0 rfl) ?_
  refine lv_if_ne (tgt := 48) hx hb dX12_usage_41 (by decide) (fun c12 => ?_) (fun c12 => ?_)
  · replace hf := (if_neg c12).symm.trans hf
    refine hl_aload_n hx hb dX12_usage_48 rfl (lv_at hl 1 rfl) ?_
    refine g12_5 hx hb hts hown hKs hH rfl ho m2_224 dX12_usage_49 ?_
    refine lv_iload_n hx hb dX12_usage_52 rfl (lv_at hl 2 rfl) ?_
    refine lv_iload_n hx hb dX12_usage_53 rfl (lv_at hl 3 rfl) ?_
    refine lv_iload_n hx hb dX12_usage_54 rfl (lv_at hl 4 rfl) ?_
    obtain ⟨a13, ha13, hf⟩ := bnd hf
    replace ha13 := chk_some ha13
    obtain ⟨q14, hq14, hf⟩ := bnd hf
    refine hcV_i hx hb hml hown hts hKs hT hb0 hH (As := [.int a_1, .int a_2, .int a_3]) (rest := []) (k_X10_countTaken l E K H.size a13 a_1 a_2 a_3 q11.2 ha13.2 hq14) (gV m6_38 m6_39 m6_40 m1_12 m6_41) hd_X10_countTaken ⟨Nat.le_of_ble_eq_true rfl, Nat.le_of_ble_eq_true rfl, rfl, rfl⟩ ha13.1 ha13.2 rfl rfl rfl hl.1 rfl rc0 rfl dX12_usage_55 ⟨Nat.le_of_ble_eq_true rfl, Nat.le_of_ble_eq_true rfl⟩ (fun H locs hH => ?_)
    refine lv_i2f hx hb dX12_usage_58 ?_
    refine lv_iload hx hb dX12_usage_59 (lv_at hl 0 rfl) ?_
    refine lv_i2f hx hb dX12_usage_61 ?_
    obtain ⟨_, hg15, hf⟩ := bnd hf
    refine lv_fdiv hx hb dX12_usage_62 (n32_ok (grd_some hg15)) ?_
    exact hx_fret hx hb (Nat.le_of_ble_eq_true rfl) (Nat.le_of_ble_eq_true rfl) hret hf hH hlocks dX12_usage_63
  · replace hf := (if_pos c12).symm.trans hf
    refine lv_fconst0 hx hb dX12_usage_44 ?_
    refine lv_goto (tgt := 63) hx hb dX12_usage_45 (by decide) ?_
    exact hx_fret hx hb (Nat.le_of_ble_eq_true rfl) (Nat.le_of_ble_eq_true rfl) hret hf hH hlocks dX12_usage_63

theorem dX12_pass_0 : decode cX12_pass 0 = .ok (.aload_n 0, 1) := by decide +kernel
theorem dX12_pass_1 : decode cX12_pass 1 = .ok (.iload_n 1, 1) := by decide +kernel
theorem dX12_pass_2 : decode cX12_pass 2 = .ok (.invokevirtual 322, 3) := by decide +kernel
theorem dX12_pass_5 : decode cX12_pass 5 = .ok (.aload_n 0, 1) := by decide +kernel
theorem dX12_pass_6 : decode cX12_pass 6 = .ok (.invokevirtual 325, 3) := by decide +kernel
theorem dX12_pass_9 : decode cX12_pass 9 = .ok (.aload_n 0, 1) := by decide +kernel
theorem dX12_pass_10 : decode cX12_pass 10 = .ok (.getfield 35, 3) := by decide +kernel
theorem dX12_pass_13 : decode cX12_pass 13 = .ok (.iload_n 1, 1) := by decide +kernel
theorem dX12_pass_14 : decode cX12_pass 14 = .ok (.invokevirtual 328, 3) := by decide +kernel
theorem dX12_pass_17 : decode cX12_pass 17 = .ok (.ireturn, 1) := by decide +kernel
theorem hd_X12_pass : yX12_pass.cls = RX12 ∧ yX12_pass.cls ≠ "java/lang/invoke/MethodHandle" ∧ yX12_pass.cls ≠ "java/lang/invoke/VarHandle" ∧ (parseMethodDescriptor yX12_pass.desc).map (fun d => d.parameters.length) = some 1 := by decide +kernel
theorem hs_X12_pass : yX12_pass.cls ≠ "java/lang/invoke/MethodHandle" ∧ yX12_pass.cls ≠ "java/lang/invoke/VarHandle" ∧ (parseMethodDescriptor yX12_pass.desc).map (fun d => d.parameters.length) = some 1 := by decide +kernel
set_option maxHeartbeats 4000000 in
set_option maxRecDepth 100000 in
theorem k_X12_pass (l : Launch) (hls : l.stackTraces = false) (E : Ev) (K : Kd) (z : Nat) (o : Nat) (a_1 : Int32) (w : Wd) (ho : K o = some (10, 0)) {r : Int32 ⊕ Nat} {w' : Wd} (hf : f_X12_pass K o a_1 w = some (r, w')) : vx_Met l yX12_pass (Cond.code yX12_pass cX12_pass 2 (Option.some Jvm.ClassFile.FieldType.int) :: bt) ({ frames := 7, cells := 1, slots := 6, locals := 125 } : Room) (va_Pc [rv E (some o), .int a_1] (HB E K w z)) (XI E K z w' r) (XX E K w' r) 1 6 (hA E) := by
  refine vx_ofW (cc := cX12_pass) (maxL := 2) (ret := (Option.some Jvm.ClassFile.FieldType.int)) (by decide) rfl ?_
  intro p e s m args below meth c s₁ B hml hout hv
  obtain ⟨rfl, hz, hP, hKs, hT, hb0⟩ := hv
  have C : CX p l e s m _ meth c cX12_pass 2 RX12 (Option.some Jvm.ClassFile.FieldType.int) E := ⟨B.exec, B.bytes, hml, findClass_of_methodNamed B.named, fun w h => atoms_spec (ws := Cond.code yX12_pass cX12_pass 2 (Option.some Jvm.ClassFile.FieldType.int) :: bt) B.pre w (List.mem_cons_of_mem _ h), hKs, hT, by rw [hz]; exact hb0, B.notSynchronized, B.returns⟩
  have hH : HQ E K z w s s.heap [] := ⟨hP, va_S.rf, hz⟩
  obtain ⟨hx, hb, hml, hown, hts, hKs, hT, hb0, hlocks, hret⟩ := id C
  have hl := lv_entry [rv E (some o), .int a_1] (n := 2) (by simp [lg_len_nil, lg_len_i, lg_len_j, lg_len_q, lg_len_f, lg_len_d, lg_len_r])
  rw [lg_entry_eq]
  generalize (lg_sl [rv E (some o), .int a_1] ++ List.replicate (2 - (lg_sl [rv E (some o), .int a_1]).length) Slot.unset).toArray = ls at hl ⊢
  replace hl : lv_has ls 2 [(0, rv E (some o)), (1, .int a_1)] := by simpa only [lv_args, cat_q, cat_i, cat_j, reduceIte, Nat.reduceEqDiff, Nat.reduceAdd, Nat.zero_add] using hl
  generalize s.heap = H at hH ⊢
  unfold f_X12_pass at hf
  refine hl_aload_n hx hb dX12_pass_0 rfl (lv_at hl 0 rfl) ?_
  refine lv_iload_n hx hb dX12_pass_1 rfl (lv_at hl 1 rfl) ?_
  obtain ⟨q1, hq1, hf⟩ := bnd hf
  refine hxV_v hx hb hml hown hts hKs hT hb0 hH (As := [.int a_1]) (rest := []) (k_X12_requirePassable l hls E K H.size o a_1 w ho hq1) (gV m6_49 m6_51 ms_40 m1_1 m6_52) hd_X12_requirePassable ⟨Nat.le_of_ble_eq_true rfl, Nat.le_of_ble_eq_true rfl, rfl, rfl⟩ rfl ho rfl rfl rfl hl.1 rfl rc0 rfl dX12_pass_2 ⟨Nat.le_of_ble_eq_true rfl, Nat.le_of_ble_eq_true rfl⟩ ⟨Nat.le_of_ble_eq_true rfl, Nat.le_of_ble_eq_true rfl⟩ hout hlocks (fun x hx9 => (fun h9 => ⟨(congrArg Prod.fst h9).symm, (congrArg Prod.snd h9).symm⟩) (Option.some.inj ((xk_inr hx9).symm.trans hf))) (fun v2 hv2 H locs hH => ?_)
  replace hf := (xk_inl hv2).symm.trans hf
  refine hl_aload_n hx hb dX12_pass_5 rfl (lv_at hl 0 rfl) ?_
  obtain ⟨q3, hq3, hf⟩ := bnd hf
  refine hcV_v hx hb hml hown hts hKs hT hb0 hH (As := []) (rest := []) (k_X12_remember l E K H.size o q1.2 ho hq3) (gV m4_82 m4_84 ms_23 m1_1 m4_85) hd_X12_remember ⟨Nat.le_of_ble_eq_true rfl, Nat.le_of_ble_eq_true rfl, rfl, rfl⟩ rfl ho rfl rfl rfl hl.1 rfl rc0 rfl dX12_pass_6 ⟨Nat.le_of_ble_eq_true rfl, Nat.le_of_ble_eq_true rfl⟩ (fun H locs hH => ?_)
  refine hl_aload_n hx hb dX12_pass_9 rfl (lv_at hl 0 rfl) ?_
  refine g12_5 hx hb hts hown hKs hH rfl ho m2_224 dX12_pass_10 ?_
  refine lv_iload_n hx hb dX12_pass_13 rfl (lv_at hl 1 rfl) ?_
  obtain ⟨a4, ha4, hf⟩ := bnd hf
  replace ha4 := chk_some ha4
  obtain ⟨q5, hq5, hf⟩ := bnd hf
  refine hcV_i hx hb hml hown hts hKs hT hb0 hH (As := [.int a_1]) (rest := []) (k_X10_passDays l E K H.size a4 a_1 q3 ha4.2 hq5) (gV m6_53 m6_54 m6_55 m1_12 m6_56) hd_X10_passDays ⟨Nat.le_of_ble_eq_true rfl, Nat.le_of_ble_eq_true rfl, rfl, rfl⟩ ha4.1 ha4.2 rfl rfl rfl hl.1 rfl rc0 rfl dX12_pass_14 ⟨Nat.le_of_ble_eq_true rfl, Nat.le_of_ble_eq_true rfl⟩ (fun H locs hH => ?_)
  exact hx_iret hx hb (Nat.le_of_ble_eq_true rfl) (Nat.le_of_ble_eq_true rfl) hret hf hH hlocks dX12_pass_17

theorem dX12_adjourn_0 : decode cX12_adjourn 0 = .ok (.aload_n 0, 1) := by decide +kernel
theorem dX12_adjourn_1 : decode cX12_adjourn 1 = .ok (.iconst 3, 1) := by decide +kernel
theorem dX12_adjourn_2 : decode cX12_adjourn 2 = .ok (.iload_n 1, 1) := by decide +kernel
theorem dX12_adjourn_3 : decode cX12_adjourn 3 = .ok (.invokevirtual 175, 3) := by decide +kernel
theorem dX12_adjourn_6 : decode cX12_adjourn 6 = .ok (.aload_n 0, 1) := by decide +kernel
theorem dX12_adjourn_7 : decode cX12_adjourn 7 = .ok (.iload_n 2, 1) := by decide +kernel
theorem dX12_adjourn_8 : decode cX12_adjourn 8 = .ok (.invokevirtual 169, 3) := by decide +kernel
theorem dX12_adjourn_11 : decode cX12_adjourn 11 = .ok (.aload_n 0, 1) := by decide +kernel
theorem dX12_adjourn_12 : decode cX12_adjourn 12 = .ok (.getfield 35, 3) := by decide +kernel
theorem dX12_adjourn_15 : decode cX12_adjourn 15 = .ok (.getfield 213, 3) := by decide +kernel
theorem dX12_adjourn_18 : decode cX12_adjourn 18 = .ok (.iload_n 1, 1) := by decide +kernel
theorem dX12_adjourn_19 : decode cX12_adjourn 19 = .ok (.aaload, 1) := by decide +kernel
theorem dX12_adjourn_20 : decode cX12_adjourn 20 = .ok (.astore_n 3, 1) := by decide +kernel
theorem dX12_adjourn_21 : decode cX12_adjourn 21 = .ok (.aload_n 3, 1) := by decide +kernel
theorem dX12_adjourn_22 : decode cX12_adjourn 22 = .ok (.getfield 236, 3) := by decide +kernel
theorem dX12_adjourn_25 : decode cX12_adjourn 25 = .ok (.iconst 1, 1) := by decide +kernel
theorem dX12_adjourn_26 : decode cX12_adjourn 26 = .ok (.if_icmp .ne 11, 3) := by decide +kernel
theorem dX12_adjourn_29 : decode cX12_adjourn 29 = .ok (.aload_n 3, 1) := by decide +kernel
theorem dX12_adjourn_30 : decode cX12_adjourn 30 = .ok (.getfield 242, 3) := by decide +kernel
theorem dX12_adjourn_33 : decode cX12_adjourn 33 = .ok (.iconst 5, 1) := by decide +kernel
theorem dX12_adjourn_34 : decode cX12_adjourn 34 = .ok (.if_icmp .lt 11, 3) := by decide +kernel
theorem dX12_adjourn_37 : decode cX12_adjourn 37 = .ok (.new 331, 3) := by decide +kernel
theorem dX12_adjourn_40 : decode cX12_adjourn 40 = .ok (.dup, 1) := by decide +kernel
theorem dX12_adjourn_41 : decode cX12_adjourn 41 = .ok (.invokespecial 333, 3) := by decide +kernel
theorem dX12_adjourn_44 : decode cX12_adjourn 44 = .ok (.athrow, 1) := by decide +kernel
theorem dX12_adjourn_45 : decode cX12_adjourn 45 = .ok (.aload_n 0, 1) := by decide +kernel
theorem dX12_adjourn_46 : decode cX12_adjourn 46 = .ok (.invokevirtual 325, 3) := by decide +kernel
theorem dX12_adjourn_49 : decode cX12_adjourn 49 = .ok (.aload_n 0, 1) := by decide +kernel
theorem dX12_adjourn_50 : decode cX12_adjourn 50 = .ok (.getfield 35, 3) := by decide +kernel
theorem dX12_adjourn_53 : decode cX12_adjourn 53 = .ok (.iload_n 1, 1) := by decide +kernel
theorem dX12_adjourn_54 : decode cX12_adjourn 54 = .ok (.iload_n 2, 1) := by decide +kernel
theorem dX12_adjourn_55 : decode cX12_adjourn 55 = .ok (.invokevirtual 345, 3) := by decide +kernel
theorem dX12_adjourn_58 : decode cX12_adjourn 58 = .ok (.aload_n 0, 1) := by decide +kernel
theorem dX12_adjourn_59 : decode cX12_adjourn 59 = .ok (.getfield 35, 3) := by decide +kernel
theorem dX12_adjourn_62 : decode cX12_adjourn 62 = .ok (.iload_n 1, 1) := by decide +kernel
theorem dX12_adjourn_63 : decode cX12_adjourn 63 = .ok (.invokevirtual 233, 3) := by decide +kernel
theorem dX12_adjourn_66 : decode cX12_adjourn 66 = .ok (.ireturn, 1) := by decide +kernel
theorem hd_X12_adjourn : yX12_adjourn.cls = RX12 ∧ yX12_adjourn.cls ≠ "java/lang/invoke/MethodHandle" ∧ yX12_adjourn.cls ≠ "java/lang/invoke/VarHandle" ∧ (parseMethodDescriptor yX12_adjourn.desc).map (fun d => d.parameters.length) = some 2 := by decide +kernel
theorem hs_X12_adjourn : yX12_adjourn.cls ≠ "java/lang/invoke/MethodHandle" ∧ yX12_adjourn.cls ≠ "java/lang/invoke/VarHandle" ∧ (parseMethodDescriptor yX12_adjourn.desc).map (fun d => d.parameters.length) = some 2 := by decide +kernel
set_option maxHeartbeats 4000000 in
set_option maxRecDepth 100000 in
theorem k_X12_adjourn (l : Launch) (hls : l.stackTraces = false) (E : Ev) (K : Kd) (z : Nat) (o : Nat) (a_1 : Int32) (a_2 : Int32) (w : Wd) (ho : K o = some (10, 0)) {r : Int32 ⊕ Nat} {w' : Wd} (hf : f_X12_adjourn K o a_1 a_2 w = some (r, w')) : vx_Met l yX12_adjourn (Cond.code yX12_adjourn cX12_adjourn 4 (Option.some Jvm.ClassFile.FieldType.int) :: bt) ({ frames := 7, cells := 3, slots := 18, locals := 125 } : Room) (va_Pc [rv E (some o), .int a_1, .int a_2] (HB E K w z)) (XI E K z w' r) (XX E K w' r) 3 18 (hA E) := by
  refine vx_ofW (cc := cX12_adjourn) (maxL := 4) (ret := (Option.some Jvm.ClassFile.FieldType.int)) (by decide) rfl ?_
  intro p e s m args below meth c s₁ B hml hout hv
  obtain ⟨rfl, hz, hP, hKs, hT, hb0⟩ := hv
  have C : CX p l e s m _ meth c cX12_adjourn 4 RX12 (Option.some Jvm.ClassFile.FieldType.int) E := ⟨B.exec, B.bytes, hml, findClass_of_methodNamed B.named, fun w h => atoms_spec (ws := Cond.code yX12_adjourn cX12_adjourn 4 (Option.some Jvm.ClassFile.FieldType.int) :: bt) B.pre w (List.mem_cons_of_mem _ h), hKs, hT, by rw [hz]; exact hb0, B.notSynchronized, B.returns⟩
  have hH : HQ E K z w s s.heap [] := ⟨hP, va_S.rf, hz⟩
  obtain ⟨hx, hb, hml, hown, hts, hKs, hT, hb0, hlocks, hret⟩ := id C
  have hl := lv_entry [rv E (some o), .int a_1, .int a_2] (n := 4) (by simp [lg_len_nil, lg_len_i, lg_len_j, lg_len_q, lg_len_f, lg_len_d, lg_len_r])
  rw [lg_entry_eq]
  generalize (lg_sl [rv E (some o), .int a_1, .int a_2] ++ List.replicate (4 - (lg_sl [rv E (some o), .int a_1, .int a_2]).length) Slot.unset).toArray = ls at hl ⊢
  replace hl : lv_has ls 4 [(0, rv E (some o)), (1, .int a_1), (2, .int a_2)] := by simpa only [lv_args, cat_q, cat_i, cat_j, reduceIte, Nat.reduceEqDiff, Nat.reduceAdd, Nat.zero_add] using hl
  generalize s.heap = H at hH ⊢
  unfold f_X12_adjourn at hf
  refine hl_aload_n hx hb dX12_adjourn_0 rfl (lv_at hl 0 rfl) ?_
  refine lv_iconst (v := 3) hx hb dX12_adjourn_1 (by decide) ?_
  refine lv_iload_n hx hb dX12_adjourn_2 rfl (lv_at hl 1 rfl) ?_
  obtain ⟨q1, hq1, hf⟩ := bnd hf
  refine hxV_v hx hb hml hown hts hKs hT hb0 hH (As := [.int 3, .int a_1]) (rest := []) (k_X12_requireExisting l hls E K H.size o 3 a_1 w ho hq1) (gV m5_90 m5_92 ms_36 m1_1 m5_93) hd_X12_requireExisting ⟨Nat.le_of_ble_eq_true rfl, Nat.le_of_ble_eq_true rfl, rfl, rfl⟩ rfl ho rfl rfl rfl hl.1 rfl rc0 rfl dX12_adjourn_3 ⟨Nat.le_of_ble_eq_true rfl, Nat.le_of_ble_eq_true rfl⟩ ⟨Nat.le_of_ble_eq_true rfl, Nat.le_of_ble_eq_true rfl⟩ hout hlocks (fun x hx9 => (fun h9 => ⟨(congrArg Prod.fst h9).symm, (congrArg Prod.snd h9).symm⟩) (Option.some.inj ((xk_inr hx9).symm.trans hf))) (fun v2 hv2 H locs hH => ?_)
  replace hf := (xk_inl hv2).symm.trans hf
  refine hl_aload_n hx hb dX12_adjourn_6 rfl (lv_at hl 0 rfl) ?_
  refine lv_iload_n hx hb dX12_adjourn_7 rfl (lv_at hl 2 rfl) ?_
  obtain ⟨q3, hq3, hf⟩ := bnd hf
  refine hxV_v hx hb hml hown hts hKs hT hb0 hH (As := [.int a_2]) (rest := []) (k_X12_requireReason l hls E K H.size o a_2 q1.2 ho hq3) (gV m5_78 m5_80 ms_35 m1_1 m5_81) hd_X12_requireReason ⟨Nat.le_of_ble_eq_true rfl, Nat.le_of_ble_eq_true rfl, rfl, rfl⟩ rfl ho rfl rfl rfl hl.1 rfl rc0 rfl dX12_adjourn_8 ⟨Nat.le_of_ble_eq_true rfl, Nat.le_of_ble_eq_true rfl⟩ ⟨Nat.le_of_ble_eq_true rfl, Nat.le_of_ble_eq_true rfl⟩ hout hlocks (fun x hx9 => (fun h9 => ⟨(congrArg Prod.fst h9).symm, (congrArg Prod.snd h9).symm⟩) (Option.some.inj ((xk_inr hx9).symm.trans hf))) (fun v4 hv4 H locs hH => ?_)
  replace hf := (xk_inl hv4).symm.trans hf
  refine hl_aload_n hx hb dX12_adjourn_11 rfl (lv_at hl 0 rfl) ?_
  refine g12_5 hx hb hts hown hKs hH rfl ho m2_224 dX12_adjourn_12 ?_
  obtain ⟨a5, ha5, hf⟩ := bnd hf
  replace ha5 := chk_some ha5
  refine gn10_5 hx hb hts hown hKs hH ha5.1 ha5.2 m2_135 dX12_adjourn_15 ?_
  refine lv_iload_n hx hb dX12_adjourn_18 rfl (lv_at hl 1 rfl) ?_
  obtain ⟨a6, ha6, hf⟩ := bnd hf
  replace ha6 := cha_some ha6
  obtain ⟨j7, hj7, hf⟩ := bnd hf
  refine hw_aald27 hx hb hKs hH ha6.1 ha6.2 hj7 dX12_adjourn_19 ?_
  refine hl_astore_n (i := 3) (lv' := [(3, rv E (aR q3.2 a6.1 j7)), (0, rv E (some o)), (1, .int a_1), (2, .int a_2)]) hx hb dX12_adjourn_20 rfl hl (by decide) rfl (fun ls hl => ?_)
  refine hl_aload_n hx hb dX12_adjourn_21 rfl (lv_at hl 0 rfl) ?_
  obtain ⟨a8, ha8, hf⟩ := bnd hf
  replace ha8 := chk_some ha8
  refine gn7_0 hx hb hts hown hKs hH ha8.1 ha8.2 m2_71 dX12_adjourn_22 ?_
  refine lv_iconst (v := 1) hx hb dX12_adjourn_25 (by decide) ?_
  refine lv_icmp_ne (tgt := 37) hx hb dX12_adjourn_26 (by decide) (fun c9 => ?_) (fun c9 => ?_)
  · replace hf := (if_neg c9).symm.trans hf
    exact hx_throw hx hb hls (code := 3) hml hl.1 hown hts hKs hT hb0 hH (by decide) rfl m5_194 m1_29 hat_RX12_333 dX12_adjourn_37 dX12_adjourn_40 dX12_adjourn_41 dX12_adjourn_44 hout (Nat.le_of_ble_eq_true rfl) rc0 (Nat.le_of_ble_eq_true rfl) (Nat.le_of_ble_eq_true rfl) (Nat.le_of_ble_eq_true rfl) hlocks hf (Nat.le_of_ble_eq_true rfl) (Nat.le_of_ble_eq_true rfl)
  · replace hf := (if_pos c9).symm.trans hf
    refine hl_aload_n hx hb dX12_adjourn_29 rfl (lv_at hl 0 rfl) ?_
    refine gn7_6 hx hb hts hown hKs hH ha8.1 ha8.2 m2_90 dX12_adjourn_30 ?_
    refine lv_iconst (v := 5) hx hb dX12_adjourn_33 (by decide) ?_
    refine lv_icmp_lt (tgt := 45) hx hb dX12_adjourn_34 (by decide) (fun c10 => ?_) (fun c10 => ?_)
    · replace hf := (if_pos c10).symm.trans hf
      refine hl_aload_n hx hb dX12_adjourn_45 rfl (lv_at hl 1 rfl) ?_
      obtain ⟨q11, hq11, hf⟩ := bnd hf
      refine hcV_v hx hb hml hown hts hKs hT hb0 hH (As := []) (rest := []) (k_X12_remember l E K H.size o q3.2 ho hq11) (gV m4_82 m4_84 ms_23 m1_1 m4_85) hd_X12_remember ⟨Nat.le_of_ble_eq_true rfl, Nat.le_of_ble_eq_true rfl, rfl, rfl⟩ rfl ho rfl rfl rfl hl.1 rfl rc0 rfl dX12_adjourn_46 ⟨Nat.le_of_ble_eq_true rfl, Nat.le_of_ble_eq_true rfl⟩ (fun H locs hH => ?_)
      refine hl_aload_n hx hb dX12_adjourn_49 rfl (lv_at hl 1 rfl) ?_
      refine g12_5 hx hb hts hown hKs hH rfl ho m2_224 dX12_adjourn_50 ?_
      refine lv_iload_n hx hb dX12_adjourn_53 rfl (lv_at hl 2 rfl) ?_
      refine lv_iload_n hx hb dX12_adjourn_54 rfl (lv_at hl 3 rfl) ?_
      obtain ⟨a12, ha12, hf⟩ := bnd hf
      replace ha12 := chk_some ha12
      obtain ⟨q13, hq13, hf⟩ := bnd hf
      refine hcV_v hx hb hml hown hts hKs hT hb0 hH (As := [.int a_1, .int a_2]) (rest := []) (k_X10_takeAway l E K H.size a12 a_1 a_2 q11 ha12.2 hq13) (gV m6_80 m6_81 m6_82 m1_12 m6_83) hd_X10_takeAway ⟨Nat.le_of_ble_eq_true rfl, Nat.le_of_ble_eq_true rfl, rfl, rfl⟩ ha12.1 ha12.2 rfl rfl rfl hl.1 rfl rc0 rfl dX12_adjourn_55 ⟨Nat.le_of_ble_eq_true rfl, Nat.le_of_ble_eq_true rfl⟩ (fun H locs hH => ?_)
      refine hl_aload_n hx hb dX12_adjourn_58 rfl (lv_at hl 1 rfl) ?_
      refine g12_5 hx hb hts hown hKs hH rfl ho m2_224 dX12_adjourn_59 ?_
      refine lv_iload_n hx hb dX12_adjourn_62 rfl (lv_at hl 2 rfl) ?_
      obtain ⟨a14, ha14, hf⟩ := bnd hf
      replace ha14 := chk_some ha14
      obtain ⟨q15, hq15, hf⟩ := bnd hf
      refine hcV_i hx hb hml hown hts hKs hT hb0 hH (As := [.int a_1]) (rest := []) (k_X10_limitDay l E K H.size a14 a_1 q13 ha14.2 hq15) (gV m5_145 m4_66 m4_67 m1_12 m4_68) hd_X10_limitDay ⟨Nat.le_of_ble_eq_true rfl, Nat.le_of_ble_eq_true rfl, rfl, rfl⟩ ha14.1 ha14.2 rfl rfl rfl hl.1 rfl rc0 rfl dX12_adjourn_63 ⟨Nat.le_of_ble_eq_true rfl, Nat.le_of_ble_eq_true rfl⟩ (fun H locs hH => ?_)
      exact hx_iret hx hb (Nat.le_of_ble_eq_true rfl) (Nat.le_of_ble_eq_true rfl) hret hf hH hlocks dX12_adjourn_66
    · replace hf := (if_neg c10).symm.trans hf
      exact hx_throw hx hb hls (code := 3) hml hl.1 hown hts hKs hT hb0 hH (by decide) rfl m5_194 m1_29 hat_RX12_333 dX12_adjourn_37 dX12_adjourn_40 dX12_adjourn_41 dX12_adjourn_44 hout (Nat.le_of_ble_eq_true rfl) rc0 (Nat.le_of_ble_eq_true rfl) (Nat.le_of_ble_eq_true rfl) (Nat.le_of_ble_eq_true rfl) hlocks hf (Nat.le_of_ble_eq_true rfl) (Nat.le_of_ble_eq_true rfl)

theorem dX12_withdraw_0 : decode cX12_withdraw 0 = .ok (.aload_n 0, 1) := by decide +kernel
theorem dX12_withdraw_1 : decode cX12_withdraw 1 = .ok (.iconst 2, 1) := by decide +kernel
theorem dX12_withdraw_2 : decode cX12_withdraw 2 = .ok (.iload_n 1, 1) := by decide +kernel
theorem dX12_withdraw_3 : decode cX12_withdraw 3 = .ok (.invokevirtual 175, 3) := by decide +kernel
theorem dX12_withdraw_6 : decode cX12_withdraw 6 = .ok (.aload_n 0, 1) := by decide +kernel
theorem dX12_withdraw_7 : decode cX12_withdraw 7 = .ok (.iload_n 2, 1) := by decide +kernel
theorem dX12_withdraw_8 : decode cX12_withdraw 8 = .ok (.invokevirtual 348, 3) := by decide +kernel
theorem dX12_withdraw_11 : decode cX12_withdraw 11 = .ok (.aload_n 0, 1) := by decide +kernel
theorem dX12_withdraw_12 : decode cX12_withdraw 12 = .ok (.invokevirtual 325, 3) := by decide +kernel
theorem dX12_withdraw_15 : decode cX12_withdraw 15 = .ok (.aload_n 0, 1) := by decide +kernel
theorem dX12_withdraw_16 : decode cX12_withdraw 16 = .ok (.getfield 35, 3) := by decide +kernel
theorem dX12_withdraw_19 : decode cX12_withdraw 19 = .ok (.getfield 181, 3) := by decide +kernel
theorem dX12_withdraw_22 : decode cX12_withdraw 22 = .ok (.iload_n 1, 1) := by decide +kernel
theorem dX12_withdraw_23 : decode cX12_withdraw 23 = .ok (.aload_n 0, 1) := by decide +kernel
theorem dX12_withdraw_24 : decode cX12_withdraw 24 = .ok (.getfield 35, 3) := by decide +kernel
theorem dX12_withdraw_27 : decode cX12_withdraw 27 = .ok (.getfield 181, 3) := by decide +kernel
theorem dX12_withdraw_30 : decode cX12_withdraw 30 = .ok (.iload_n 1, 1) := by decide +kernel
theorem dX12_withdraw_31 : decode cX12_withdraw 31 = .ok (.iaload, 1) := by decide +kernel
theorem dX12_withdraw_32 : decode cX12_withdraw 32 = .ok (.iload_n 2, 1) := by decide +kernel
theorem dX12_withdraw_33 : decode cX12_withdraw 33 = .ok (.iconst 1, 1) := by decide +kernel
theorem dX12_withdraw_34 : decode cX12_withdraw 34 = .ok (.isub, 1) := by decide +kernel
theorem dX12_withdraw_35 : decode cX12_withdraw 35 = .ok (.invokestatic 351, 3) := by decide +kernel
theorem dX12_withdraw_38 : decode cX12_withdraw 38 = .ok (.iastore, 1) := by decide +kernel
theorem dX12_withdraw_39 : decode cX12_withdraw 39 = .ok (.iconst 0, 1) := by decide +kernel
theorem dX12_withdraw_40 : decode cX12_withdraw 40 = .ok (.istore_n 3, 1) := by decide +kernel
theorem dX12_withdraw_41 : decode cX12_withdraw 41 = .ok (.iconst 0, 1) := by decide +kernel
theorem dX12_withdraw_42 : decode cX12_withdraw 42 = .ok (.istore 4, 2) := by decide +kernel
theorem dX12_withdraw_44 : decode cX12_withdraw 44 = .ok (.iload 4, 2) := by decide +kernel
theorem dX12_withdraw_46 : decode cX12_withdraw 46 = .ok (.aload_n 0, 1) := by decide +kernel
theorem dX12_withdraw_47 : decode cX12_withdraw 47 = .ok (.getfield 35, 3) := by decide +kernel
theorem dX12_withdraw_50 : decode cX12_withdraw 50 = .ok (.getfield 87, 3) := by decide +kernel
theorem dX12_withdraw_53 : decode cX12_withdraw 53 = .ok (.iconst 3, 1) := by decide +kernel
theorem dX12_withdraw_54 : decode cX12_withdraw 54 = .ok (.invokevirtual 105, 3) := by decide +kernel
theorem dX12_withdraw_57 : decode cX12_withdraw 57 = .ok (.if_icmp .ge 79, 3) := by decide +kernel
theorem dX12_withdraw_60 : decode cX12_withdraw 60 = .ok (.aload_n 0, 1) := by decide +kernel
theorem dX12_withdraw_61 : decode cX12_withdraw 61 = .ok (.getfield 35, 3) := by decide +kernel
theorem dX12_withdraw_64 : decode cX12_withdraw 64 = .ok (.getfield 213, 3) := by decide +kernel
theorem dX12_withdraw_67 : decode cX12_withdraw 67 = .ok (.iload 4, 2) := by decide +kernel
theorem dX12_withdraw_69 : decode cX12_withdraw 69 = .ok (.aaload, 1) := by decide +kernel
theorem dX12_withdraw_70 : decode cX12_withdraw 70 = .ok (.astore 5, 2) := by decide +kernel
theorem dX12_withdraw_72 : decode cX12_withdraw 72 = .ok (.aload_n 0, 1) := by decide +kernel
theorem dX12_withdraw_73 : decode cX12_withdraw 73 = .ok (.getfield 35, 3) := by decide +kernel
theorem dX12_withdraw_76 : decode cX12_withdraw 76 = .ok (.getfield 87, 3) := by decide +kernel
theorem dX12_withdraw_79 : decode cX12_withdraw 79 = .ok (.getfield 209, 3) := by decide +kernel
theorem dX12_withdraw_82 : decode cX12_withdraw 82 = .ok (.iload 4, 2) := by decide +kernel
theorem dX12_withdraw_84 : decode cX12_withdraw 84 = .ok (.aaload, 1) := by decide +kernel
theorem dX12_withdraw_85 : decode cX12_withdraw 85 = .ok (.getfield 245, 3) := by decide +kernel
theorem dX12_withdraw_88 : decode cX12_withdraw 88 = .ok (.iload_n 1, 1) := by decide +kernel
theorem dX12_withdraw_89 : decode cX12_withdraw 89 = .ok (.invokestatic 203, 3) := by decide +kernel
theorem dX12_withdraw_92 : decode cX12_withdraw 92 = .ok (.istore 6, 2) := by decide +kernel
theorem dX12_withdraw_94 : decode cX12_withdraw 94 = .ok (.aload 5, 2) := by decide +kernel
theorem dX12_withdraw_96 : decode cX12_withdraw 96 = .ok (.getfield 236, 3) := by decide +kernel
theorem dX12_withdraw_99 : decode cX12_withdraw 99 = .ok (.iconst 1, 1) := by decide +kernel
theorem dX12_withdraw_100 : decode cX12_withdraw 100 = .ok (.if_icmp .ne 30, 3) := by decide +kernel
theorem dX12_withdraw_103 : decode cX12_withdraw 103 = .ok (.aload 5, 2) := by decide +kernel
theorem dX12_withdraw_105 : decode cX12_withdraw 105 = .ok (.getfield 256, 3) := by decide +kernel
theorem dX12_withdraw_108 : decode cX12_withdraw 108 = .ok (.iload_n 2, 1) := by decide +kernel
theorem dX12_withdraw_109 : decode cX12_withdraw 109 = .ok (.if_icmp .lt 21, 3) := by decide +kernel
theorem dX12_withdraw_112 : decode cX12_withdraw 112 = .ok (.iload 6, 2) := by decide +kernel
theorem dX12_withdraw_114 : decode cX12_withdraw 114 = .ok (.ifCond .eq 16, 3) := by decide +kernel
theorem dX12_withdraw_117 : decode cX12_withdraw 117 = .ok (.aload_n 0, 1) := by decide +kernel
theorem dX12_withdraw_118 : decode cX12_withdraw 118 = .ok (.getfield 35, 3) := by decide +kernel
theorem dX12_withdraw_121 : decode cX12_withdraw 121 = .ok (.iload 4, 2) := by decide +kernel
theorem dX12_withdraw_123 : decode cX12_withdraw 123 = .ok (.iconst 0, 1) := by decide +kernel
theorem dX12_withdraw_124 : decode cX12_withdraw 124 = .ok (.invokevirtual 345, 3) := by decide +kernel
theorem dX12_withdraw_127 : decode cX12_withdraw 127 = .ok (.iinc 3 1, 3) := by decide +kernel
theorem dX12_withdraw_130 : decode cX12_withdraw 130 = .ok (.iinc 4 1, 3) := by decide +kernel
theorem dX12_withdraw_133 : decode cX12_withdraw 133 = .ok (.goto (-89), 3) := by decide +kernel
theorem dX12_withdraw_136 : decode cX12_withdraw 136 = .ok (.iload_n 3, 1) := by decide +kernel
theorem dX12_withdraw_137 : decode cX12_withdraw 137 = .ok (.ireturn, 1) := by decide +kernel
theorem hd_X12_withdraw : yX12_withdraw.cls = RX12 ∧ yX12_withdraw.cls ≠ "java/lang/invoke/MethodHandle" ∧ yX12_withdraw.cls ≠ "java/lang/invoke/VarHandle" ∧ (parseMethodDescriptor yX12_withdraw.desc).map (fun d => d.parameters.length) = some 2 := by decide +kernel
theorem hs_X12_withdraw : yX12_withdraw.cls ≠ "java/lang/invoke/MethodHandle" ∧ yX12_withdraw.cls ≠ "java/lang/invoke/VarHandle" ∧ (parseMethodDescriptor yX12_withdraw.desc).map (fun d => d.parameters.length) = some 2 := by decide +kernel
set_option maxHeartbeats 4000000 in
set_option maxRecDepth 100000 in
theorem l_X12_withdraw_L44 (C : CX p l e s m args meth c cX12_withdraw 7 RX12 (Option.some Jvm.ClassFile.FieldType.int) E) {o : Nat} (ho : K o = some (10, 0)) {r : Int32 ⊕ Nat} {w' : Wd} (k : Int32 → Int32 → Int32 → Int32 → Wd → Option ((Int32 ⊕ Nat) × Wd)) (hk : ∀ (v1_44 : Int32) (v2_44 : Int32) (v3_44 : Int32) (v4_44 : Int32) (w : Wd) (H : Heap) (locs : List Loc) (ls : Array Slot), HQ E K z w s H locs → lv_has ls 7 [(1, .int v1_44), (2, .int v2_44), (3, .int v3_44), (4, .int v4_44), (0, rv E (some o))] → k v1_44 v2_44 v3_44 v4_44 w = some (r, w') → W p l e ({ frames := 7, cells := 2, slots := 12, locals := 125 } : Room) s m args below meth c H locs 2 12 (vx_MQ below (XI E K z w' r) (XX E K w' r) args s 2 12 (hA E)) (F0 m 136 ls [])) : ∀ (n : Nat) (v1_44 : Int32) (v2_44 : Int32) (v3_44 : Int32) (v4_44 : Int32) (w : Wd) (H : Heap) (locs : List Loc) (ls : Array Slot), HQ E K z w s H locs → lv_has ls 7 [(1, .int v1_44), (2, .int v2_44), (3, .int v3_44), (4, .int v4_44), (0, rv E (some o))] → f_X12_withdraw_L44 K o k n v1_44 v2_44 v3_44 v4_44 w = some (r, w') → W p l e ({ frames := 7, cells := 2, slots := 12, locals := 125 } : Room) s m args below meth c H locs 2 12 (vx_MQ below (XI E K z w' r) (XX E K w' r) args s 2 12 (hA E)) (F0 m 44 ls []) := by
  obtain ⟨hx, hb, hml, hown, hts, hKs, hT, hb0, hlocks, hret⟩ := id C
  intro n
  induction n with
  | zero =>
    intro v1_44 v2_44 v3_44 v4_44 w H locs ls hH hl hf
    cases hf
  | succ n ih =>
    intro v1_44 v2_44 v3_44 v4_44 w H locs ls hH hl hf
    rw [f_X12_withdraw_L44] at hf
    refine lv_iload hx hb dX12_withdraw_44 (lv_at hl 3 rfl) ?_
    refine hl_aload_n hx hb dX12_withdraw_46 rfl (lv_at hl 4 rfl) ?_
    refine g12_5 hx hb hts hown hKs hH rfl ho m2_224 dX12_withdraw_47 ?_
    obtain ⟨a12, ha12, hf⟩ := bnd hf
    replace ha12 := chk_some ha12
    refine gn10_0 hx hb hts hown hKs hH ha12.1 ha12.2 m2_122 dX12_withdraw_50 ?_
    refine lv_iconst (v := 3) hx hb dX12_withdraw_53 (by decide) ?_
    obtain ⟨a13, ha13, hf⟩ := bnd hf
    replace ha13 := chk_some ha13
    obtain ⟨q14, hq14, hf⟩ := bnd hf
    refine hcV_i hx hb hml hown hts hKs hT hb0 hH (As := [.int 3]) (rest := [.int v4_44]) (k_X9_size l E K H.size a13 3 w ha13.2 hq14) (gV m3_229 m3_151 m3_152 m1_2 m3_153) hd_X9_size ⟨Nat.le_of_ble_eq_true rfl, Nat.le_of_ble_eq_true rfl, rfl, rfl⟩ ha13.1 ha13.2 rfl rfl rfl hl.1 rfl (rcI rc0) rfl dX12_withdraw_54 ⟨Nat.le_of_ble_eq_true rfl, Nat.le_of_ble_eq_true rfl⟩ (fun H locs hH => ?_)
    refine lv_icmp_ge (tgt := 136) hx hb dX12_withdraw_57 (by decide) (fun c15 => ?_) (fun c15 => ?_)
    · replace hf := (if_pos c15).symm.trans hf
      exact hk v1_44 v2_44 v3_44 v4_44 _ _ _ _ hH (lv_sub hl [0, 1, 2, 3, 4] rfl) hf
    · replace hf := (if_neg c15).symm.trans hf
      refine hl_aload_n hx hb dX12_withdraw_60 rfl (lv_at hl 4 rfl) ?_
      refine g12_5 hx hb hts hown hKs hH rfl ho m2_224 dX12_withdraw_61 ?_
      obtain ⟨a16, ha16, hf⟩ := bnd hf
      replace ha16 := chk_some ha16
      refine gn10_5 hx hb hts hown hKs hH ha16.1 ha16.2 m2_135 dX12_withdraw_64 ?_
      refine lv_iload hx hb dX12_withdraw_67 (lv_at hl 3 rfl) ?_
      obtain ⟨a17, ha17, hf⟩ := bnd hf
      replace ha17 := cha_some ha17
      obtain ⟨j18, hj18, hf⟩ := bnd hf
      refine hw_aald27 hx hb hKs hH ha17.1 ha17.2 hj18 dX12_withdraw_69 ?_
      refine hl_astore (i := 5) (lv' := [(5, rv E (aR q14.2 a17.1 j18)), (1, .int v1_44), (2, .int v2_44), (3, .int v3_44), (4, .int v4_44), (0, rv E (some o))]) hx hb dX12_withdraw_70 hl (by decide) rfl (fun ls hl => ?_)
      refine hl_aload_n hx hb dX12_withdraw_72 rfl (lv_at hl 5 rfl) ?_
      refine g12_5 hx hb hts hown hKs hH rfl ho m2_224 dX12_withdraw_73 ?_
      refine gn10_0 hx hb hts hown hKs hH ha16.1 ha16.2 m2_122 dX12_withdraw_76 ?_
      obtain ⟨a19, ha19, hf⟩ := bnd hf
      replace ha19 := chk_some ha19
      refine gn9_9 hx hb hts hown hKs hH ha19.1 ha19.2 m1_180 dX12_withdraw_79 ?_
      refine lv_iload hx hb dX12_withdraw_82 (lv_at hl 4 rfl) ?_
      obtain ⟨a20, ha20, hf⟩ := bnd hf
      replace ha20 := cha_some ha20
      obtain ⟨j21, hj21, hf⟩ := bnd hf
      refine hw_aald25 hx hb hKs hH ha20.1 ha20.2 hj21 dX12_withdraw_84 ?_
      obtain ⟨a22, ha22, hf⟩ := bnd hf
      replace ha22 := chk_some ha22
      refine gn3_4 hx hb hts hown hKs hH ha22.1 ha22.2 m1_109 dX12_withdraw_85 ?_
      refine lv_iload_n hx hb dX12_withdraw_88 rfl (lv_at hl 1 rfl) ?_
      obtain ⟨q23, hq23, hf⟩ := bnd hf
      refine hcS_i hx hb hml hown hts hKs hT hb0 hH (As := [.int ((wI q14.2 304 a22)), .int v1_44]) (rest := []) (k_X12_has l E K H.size (wI q14.2 304 a22) v1_44 q14.2 hq23) (gS m5_129 m3_194 m1_1 m3_195) hs_X12_has ⟨Nat.le_of_ble_eq_true rfl, Nat.le_of_ble_eq_true rfl, rfl, rfl⟩ hl.1 rfl rc0 rfl dX12_withdraw_89 ⟨Nat.le_of_ble_eq_true rfl, Nat.le_of_ble_eq_true rfl⟩ (fun H locs hH => ?_)
      refine lv_istore (i := 6) (lv' := [(6, .int (b2i q23.1)), (5, rv E (aR q14.2 a17.1 j18)), (1, .int v1_44), (2, .int v2_44), (3, .int v3_44), (4, .int v4_44), (0, rv E (some o))]) hx hb dX12_withdraw_92 hl (by decide) (by simp [List.filter_cons, cat_q, cat_i, cat_j, imax, imin]) (fun ls hl => ?_)
      refine hl_aload hx hb dX12_withdraw_94 (lv_at hl 1 rfl) ?_
      obtain ⟨a24, ha24, hf⟩ := bnd hf
      replace ha24 := chk_some ha24
      refine gn7_0 hx hb hts hown hKs hH ha24.1 ha24.2 m2_71 dX12_withdraw_96 ?_
      refine lv_iconst (v := 1) hx hb dX12_withdraw_99 (by decide) ?_
      refine lv_icmp_ne (tgt := 130) hx hb dX12_withdraw_100 (by decide) (fun c25 => ?_) (fun c25 => ?_)
      · replace hf := (if_neg c25).symm.trans hf
        refine lv_iinc (v := (v4_44 + 1)) (lv' := [(4, .int ((v4_44 + 1))), (6, .int (b2i q23.1)), (5, rv E (aR q14.2 a17.1 j18)), (1, .int v1_44), (2, .int v2_44), (3, .int v3_44), (0, rv E (some o))]) hx hb dX12_withdraw_130 hl (k := 5) rfl rfl (by decide) rfl (fun ls hl => ?_)
        refine lv_goto (tgt := 44) hx hb dX12_withdraw_133 (by decide) ?_
        exact ih v1_44 v2_44 v3_44 (v4_44 + 1) _ _ _ _ hH (lv_sub hl [3, 4, 5, 0, 6] rfl) hf
      · replace hf := (if_pos c25).symm.trans hf
        refine hl_aload hx hb dX12_withdraw_103 (lv_at hl 1 rfl) ?_
        refine gn7_2 hx hb hts hown hKs hH ha24.1 ha24.2 m2_77 dX12_withdraw_105 ?_
        refine lv_iload_n hx hb dX12_withdraw_108 rfl (lv_at hl 3 rfl) ?_
        refine lv_icmp_lt (tgt := 130) hx hb dX12_withdraw_109 (by decide) (fun c26 => ?_) (fun c26 => ?_)
        · replace hf := (if_pos c26).symm.trans hf
          refine lv_iinc (v := (v4_44 + 1)) (lv' := [(4, .int ((v4_44 + 1))), (6, .int (b2i q23.1)), (5, rv E (aR q14.2 a17.1 j18)), (1, .int v1_44), (2, .int v2_44), (3, .int v3_44), (0, rv E (some o))]) hx hb dX12_withdraw_130 hl (k := 5) rfl rfl (by decide) rfl (fun ls hl => ?_)
          refine lv_goto (tgt := 44) hx hb dX12_withdraw_133 (by decide) ?_
          exact ih v1_44 v2_44 v3_44 (v4_44 + 1) _ _ _ _ hH (lv_sub hl [3, 4, 5, 0, 6] rfl) hf
        · replace hf := (if_neg c26).symm.trans hf
          refine lv_iload hx hb dX12_withdraw_112 (lv_at hl 0 rfl) ?_
          refine lv_if_eq (tgt := 130) hx hb dX12_withdraw_114 (by decide) (fun c27 => ?_) (fun c27 => ?_)
          · replace hf := (if_pos c27).symm.trans hf
            refine lv_iinc (v := (v4_44 + 1)) (lv' := [(4, .int ((v4_44 + 1))), (6, .int (b2i q23.1)), (5, rv E (aR q14.2 a17.1 j18)), (1, .int v1_44), (2, .int v2_44), (3, .int v3_44), (0, rv E (some o))]) hx hb dX12_withdraw_130 hl (k := 5) rfl rfl (by decide) rfl (fun ls hl => ?_)
            refine lv_goto (tgt := 44) hx hb dX12_withdraw_133 (by decide) ?_
            exact ih v1_44 v2_44 v3_44 (v4_44 + 1) _ _ _ _ hH (lv_sub hl [3, 4, 5, 0, 6] rfl) hf
          · replace hf := (if_neg c27).symm.trans hf
            refine hl_aload_n hx hb dX12_withdraw_117 rfl (lv_at hl 6 rfl) ?_
            refine g12_5 hx hb hts hown hKs hH rfl ho m2_224 dX12_withdraw_118 ?_
            refine lv_iload hx hb dX12_withdraw_121 (lv_at hl 5 rfl) ?_
            refine lv_iconst (v := 0) hx hb dX12_withdraw_123 (by decide) ?_
            obtain ⟨a28, ha28, hf⟩ := bnd hf
            replace ha28 := chk_some ha28
            obtain ⟨q29, hq29, hf⟩ := bnd hf
            refine hcV_v hx hb hml hown hts hKs hT hb0 hH (As := [.int v4_44, .int 0]) (rest := []) (k_X10_takeAway l E K H.size a28 v4_44 0 q23.2 ha28.2 hq29) (gV m6_80 m6_81 m6_82 m1_12 m6_83) hd_X10_takeAway ⟨Nat.le_of_ble_eq_true rfl, Nat.le_of_ble_eq_true rfl, rfl, rfl⟩ ha28.1 ha28.2 rfl rfl rfl hl.1 rfl rc0 rfl dX12_withdraw_124 ⟨Nat.le_of_ble_eq_true rfl, Nat.le_of_ble_eq_true rfl⟩ (fun H locs hH => ?_)
            refine lv_iinc (v := (v3_44 + 1)) (lv' := [(3, .int ((v3_44 + 1))), (6, .int (b2i q23.1)), (5, rv E (aR q14.2 a17.1 j18)), (1, .int v1_44), (2, .int v2_44), (4, .int v4_44), (0, rv E (some o))]) hx hb dX12_withdraw_127 hl (k := 4) rfl rfl (by decide) rfl (fun ls hl => ?_)
            refine lv_iinc (v := (v4_44 + 1)) (lv' := [(4, .int ((v4_44 + 1))), (3, .int ((v3_44 + 1))), (6, .int (b2i q23.1)), (5, rv E (aR q14.2 a17.1 j18)), (1, .int v1_44), (2, .int v2_44), (0, rv E (some o))]) hx hb dX12_withdraw_130 hl (k := 5) rfl rfl (by decide) rfl (fun ls hl => ?_)
            refine lv_goto (tgt := 44) hx hb dX12_withdraw_133 (by decide) ?_
            exact ih v1_44 v2_44 (v3_44 + 1) (v4_44 + 1) _ _ _ _ hH (lv_sub hl [4, 5, 1, 0, 6] rfl) hf
set_option maxHeartbeats 4000000 in
set_option maxRecDepth 100000 in
theorem k_X12_withdraw (l : Launch) (hls : l.stackTraces = false) (E : Ev) (K : Kd) (z : Nat) (o : Nat) (a_1 : Int32) (a_2 : Int32) (w : Wd) (ho : K o = some (10, 0)) {r : Int32 ⊕ Nat} {w' : Wd} (hf : f_X12_withdraw K o a_1 a_2 w = some (r, w')) : vx_Met l yX12_withdraw (Cond.code yX12_withdraw cX12_withdraw 7 (Option.some Jvm.ClassFile.FieldType.int) :: bt) ({ frames := 7, cells := 2, slots := 12, locals := 125 } : Room) (va_Pc [rv E (some o), .int a_1, .int a_2] (HB E K w z)) (XI E K z w' r) (XX E K w' r) 2 12 (hA E) := by
  refine vx_ofW (cc := cX12_withdraw) (maxL := 7) (ret := (Option.some Jvm.ClassFile.FieldType.int)) (by decide) rfl ?_
  intro p e s m args below meth c s₁ B hml hout hv
  obtain ⟨rfl, hz, hP, hKs, hT, hb0⟩ := hv
  have C : CX p l e s m _ meth c cX12_withdraw 7 RX12 (Option.some Jvm.ClassFile.FieldType.int) E := ⟨B.exec, B.bytes, hml, findClass_of_methodNamed B.named, fun w h => atoms_spec (ws := Cond.code yX12_withdraw cX12_withdraw 7 (Option.some Jvm.ClassFile.FieldType.int) :: bt) B.pre w (List.mem_cons_of_mem _ h), hKs, hT, by rw [hz]; exact hb0, B.notSynchronized, B.returns⟩
  have hH : HQ E K z w s s.heap [] := ⟨hP, va_S.rf, hz⟩
  obtain ⟨hx, hb, hml, hown, hts, hKs, hT, hb0, hlocks, hret⟩ := id C
  have hl := lv_entry [rv E (some o), .int a_1, .int a_2] (n := 7) (by simp [lg_len_nil, lg_len_i, lg_len_j, lg_len_q, lg_len_f, lg_len_d, lg_len_r])
  rw [lg_entry_eq]
  generalize (lg_sl [rv E (some o), .int a_1, .int a_2] ++ List.replicate (7 - (lg_sl [rv E (some o), .int a_1, .int a_2]).length) Slot.unset).toArray = ls at hl ⊢
  replace hl : lv_has ls 7 [(0, rv E (some o)), (1, .int a_1), (2, .int a_2)] := by simpa only [lv_args, cat_q, cat_i, cat_j, reduceIte, Nat.reduceEqDiff, Nat.reduceAdd, Nat.zero_add] using hl
  generalize s.heap = H at hH ⊢
  unfold f_X12_withdraw at hf
  refine hl_aload_n hx hb dX12_withdraw_0 rfl (lv_at hl 0 rfl) ?_
  refine lv_iconst (v := 2) hx hb dX12_withdraw_1 (by decide) ?_
  refine lv_iload_n hx hb dX12_withdraw_2 rfl (lv_at hl 1 rfl) ?_
  obtain ⟨q1, hq1, hf⟩ := bnd hf
  refine hxV_v hx hb hml hown hts hKs hT hb0 hH (As := [.int 2, .int a_1]) (rest := []) (k_X12_requireExisting l hls E K H.size o 2 a_1 w ho hq1) (gV m5_90 m5_92 ms_36 m1_1 m5_93) hd_X12_requireExisting ⟨Nat.le_of_ble_eq_true rfl, Nat.le_of_ble_eq_true rfl, rfl, rfl⟩ rfl ho rfl rfl rfl hl.1 rfl rc0 rfl dX12_withdraw_3 ⟨Nat.le_of_ble_eq_true rfl, Nat.le_of_ble_eq_true rfl⟩ ⟨Nat.le_of_ble_eq_true rfl, Nat.le_of_ble_eq_true rfl⟩ hout hlocks (fun x hx9 => (fun h9 => ⟨(congrArg Prod.fst h9).symm, (congrArg Prod.snd h9).symm⟩) (Option.some.inj ((xk_inr hx9).symm.trans hf))) (fun v2 hv2 H locs hH => ?_)
  replace hf := (xk_inl hv2).symm.trans hf
  refine hl_aload_n hx hb dX12_withdraw_6 rfl (lv_at hl 0 rfl) ?_
  refine lv_iload_n hx hb dX12_withdraw_7 rfl (lv_at hl 2 rfl) ?_
  obtain ⟨q3, hq3, hf⟩ := bnd hf
  refine hxV_v hx hb hml hown hts hKs hT hb0 hH (As := [.int a_2]) (rest := []) (k_X12_requireComingDay l hls E K H.size o a_2 q1.2 ho hq3) (gV m6_97 m6_99 ms_41 m1_1 m6_100) hd_X12_requireComingDay ⟨Nat.le_of_ble_eq_true rfl, Nat.le_of_ble_eq_true rfl, rfl, rfl⟩ rfl ho rfl rfl rfl hl.1 rfl rc0 rfl dX12_withdraw_8 ⟨Nat.le_of_ble_eq_true rfl, Nat.le_of_ble_eq_true rfl⟩ ⟨Nat.le_of_ble_eq_true rfl, Nat.le_of_ble_eq_true rfl⟩ hout hlocks (fun x hx9 => (fun h9 => ⟨(congrArg Prod.fst h9).symm, (congrArg Prod.snd h9).symm⟩) (Option.some.inj ((xk_inr hx9).symm.trans hf))) (fun v4 hv4 H locs hH => ?_)
  replace hf := (xk_inl hv4).symm.trans hf
  refine hl_aload_n hx hb dX12_withdraw_11 rfl (lv_at hl 0 rfl) ?_
  obtain ⟨q5, hq5, hf⟩ := bnd hf
  refine hcV_v hx hb hml hown hts hKs hT hb0 hH (As := []) (rest := []) (k_X12_remember l E K H.size o q3.2 ho hq5) (gV m4_82 m4_84 ms_23 m1_1 m4_85) hd_X12_remember ⟨Nat.le_of_ble_eq_true rfl, Nat.le_of_ble_eq_true rfl, rfl, rfl⟩ rfl ho rfl rfl rfl hl.1 rfl rc0 rfl dX12_withdraw_12 ⟨Nat.le_of_ble_eq_true rfl, Nat.le_of_ble_eq_true rfl⟩ (fun H locs hH => ?_)
  refine hl_aload_n hx hb dX12_withdraw_15 rfl (lv_at hl 0 rfl) ?_
  refine g12_5 hx hb hts hown hKs hH rfl ho m2_224 dX12_withdraw_16 ?_
  obtain ⟨a6, ha6, hf⟩ := bnd hf
  replace ha6 := chk_some ha6
  refine gn10_3 hx hb hts hown hKs hH ha6.1 ha6.2 m2_129 dX12_withdraw_19 ?_
  refine lv_iload_n hx hb dX12_withdraw_22 rfl (lv_at hl 1 rfl) ?_
  refine hl_aload_n hx hb dX12_withdraw_23 rfl (lv_at hl 0 rfl) ?_
  refine g12_5 hx hb hts hown hKs hH rfl ho m2_224 dX12_withdraw_24 ?_
  refine gn10_3 hx hb hts hown hKs hH ha6.1 ha6.2 m2_129 dX12_withdraw_27 ?_
  refine lv_iload_n hx hb dX12_withdraw_30 rfl (lv_at hl 1 rfl) ?_
  obtain ⟨a7, ha7, hf⟩ := bnd hf
  replace ha7 := cha_some ha7
  obtain ⟨j8, hj8, hf⟩ := bnd hf
  refine hw_iald hx hb hKs hH ha7.1 ha7.2 hj8 dX12_withdraw_31 ?_
  refine lv_iload_n hx hb dX12_withdraw_32 rfl (lv_at hl 2 rfl) ?_
  refine lv_iconst (v := 1) hx hb dX12_withdraw_33 (by decide) ?_
  refine lv_isub hx hb dX12_withdraw_34 ?_
  refine va_mmin hx hb (hml.trans hl.1.symm) hown (hts _ m6_101) (hts _ m3_54) (hts _ m1_5) (hts _ m3_55) (Nat.le_of_ble_eq_true rfl) (Nat.le_trans (Nat.add_le_add_right (show rc 8 [.int a_1, rv E (wR q5 1003 a6)] from (rcI (rcV rc0))) 13) (Nat.le_of_ble_eq_true rfl)) (Nat.le_of_ble_eq_true rfl) (Nat.le_of_ble_eq_true rfl) dX12_withdraw_35 ?_
  obtain ⟨j9, hj9, hf⟩ := bnd hf
  obtain ⟨w10, hw10, hf⟩ := bnd hf
  replace hw10 := Option.some.inj hw10
  refine hw_iast (x := (imin (aI q5 a7.1 j8) (a_2 - 1))) hx hb hKs hH ha7.1 ha7.2 hj9 dX12_withdraw_38 (fun H locs hH => ?_)
  rw [hw10] at hH
  refine lv_iconst (v := 0) hx hb dX12_withdraw_39 (by decide) ?_
  refine lv_istore_n (i := 3) (lv' := [(3, .int 0), (0, rv E (some o)), (1, .int a_1), (2, .int a_2)]) hx hb dX12_withdraw_40 rfl hl (by decide) rfl (fun ls hl => ?_)
  refine lv_iconst (v := 0) hx hb dX12_withdraw_41 (by decide) ?_
  refine lv_istore (i := 4) (lv' := [(4, .int 0), (3, .int 0), (0, rv E (some o)), (1, .int a_1), (2, .int a_2)]) hx hb dX12_withdraw_42 hl (by decide) rfl (fun ls hl => ?_)
  refine l_X12_withdraw_L44  C ho _ (fun v1_44 v2_44 v3_44 v4_44 w11 H locs ls hH hl hf => ?_) fu a_1 a_2 0 0 w10 _ _ _ hH (lv_sub hl [3, 4, 1, 0, 2] rfl) hf
  refine lv_iload_n hx hb dX12_withdraw_136 rfl (lv_at hl 2 rfl) ?_
  exact hx_iret hx hb (Nat.le_of_ble_eq_true rfl) (Nat.le_of_ble_eq_true rfl) hret hf hH hlocks dX12_withdraw_137

theorem dX12_addHoliday_0 : decode cX12_addHoliday 0 = .ok (.aload_n 0, 1) := by decide +kernel
theorem dX12_addHoliday_1 : decode cX12_addHoliday 1 = .ok (.iload_n 1, 1) := by decide +kernel
theorem dX12_addHoliday_2 : decode cX12_addHoliday 2 = .ok (.invokevirtual 348, 3) := by decide +kernel
theorem dX12_addHoliday_5 : decode cX12_addHoliday 5 = .ok (.aload_n 0, 1) := by decide +kernel
theorem dX12_addHoliday_6 : decode cX12_addHoliday 6 = .ok (.getfield 35, 3) := by decide +kernel
theorem dX12_addHoliday_9 : decode cX12_addHoliday 9 = .ok (.iload_n 1, 1) := by decide +kernel
theorem dX12_addHoliday_10 : decode cX12_addHoliday 10 = .ok (.invokevirtual 157, 3) := by decide +kernel
theorem dX12_addHoliday_13 : decode cX12_addHoliday 13 = .ok (.ifCond .eq 18, 3) := by decide +kernel
theorem dX12_addHoliday_16 : decode cX12_addHoliday 16 = .ok (.aload_n 0, 1) := by decide +kernel
theorem dX12_addHoliday_17 : decode cX12_addHoliday 17 = .ok (.getfield 35, 3) := by decide +kernel
theorem dX12_addHoliday_20 : decode cX12_addHoliday 20 = .ok (.getfield 109, 3) := by decide +kernel
theorem dX12_addHoliday_23 : decode cX12_addHoliday 23 = .ok (.getfield 113, 3) := by decide +kernel
theorem dX12_addHoliday_26 : decode cX12_addHoliday 26 = .ok (.bipush 20, 2) := by decide +kernel
theorem dX12_addHoliday_28 : decode cX12_addHoliday 28 = .ok (.if_icmp .lt 11, 3) := by decide +kernel
theorem dX12_addHoliday_31 : decode cX12_addHoliday 31 = .ok (.new 331, 3) := by decide +kernel
theorem dX12_addHoliday_34 : decode cX12_addHoliday 34 = .ok (.dup, 1) := by decide +kernel
theorem dX12_addHoliday_35 : decode cX12_addHoliday 35 = .ok (.invokespecial 333, 3) := by decide +kernel
theorem dX12_addHoliday_38 : decode cX12_addHoliday 38 = .ok (.athrow, 1) := by decide +kernel
theorem dX12_addHoliday_39 : decode cX12_addHoliday 39 = .ok (.aload_n 0, 1) := by decide +kernel
theorem dX12_addHoliday_40 : decode cX12_addHoliday 40 = .ok (.invokevirtual 325, 3) := by decide +kernel
theorem dX12_addHoliday_43 : decode cX12_addHoliday 43 = .ok (.aload_n 0, 1) := by decide +kernel
theorem dX12_addHoliday_44 : decode cX12_addHoliday 44 = .ok (.getfield 35, 3) := by decide +kernel
theorem dX12_addHoliday_47 : decode cX12_addHoliday 47 = .ok (.getfield 109, 3) := by decide +kernel
theorem dX12_addHoliday_50 : decode cX12_addHoliday 50 = .ok (.iload_n 1, 1) := by decide +kernel
theorem dX12_addHoliday_51 : decode cX12_addHoliday 51 = .ok (.invokevirtual 356, 3) := by decide +kernel
theorem dX12_addHoliday_54 : decode cX12_addHoliday 54 = .ok (.iconst 0, 1) := by decide +kernel
theorem dX12_addHoliday_55 : decode cX12_addHoliday 55 = .ok (.istore_n 2, 1) := by decide +kernel
theorem dX12_addHoliday_56 : decode cX12_addHoliday 56 = .ok (.iconst 0, 1) := by decide +kernel
theorem dX12_addHoliday_57 : decode cX12_addHoliday 57 = .ok (.istore_n 3, 1) := by decide +kernel
theorem dX12_addHoliday_58 : decode cX12_addHoliday 58 = .ok (.iload_n 3, 1) := by decide +kernel
theorem dX12_addHoliday_59 : decode cX12_addHoliday 59 = .ok (.aload_n 0, 1) := by decide +kernel
theorem dX12_addHoliday_60 : decode cX12_addHoliday 60 = .ok (.getfield 35, 3) := by decide +kernel
theorem dX12_addHoliday_63 : decode cX12_addHoliday 63 = .ok (.getfield 87, 3) := by decide +kernel
theorem dX12_addHoliday_66 : decode cX12_addHoliday 66 = .ok (.iconst 3, 1) := by decide +kernel
theorem dX12_addHoliday_67 : decode cX12_addHoliday 67 = .ok (.invokevirtual 105, 3) := by decide +kernel
theorem dX12_addHoliday_70 : decode cX12_addHoliday 70 = .ok (.if_icmp .ge 50, 3) := by decide +kernel
theorem dX12_addHoliday_73 : decode cX12_addHoliday 73 = .ok (.aload_n 0, 1) := by decide +kernel
theorem dX12_addHoliday_74 : decode cX12_addHoliday 74 = .ok (.getfield 35, 3) := by decide +kernel
theorem dX12_addHoliday_77 : decode cX12_addHoliday 77 = .ok (.getfield 213, 3) := by decide +kernel
theorem dX12_addHoliday_80 : decode cX12_addHoliday 80 = .ok (.iload_n 3, 1) := by decide +kernel
theorem dX12_addHoliday_81 : decode cX12_addHoliday 81 = .ok (.aaload, 1) := by decide +kernel
theorem dX12_addHoliday_82 : decode cX12_addHoliday 82 = .ok (.astore 4, 2) := by decide +kernel
theorem dX12_addHoliday_84 : decode cX12_addHoliday 84 = .ok (.aload 4, 2) := by decide +kernel
theorem dX12_addHoliday_86 : decode cX12_addHoliday 86 = .ok (.getfield 236, 3) := by decide +kernel
theorem dX12_addHoliday_89 : decode cX12_addHoliday 89 = .ok (.iconst 1, 1) := by decide +kernel
theorem dX12_addHoliday_90 : decode cX12_addHoliday 90 = .ok (.if_icmp .ne 24, 3) := by decide +kernel
theorem dX12_addHoliday_93 : decode cX12_addHoliday 93 = .ok (.aload 4, 2) := by decide +kernel
theorem dX12_addHoliday_95 : decode cX12_addHoliday 95 = .ok (.getfield 256, 3) := by decide +kernel
theorem dX12_addHoliday_98 : decode cX12_addHoliday 98 = .ok (.iload_n 1, 1) := by decide +kernel
theorem dX12_addHoliday_99 : decode cX12_addHoliday 99 = .ok (.if_icmp .ne 15, 3) := by decide +kernel
theorem dX12_addHoliday_102 : decode cX12_addHoliday 102 = .ok (.aload_n 0, 1) := by decide +kernel
theorem dX12_addHoliday_103 : decode cX12_addHoliday 103 = .ok (.getfield 35, 3) := by decide +kernel
theorem dX12_addHoliday_106 : decode cX12_addHoliday 106 = .ok (.iload_n 3, 1) := by decide +kernel
theorem dX12_addHoliday_107 : decode cX12_addHoliday 107 = .ok (.iconst 3, 1) := by decide +kernel
theorem dX12_addHoliday_108 : decode cX12_addHoliday 108 = .ok (.invokevirtual 345, 3) := by decide +kernel
theorem dX12_addHoliday_111 : decode cX12_addHoliday 111 = .ok (.iinc 2 1, 3) := by decide +kernel
theorem dX12_addHoliday_114 : decode cX12_addHoliday 114 = .ok (.iinc 3 1, 3) := by decide +kernel
theorem dX12_addHoliday_117 : decode cX12_addHoliday 117 = .ok (.goto (-59), 3) := by decide +kernel
theorem dX12_addHoliday_120 : decode cX12_addHoliday 120 = .ok (.iload_n 2, 1) := by decide +kernel
theorem dX12_addHoliday_121 : decode cX12_addHoliday 121 = .ok (.ireturn, 1) := by decide +kernel
theorem hd_X12_addHoliday : yX12_addHoliday.cls = RX12 ∧ yX12_addHoliday.cls ≠ "java/lang/invoke/MethodHandle" ∧ yX12_addHoliday.cls ≠ "java/lang/invoke/VarHandle" ∧ (parseMethodDescriptor yX12_addHoliday.desc).map (fun d => d.parameters.length) = some 1 := by decide +kernel
theorem hs_X12_addHoliday : yX12_addHoliday.cls ≠ "java/lang/invoke/MethodHandle" ∧ yX12_addHoliday.cls ≠ "java/lang/invoke/VarHandle" ∧ (parseMethodDescriptor yX12_addHoliday.desc).map (fun d => d.parameters.length) = some 1 := by decide +kernel
set_option maxHeartbeats 4000000 in
set_option maxRecDepth 100000 in
theorem l_X12_addHoliday_L58 (C : CX p l e s m args meth c cX12_addHoliday 5 RX12 (Option.some Jvm.ClassFile.FieldType.int) E) {o : Nat} (ho : K o = some (10, 0)) {r : Int32 ⊕ Nat} {w' : Wd} (k : Int32 → Int32 → Int32 → Wd → Option ((Int32 ⊕ Nat) × Wd)) (hk : ∀ (v1_58 : Int32) (v2_58 : Int32) (v3_58 : Int32) (w : Wd) (H : Heap) (locs : List Loc) (ls : Array Slot), HQ E K z w s H locs → lv_has ls 5 [(1, .int v1_58), (2, .int v2_58), (3, .int v3_58), (0, rv E (some o))] → k v1_58 v2_58 v3_58 w = some (r, w') → W p l e ({ frames := 7, cells := 2, slots := 12, locals := 125 } : Room) s m args below meth c H locs 1 6 (vx_MQ below (XI E K z w' r) (XX E K w' r) args s 2 12 (hA E)) (F0 m 120 ls [])) : ∀ (n : Nat) (v1_58 : Int32) (v2_58 : Int32) (v3_58 : Int32) (w : Wd) (H : Heap) (locs : List Loc) (ls : Array Slot), HQ E K z w s H locs → lv_has ls 5 [(1, .int v1_58), (2, .int v2_58), (3, .int v3_58), (0, rv E (some o))] → f_X12_addHoliday_L58 K o k n v1_58 v2_58 v3_58 w = some (r, w') → W p l e ({ frames := 7, cells := 2, slots := 12, locals := 125 } : Room) s m args below meth c H locs 1 6 (vx_MQ below (XI E K z w' r) (XX E K w' r) args s 2 12 (hA E)) (F0 m 58 ls []) := by
  obtain ⟨hx, hb, hml, hown, hts, hKs, hT, hb0, hlocks, hret⟩ := id C
  intro n
  induction n with
  | zero =>
    intro v1_58 v2_58 v3_58 w H locs ls hH hl hf
    cases hf
  | succ n ih =>
    intro v1_58 v2_58 v3_58 w H locs ls hH hl hf
    rw [f_X12_addHoliday_L58] at hf
    refine lv_iload_n hx hb dX12_addHoliday_58 rfl (lv_at hl 2 rfl) ?_
    refine hl_aload_n hx hb dX12_addHoliday_59 rfl (lv_at hl 3 rfl) ?_
    refine g12_5 hx hb hts hown hKs hH rfl ho m2_224 dX12_addHoliday_60 ?_
    obtain ⟨a14, ha14, hf⟩ := bnd hf
    replace ha14 := chk_some ha14
    refine gn10_0 hx hb hts hown hKs hH ha14.1 ha14.2 m2_122 dX12_addHoliday_63 ?_
    refine lv_iconst (v := 3) hx hb dX12_addHoliday_66 (by decide) ?_
    obtain ⟨a15, ha15, hf⟩ := bnd hf
    replace ha15 := chk_some ha15
    obtain ⟨q16, hq16, hf⟩ := bnd hf
    refine hcV_i hx hb hml hown hts hKs hT hb0 hH (As := [.int 3]) (rest := [.int v3_58]) (k_X9_size l E K H.size a15 3 w ha15.2 hq16) (gV m3_229 m3_151 m3_152 m1_2 m3_153) hd_X9_size ⟨Nat.le_of_ble_eq_true rfl, Nat.le_of_ble_eq_true rfl, rfl, rfl⟩ ha15.1 ha15.2 rfl rfl rfl hl.1 rfl (rcI rc0) rfl dX12_addHoliday_67 ⟨Nat.le_of_ble_eq_true rfl, Nat.le_of_ble_eq_true rfl⟩ (fun H locs hH => ?_)
    refine lv_icmp_ge (tgt := 120) hx hb dX12_addHoliday_70 (by decide) (fun c17 => ?_) (fun c17 => ?_)
    · replace hf := (if_pos c17).symm.trans hf
      exact hk v1_58 v2_58 v3_58 _ _ _ _ hH (lv_sub hl [0, 1, 2, 3] rfl) hf
    · replace hf := (if_neg c17).symm.trans hf
      refine hl_aload_n hx hb dX12_addHoliday_73 rfl (lv_at hl 3 rfl) ?_
      refine g12_5 hx hb hts hown hKs hH rfl ho m2_224 dX12_addHoliday_74 ?_
      obtain ⟨a18, ha18, hf⟩ := bnd hf
      replace ha18 := chk_some ha18
      refine gn10_5 hx hb hts hown hKs hH ha18.1 ha18.2 m2_135 dX12_addHoliday_77 ?_
      refine lv_iload_n hx hb dX12_addHoliday_80 rfl (lv_at hl 2 rfl) ?_
      obtain ⟨a19, ha19, hf⟩ := bnd hf
      replace ha19 := cha_some ha19
      obtain ⟨j20, hj20, hf⟩ := bnd hf
      refine hw_aald27 hx hb hKs hH ha19.1 ha19.2 hj20 dX12_addHoliday_81 ?_
      refine hl_astore (i := 4) (lv' := [(4, rv E (aR q16.2 a19.1 j20)), (1, .int v1_58), (2, .int v2_58), (3, .int v3_58), (0, rv E (some o))]) hx hb dX12_addHoliday_82 hl (by decide) rfl (fun ls hl => ?_)
      refine hl_aload hx hb dX12_addHoliday_84 (lv_at hl 0 rfl) ?_
      obtain ⟨a21, ha21, hf⟩ := bnd hf
      replace ha21 := chk_some ha21
      refine gn7_0 hx hb hts hown hKs hH ha21.1 ha21.2 m2_71 dX12_addHoliday_86 ?_
      refine lv_iconst (v := 1) hx hb dX12_addHoliday_89 (by decide) ?_
      refine lv_icmp_ne (tgt := 114) hx hb dX12_addHoliday_90 (by decide) (fun c22 => ?_) (fun c22 => ?_)
      · replace hf := (if_neg c22).symm.trans hf
        refine lv_iinc (v := (v3_58 + 1)) (lv' := [(3, .int ((v3_58 + 1))), (4, rv E (aR q16.2 a19.1 j20)), (1, .int v1_58), (2, .int v2_58), (0, rv E (some o))]) hx hb dX12_addHoliday_114 hl (k := 3) rfl rfl (by decide) rfl (fun ls hl => ?_)
        refine lv_goto (tgt := 58) hx hb dX12_addHoliday_117 (by decide) ?_
        exact ih v1_58 v2_58 (v3_58 + 1) _ _ _ _ hH (lv_sub hl [2, 3, 0, 4] rfl) hf
      · replace hf := (if_pos c22).symm.trans hf
        refine hl_aload hx hb dX12_addHoliday_93 (lv_at hl 0 rfl) ?_
        refine gn7_2 hx hb hts hown hKs hH ha21.1 ha21.2 m2_77 dX12_addHoliday_95 ?_
        refine lv_iload_n hx hb dX12_addHoliday_98 rfl (lv_at hl 1 rfl) ?_
        refine lv_icmp_ne (tgt := 114) hx hb dX12_addHoliday_99 (by decide) (fun c23 => ?_) (fun c23 => ?_)
        · replace hf := (if_neg c23).symm.trans hf
          refine lv_iinc (v := (v3_58 + 1)) (lv' := [(3, .int ((v3_58 + 1))), (4, rv E (aR q16.2 a19.1 j20)), (1, .int v1_58), (2, .int v2_58), (0, rv E (some o))]) hx hb dX12_addHoliday_114 hl (k := 3) rfl rfl (by decide) rfl (fun ls hl => ?_)
          refine lv_goto (tgt := 58) hx hb dX12_addHoliday_117 (by decide) ?_
          exact ih v1_58 v2_58 (v3_58 + 1) _ _ _ _ hH (lv_sub hl [2, 3, 0, 4] rfl) hf
        · replace hf := (if_pos c23).symm.trans hf
          refine hl_aload_n hx hb dX12_addHoliday_102 rfl (lv_at hl 4 rfl) ?_
          refine g12_5 hx hb hts hown hKs hH rfl ho m2_224 dX12_addHoliday_103 ?_
          refine lv_iload_n hx hb dX12_addHoliday_106 rfl (lv_at hl 3 rfl) ?_
          refine lv_iconst (v := 3) hx hb dX12_addHoliday_107 (by decide) ?_
          obtain ⟨q24, hq24, hf⟩ := bnd hf
          refine hcV_v hx hb hml hown hts hKs hT hb0 hH (As := [.int v3_58, .int 3]) (rest := []) (k_X10_takeAway l E K H.size a18 v3_58 3 q16.2 ha18.2 hq24) (gV m6_80 m6_81 m6_82 m1_12 m6_83) hd_X10_takeAway ⟨Nat.le_of_ble_eq_true rfl, Nat.le_of_ble_eq_true rfl, rfl, rfl⟩ ha18.1 ha18.2 rfl rfl rfl hl.1 rfl rc0 rfl dX12_addHoliday_108 ⟨Nat.le_of_ble_eq_true rfl, Nat.le_of_ble_eq_true rfl⟩ (fun H locs hH => ?_)
          refine lv_iinc (v := (v2_58 + 1)) (lv' := [(2, .int ((v2_58 + 1))), (4, rv E (aR q16.2 a19.1 j20)), (1, .int v1_58), (3, .int v3_58), (0, rv E (some o))]) hx hb dX12_addHoliday_111 hl (k := 2) rfl rfl (by decide) rfl (fun ls hl => ?_)
          refine lv_iinc (v := (v3_58 + 1)) (lv' := [(3, .int ((v3_58 + 1))), (2, .int ((v2_58 + 1))), (4, rv E (aR q16.2 a19.1 j20)), (1, .int v1_58), (0, rv E (some o))]) hx hb dX12_addHoliday_114 hl (k := 3) rfl rfl (by decide) rfl (fun ls hl => ?_)
          refine lv_goto (tgt := 58) hx hb dX12_addHoliday_117 (by decide) ?_
          exact ih v1_58 (v2_58 + 1) (v3_58 + 1) _ _ _ _ hH (lv_sub hl [3, 1, 0, 4] rfl) hf
set_option maxHeartbeats 4000000 in
set_option maxRecDepth 100000 in
theorem k_X12_addHoliday (l : Launch) (hls : l.stackTraces = false) (E : Ev) (K : Kd) (z : Nat) (o : Nat) (a_1 : Int32) (w : Wd) (ho : K o = some (10, 0)) {r : Int32 ⊕ Nat} {w' : Wd} (hf : f_X12_addHoliday K o a_1 w = some (r, w')) : vx_Met l yX12_addHoliday (Cond.code yX12_addHoliday cX12_addHoliday 5 (Option.some Jvm.ClassFile.FieldType.int) :: bt) ({ frames := 7, cells := 2, slots := 12, locals := 125 } : Room) (va_Pc [rv E (some o), .int a_1] (HB E K w z)) (XI E K z w' r) (XX E K w' r) 2 12 (hA E) := by
  refine vx_ofW (cc := cX12_addHoliday) (maxL := 5) (ret := (Option.some Jvm.ClassFile.FieldType.int)) (by decide) rfl ?_
  intro p e s m args below meth c s₁ B hml hout hv
  obtain ⟨rfl, hz, hP, hKs, hT, hb0⟩ := hv
  have C : CX p l e s m _ meth c cX12_addHoliday 5 RX12 (Option.some Jvm.ClassFile.FieldType.int) E := ⟨B.exec, B.bytes, hml, findClass_of_methodNamed B.named, fun w h => atoms_spec (ws := Cond.code yX12_addHoliday cX12_addHoliday 5 (Option.some Jvm.ClassFile.FieldType.int) :: bt) B.pre w (List.mem_cons_of_mem _ h), hKs, hT, by rw [hz]; exact hb0, B.notSynchronized, B.returns⟩
  have hH : HQ E K z w s s.heap [] := ⟨hP, va_S.rf, hz⟩
  obtain ⟨hx, hb, hml, hown, hts, hKs, hT, hb0, hlocks, hret⟩ := id C
  have hl := lv_entry [rv E (some o), .int a_1] (n := 5) (by simp [lg_len_nil, lg_len_i, lg_len_j, lg_len_q, lg_len_f, lg_len_d, lg_len_r])
  rw [lg_entry_eq]
  generalize (lg_sl [rv E (some o), .int a_1] ++ List.replicate (5 - (lg_sl [rv E (some o), .int a_1]).length) Slot.unset).toArray = ls at hl ⊢
  replace hl : lv_has ls 5 [(0, rv E (some o)), (1, .int a_1)] := by simpa only [lv_args, cat_q, cat_i, cat_j, reduceIte, Nat.reduceEqDiff, Nat.reduceAdd, Nat.zero_add] using hl
  generalize s.heap = H at hH ⊢
  unfold f_X12_addHoliday at hf
  refine hl_aload_n hx hb dX12_addHoliday_0 rfl (lv_at hl 0 rfl) ?_
  refine lv_iload_n hx hb dX12_addHoliday_1 rfl (lv_at hl 1 rfl) ?_
  obtain ⟨q1, hq1, hf⟩ := bnd hf
  refine hxV_v hx hb hml hown hts hKs hT hb0 hH (As := [.int a_1]) (rest := []) (k_X12_requireComingDay l hls E K H.size o a_1 w ho hq1) (gV m6_97 m6_99 ms_41 m1_1 m6_100) hd_X12_requireComingDay ⟨Nat.le_of_ble_eq_true rfl, Nat.le_of_ble_eq_true rfl, rfl, rfl⟩ rfl ho rfl rfl rfl hl.1 rfl rc0 rfl dX12_addHoliday_2 ⟨Nat.le_of_ble_eq_true rfl, Nat.le_of_ble_eq_true rfl⟩ ⟨Nat.le_of_ble_eq_true rfl, Nat.le_of_ble_eq_true rfl⟩ hout hlocks (fun x hx9 => (fun h9 => ⟨(congrArg Prod.fst h9).symm, (congrArg Prod.snd h9).symm⟩) (Option.some.inj ((xk_inr hx9).symm.trans hf))) (fun v2 hv2 H locs hH => ?_)
  replace hf := (xk_inl hv2).symm.trans hf
  refine hl_aload_n hx hb dX12_addHoliday_5 rfl (lv_at hl 0 rfl) ?_
  refine g12_5 hx hb hts hown hKs hH rfl ho m2_224 dX12_addHoliday_6 ?_
  refine lv_iload_n hx hb dX12_addHoliday_9 rfl (lv_at hl 1 rfl) ?_
  obtain ⟨a3, ha3, hf⟩ := bnd hf
  replace ha3 := chk_some ha3
  obtain ⟨q4, hq4, hf⟩ := bnd hf
  refine hcV_i hx hb hml hown hts hKs hT hb0 hH (As := [.int a_1]) (rest := []) (k_X10_works l E K H.size a3 a_1 q1.2 ha3.2 hq4) (gV m5_58 m4_70 m4_71 m1_12 m4_72) hd_X10_works ⟨Nat.le_of_ble_eq_true rfl, Nat.le_of_ble_eq_true rfl, rfl, rfl⟩ ha3.1 ha3.2 rfl rfl rfl hl.1 rfl rc0 rfl dX12_addHoliday_10 ⟨Nat.le_of_ble_eq_true rfl, Nat.le_of_ble_eq_true rfl⟩ (fun H locs hH => ?_)
  refine lv_if_eq (tgt := 31) hx hb dX12_addHoliday_13 (by decide) (fun c5 => ?_) (fun c5 => ?_)
  · replace hf := (if_pos c5).symm.trans hf
    exact hx_throw hx hb hls (code := 3) hml hl.1 hown hts hKs hT hb0 hH (by decide) rfl m5_194 m1_29 hat_RX12_333 dX12_addHoliday_31 dX12_addHoliday_34 dX12_addHoliday_35 dX12_addHoliday_38 hout (Nat.le_of_ble_eq_true rfl) rc0 (Nat.le_of_ble_eq_true rfl) (Nat.le_of_ble_eq_true rfl) (Nat.le_of_ble_eq_true rfl) hlocks hf (Nat.le_of_ble_eq_true rfl) (Nat.le_of_ble_eq_true rfl)
  · replace hf := (if_neg c5).symm.trans hf
    refine hl_aload_n hx hb dX12_addHoliday_16 rfl (lv_at hl 0 rfl) ?_
    refine g12_5 hx hb hts hown hKs hH rfl ho m2_224 dX12_addHoliday_17 ?_
    obtain ⟨a6, ha6, hf⟩ := bnd hf
    replace ha6 := chk_some ha6
    refine gn10_2 hx hb hts hown hKs hH ha6.1 ha6.2 m2_127 dX12_addHoliday_20 ?_
    obtain ⟨a7, ha7, hf⟩ := bnd hf
    replace ha7 := chk_some ha7
    refine gn2_1 hx hb hts hown hKs hH ha7.1 ha7.2 m1_58 dX12_addHoliday_23 ?_
    refine lv_bipush (v := 20) hx hb dX12_addHoliday_26 (by decide) ?_
    refine lv_icmp_lt (tgt := 39) hx hb dX12_addHoliday_28 (by decide) (fun c8 => ?_) (fun c8 => ?_)
    · replace hf := (if_pos c8).symm.trans hf
      refine hl_aload_n hx hb dX12_addHoliday_39 rfl (lv_at hl 0 rfl) ?_
      obtain ⟨q9, hq9, hf⟩ := bnd hf
      refine hcV_v hx hb hml hown hts hKs hT hb0 hH (As := []) (rest := []) (k_X12_remember l E K H.size o q4.2 ho hq9) (gV m4_82 m4_84 ms_23 m1_1 m4_85) hd_X12_remember ⟨Nat.le_of_ble_eq_true rfl, Nat.le_of_ble_eq_true rfl, rfl, rfl⟩ rfl ho rfl rfl rfl hl.1 rfl rc0 rfl dX12_addHoliday_40 ⟨Nat.le_of_ble_eq_true rfl, Nat.le_of_ble_eq_true rfl⟩ (fun H locs hH => ?_)
      refine hl_aload_n hx hb dX12_addHoliday_43 rfl (lv_at hl 0 rfl) ?_
      refine g12_5 hx hb hts hown hKs hH rfl ho m2_224 dX12_addHoliday_44 ?_
      obtain ⟨a10, ha10, hf⟩ := bnd hf
      replace ha10 := chk_some ha10
      refine gn10_2 hx hb hts hown hKs hH ha10.1 ha10.2 m2_127 dX12_addHoliday_47 ?_
      refine lv_iload_n hx hb dX12_addHoliday_50 rfl (lv_at hl 1 rfl) ?_
      obtain ⟨a11, ha11, hf⟩ := bnd hf
      replace ha11 := chk_some ha11
      obtain ⟨q12, hq12, hf⟩ := bnd hf
      refine hcV_v hx hb hml hown hts hKs hT hb0 hH (As := [.int a_1]) (rest := []) (k_X2_add l E K H.size a11 a_1 q9 ha11.2 hq12) (gV m6_109 m3_111 m3_112 m1_3 m3_113) hd_X2_add ⟨Nat.le_of_ble_eq_true rfl, Nat.le_of_ble_eq_true rfl, rfl, rfl⟩ ha11.1 ha11.2 rfl rfl rfl hl.1 rfl rc0 rfl dX12_addHoliday_51 ⟨Nat.le_of_ble_eq_true rfl, Nat.le_of_ble_eq_true rfl⟩ (fun H locs hH => ?_)
      refine lv_iconst (v := 0) hx hb dX12_addHoliday_54 (by decide) ?_
      refine lv_istore_n (i := 2) (lv' := [(2, .int 0), (0, rv E (some o)), (1, .int a_1)]) hx hb dX12_addHoliday_55 rfl hl (by decide) rfl (fun ls hl => ?_)
      refine lv_iconst (v := 0) hx hb dX12_addHoliday_56 (by decide) ?_
      refine lv_istore_n (i := 3) (lv' := [(3, .int 0), (2, .int 0), (0, rv E (some o)), (1, .int a_1)]) hx hb dX12_addHoliday_57 rfl hl (by decide) rfl (fun ls hl => ?_)
      refine l_X12_addHoliday_L58  C ho _ (fun v1_58 v2_58 v3_58 w13 H locs ls hH hl hf => ?_) fu a_1 0 0 q12 _ _ _ hH (lv_sub hl [3, 1, 0, 2] rfl) hf
      refine lv_iload_n hx hb dX12_addHoliday_120 rfl (lv_at hl 1 rfl) ?_
      exact hx_iret hx hb (Nat.le_of_ble_eq_true rfl) (Nat.le_of_ble_eq_true rfl) hret hf hH hlocks dX12_addHoliday_121
    · replace hf := (if_neg c8).symm.trans hf
      exact hx_throw hx hb hls (code := 3) hml hl.1 hown hts hKs hT hb0 hH (by decide) rfl m5_194 m1_29 hat_RX12_333 dX12_addHoliday_31 dX12_addHoliday_34 dX12_addHoliday_35 dX12_addHoliday_38 hout (Nat.le_of_ble_eq_true rfl) rc0 (Nat.le_of_ble_eq_true rfl) (Nat.le_of_ble_eq_true rfl) (Nat.le_of_ble_eq_true rfl) hlocks hf (Nat.le_of_ble_eq_true rfl) (Nat.le_of_ble_eq_true rfl)

theorem dX12_addBar_0 : decode cX12_addBar 0 = .ok (.aload_n 0, 1) := by decide +kernel
theorem dX12_addBar_1 : decode cX12_addBar 1 = .ok (.iconst 1, 1) := by decide +kernel
theorem dX12_addBar_2 : decode cX12_addBar 2 = .ok (.iload_n 1, 1) := by decide +kernel
theorem dX12_addBar_3 : decode cX12_addBar 3 = .ok (.invokevirtual 175, 3) := by decide +kernel
theorem dX12_addBar_6 : decode cX12_addBar 6 = .ok (.aload_n 0, 1) := by decide +kernel
theorem dX12_addBar_7 : decode cX12_addBar 7 = .ok (.iconst 3, 1) := by decide +kernel
theorem dX12_addBar_8 : decode cX12_addBar 8 = .ok (.iload_n 2, 1) := by decide +kernel
theorem dX12_addBar_9 : decode cX12_addBar 9 = .ok (.invokevirtual 175, 3) := by decide +kernel
theorem dX12_addBar_12 : decode cX12_addBar 12 = .ok (.aload_n 0, 1) := by decide +kernel
theorem dX12_addBar_13 : decode cX12_addBar 13 = .ok (.getfield 35, 3) := by decide +kernel
theorem dX12_addBar_16 : decode cX12_addBar 16 = .ok (.getfield 359, 3) := by decide +kernel
theorem dX12_addBar_19 : decode cX12_addBar 19 = .ok (.iload_n 2, 1) := by decide +kernel
theorem dX12_addBar_20 : decode cX12_addBar 20 = .ok (.iaload, 1) := by decide +kernel
theorem dX12_addBar_21 : decode cX12_addBar 21 = .ok (.iload_n 1, 1) := by decide +kernel
theorem dX12_addBar_22 : decode cX12_addBar 22 = .ok (.invokestatic 203, 3) := by decide +kernel
theorem dX12_addBar_25 : decode cX12_addBar 25 = .ok (.ifCond .eq 11, 3) := by decide +kernel
theorem dX12_addBar_28 : decode cX12_addBar 28 = .ok (.new 331, 3) := by decide +kernel
theorem dX12_addBar_31 : decode cX12_addBar 31 = .ok (.dup, 1) := by decide +kernel
theorem dX12_addBar_32 : decode cX12_addBar 32 = .ok (.invokespecial 333, 3) := by decide +kernel
theorem dX12_addBar_35 : decode cX12_addBar 35 = .ok (.athrow, 1) := by decide +kernel
theorem dX12_addBar_36 : decode cX12_addBar 36 = .ok (.aload_n 0, 1) := by decide +kernel
theorem dX12_addBar_37 : decode cX12_addBar 37 = .ok (.invokevirtual 325, 3) := by decide +kernel
theorem dX12_addBar_40 : decode cX12_addBar 40 = .ok (.aload_n 0, 1) := by decide +kernel
theorem dX12_addBar_41 : decode cX12_addBar 41 = .ok (.getfield 35, 3) := by decide +kernel
theorem dX12_addBar_44 : decode cX12_addBar 44 = .ok (.getfield 359, 3) := by decide +kernel
theorem dX12_addBar_47 : decode cX12_addBar 47 = .ok (.iload_n 2, 1) := by decide +kernel
theorem dX12_addBar_48 : decode cX12_addBar 48 = .ok (.dup2, 1) := by decide +kernel
theorem dX12_addBar_49 : decode cX12_addBar 49 = .ok (.iaload, 1) := by decide +kernel
theorem dX12_addBar_50 : decode cX12_addBar 50 = .ok (.iconst 1, 1) := by decide +kernel
theorem dX12_addBar_51 : decode cX12_addBar 51 = .ok (.iload_n 1, 1) := by decide +kernel
theorem dX12_addBar_52 : decode cX12_addBar 52 = .ok (.ishl, 1) := by decide +kernel
theorem dX12_addBar_53 : decode cX12_addBar 53 = .ok (.ior, 1) := by decide +kernel
theorem dX12_addBar_54 : decode cX12_addBar 54 = .ok (.iastore, 1) := by decide +kernel
theorem dX12_addBar_55 : decode cX12_addBar 55 = .ok (.aload_n 0, 1) := by decide +kernel
theorem dX12_addBar_56 : decode cX12_addBar 56 = .ok (.getfield 35, 3) := by decide +kernel
theorem dX12_addBar_59 : decode cX12_addBar 59 = .ok (.getfield 213, 3) := by decide +kernel
theorem dX12_addBar_62 : decode cX12_addBar 62 = .ok (.iload_n 2, 1) := by decide +kernel
theorem dX12_addBar_63 : decode cX12_addBar 63 = .ok (.aaload, 1) := by decide +kernel
theorem dX12_addBar_64 : decode cX12_addBar 64 = .ok (.astore_n 3, 1) := by decide +kernel
theorem dX12_addBar_65 : decode cX12_addBar 65 = .ok (.aload_n 3, 1) := by decide +kernel
theorem dX12_addBar_66 : decode cX12_addBar 66 = .ok (.getfield 236, 3) := by decide +kernel
theorem dX12_addBar_69 : decode cX12_addBar 69 = .ok (.iconst 1, 1) := by decide +kernel
theorem dX12_addBar_70 : decode cX12_addBar 70 = .ok (.if_icmp .ne 15, 3) := by decide +kernel
theorem dX12_addBar_73 : decode cX12_addBar 73 = .ok (.aload_n 3, 1) := by decide +kernel
theorem dX12_addBar_74 : decode cX12_addBar 74 = .ok (.getfield 263, 3) := by decide +kernel
theorem dX12_addBar_77 : decode cX12_addBar 77 = .ok (.iload_n 1, 1) := by decide +kernel
theorem dX12_addBar_78 : decode cX12_addBar 78 = .ok (.if_icmp .ne 7, 3) := by decide +kernel
theorem dX12_addBar_81 : decode cX12_addBar 81 = .ok (.iconst 1, 1) := by decide +kernel
theorem dX12_addBar_82 : decode cX12_addBar 82 = .ok (.goto 4, 3) := by decide +kernel
theorem dX12_addBar_85 : decode cX12_addBar 85 = .ok (.iconst 0, 1) := by decide +kernel
theorem dX12_addBar_86 : decode cX12_addBar 86 = .ok (.istore 4, 2) := by decide +kernel
theorem dX12_addBar_88 : decode cX12_addBar 88 = .ok (.iload 4, 2) := by decide +kernel
theorem dX12_addBar_90 : decode cX12_addBar 90 = .ok (.ifCond .eq 12, 3) := by decide +kernel
theorem dX12_addBar_93 : decode cX12_addBar 93 = .ok (.aload_n 0, 1) := by decide +kernel
theorem dX12_addBar_94 : decode cX12_addBar 94 = .ok (.getfield 35, 3) := by decide +kernel
theorem dX12_addBar_97 : decode cX12_addBar 97 = .ok (.iload_n 2, 1) := by decide +kernel
theorem dX12_addBar_98 : decode cX12_addBar 98 = .ok (.iconst 1, 1) := by decide +kernel
theorem dX12_addBar_99 : decode cX12_addBar 99 = .ok (.invokevirtual 345, 3) := by decide +kernel
theorem dX12_addBar_102 : decode cX12_addBar 102 = .ok (.iload 4, 2) := by decide +kernel
theorem dX12_addBar_104 : decode cX12_addBar 104 = .ok (.ireturn, 1) := by decide +kernel
theorem hd_X12_addBar : yX12_addBar.cls = RX12 ∧ yX12_addBar.cls ≠ "java/lang/invoke/MethodHandle" ∧ yX12_addBar.cls ≠ "java/lang/invoke/VarHandle" ∧ (parseMethodDescriptor yX12_addBar.desc).map (fun d => d.parameters.length) = some 2 := by decide +kernel
theorem hs_X12_addBar : yX12_addBar.cls ≠ "java/lang/invoke/MethodHandle" ∧ yX12_addBar.cls ≠ "java/lang/invoke/VarHandle" ∧ (parseMethodDescriptor yX12_addBar.desc).map (fun d => d.parameters.length) = some 2 := by decide +kernel
set_option maxHeartbeats 4000000 in
set_option maxRecDepth 100000 in
theorem k_X12_addBar (l : Launch) (hls : l.stackTraces = false) (E : Ev) (K : Kd) (z : Nat) (o : Nat) (a_1 : Int32) (a_2 : Int32) (w : Wd) (ho : K o = some (10, 0)) {r : Bool ⊕ Nat} {w' : Wd} (hf : f_X12_addBar K o a_1 a_2 w = some (r, w')) : vx_Met l yX12_addBar (Cond.code yX12_addBar cX12_addBar 5 (Option.some Jvm.ClassFile.FieldType.boolean) :: bt) ({ frames := 7, cells := 3, slots := 18, locals := 125 } : Room) (va_Pc [rv E (some o), .int a_1, .int a_2] (HB E K w z)) (XZ E K z w' r) (XX E K w' r) 3 18 (hA E) := by
  refine vx_ofW (cc := cX12_addBar) (maxL := 5) (ret := (Option.some Jvm.ClassFile.FieldType.boolean)) (by decide) rfl ?_
  intro p e s m args below meth c s₁ B hml hout hv
  obtain ⟨rfl, hz, hP, hKs, hT, hb0⟩ := hv
  have C : CX p l e s m _ meth c cX12_addBar 5 RX12 (Option.some Jvm.ClassFile.FieldType.boolean) E := ⟨B.exec, B.bytes, hml, findClass_of_methodNamed B.named, fun w h => atoms_spec (ws := Cond.code yX12_addBar cX12_addBar 5 (Option.some Jvm.ClassFile.FieldType.boolean) :: bt) B.pre w (List.mem_cons_of_mem _ h), hKs, hT, by rw [hz]; exact hb0, B.notSynchronized, B.returns⟩
  have hH : HQ E K z w s s.heap [] := ⟨hP, va_S.rf, hz⟩
  obtain ⟨hx, hb, hml, hown, hts, hKs, hT, hb0, hlocks, hret⟩ := id C
  have hl := lv_entry [rv E (some o), .int a_1, .int a_2] (n := 5) (by simp [lg_len_nil, lg_len_i, lg_len_j, lg_len_q, lg_len_f, lg_len_d, lg_len_r])
  rw [lg_entry_eq]
  generalize (lg_sl [rv E (some o), .int a_1, .int a_2] ++ List.replicate (5 - (lg_sl [rv E (some o), .int a_1, .int a_2]).length) Slot.unset).toArray = ls at hl ⊢
  replace hl : lv_has ls 5 [(0, rv E (some o)), (1, .int a_1), (2, .int a_2)] := by simpa only [lv_args, cat_q, cat_i, cat_j, reduceIte, Nat.reduceEqDiff, Nat.reduceAdd, Nat.zero_add] using hl
  generalize s.heap = H at hH ⊢
  unfold f_X12_addBar at hf
  refine hl_aload_n hx hb dX12_addBar_0 rfl (lv_at hl 0 rfl) ?_
  refine lv_iconst (v := 1) hx hb dX12_addBar_1 (by decide) ?_
  refine lv_iload_n hx hb dX12_addBar_2 rfl (lv_at hl 1 rfl) ?_
  obtain ⟨q1, hq1, hf⟩ := bnd hf
  refine hxV_v hx hb hml hown hts hKs hT hb0 hH (As := [.int 1, .int a_1]) (rest := []) (k_X12_requireExisting l hls E K H.size o 1 a_1 w ho hq1) (gV m5_90 m5_92 ms_36 m1_1 m5_93) hd_X12_requireExisting ⟨Nat.le_of_ble_eq_true rfl, Nat.le_of_ble_eq_true rfl, rfl, rfl⟩ rfl ho rfl rfl rfl hl.1 rfl rc0 rfl dX12_addBar_3 ⟨Nat.le_of_ble_eq_true rfl, Nat.le_of_ble_eq_true rfl⟩ ⟨Nat.le_of_ble_eq_true rfl, Nat.le_of_ble_eq_true rfl⟩ hout hlocks (fun x hx9 => (fun h9 => ⟨(congrArg Prod.fst h9).symm, (congrArg Prod.snd h9).symm⟩) (Option.some.inj ((xk_inr hx9).symm.trans hf))) (fun v2 hv2 H locs hH => ?_)
  replace hf := (xk_inl hv2).symm.trans hf
  refine hl_aload_n hx hb dX12_addBar_6 rfl (lv_at hl 0 rfl) ?_
  refine lv_iconst (v := 3) hx hb dX12_addBar_7 (by decide) ?_
  refine lv_iload_n hx hb dX12_addBar_8 rfl (lv_at hl 2 rfl) ?_
  obtain ⟨q3, hq3, hf⟩ := bnd hf
  refine hxV_v hx hb hml hown hts hKs hT hb0 hH (As := [.int 3, .int a_2]) (rest := []) (k_X12_requireExisting l hls E K H.size o 3 a_2 q1.2 ho hq3) (gV m5_90 m5_92 ms_36 m1_1 m5_93) hd_X12_requireExisting ⟨Nat.le_of_ble_eq_true rfl, Nat.le_of_ble_eq_true rfl, rfl, rfl⟩ rfl ho rfl rfl rfl hl.1 rfl rc0 rfl dX12_addBar_9 ⟨Nat.le_of_ble_eq_true rfl, Nat.le_of_ble_eq_true rfl⟩ ⟨Nat.le_of_ble_eq_true rfl, Nat.le_of_ble_eq_true rfl⟩ hout hlocks (fun x hx9 => (fun h9 => ⟨(congrArg Prod.fst h9).symm, (congrArg Prod.snd h9).symm⟩) (Option.some.inj ((xk_inr hx9).symm.trans hf))) (fun v4 hv4 H locs hH => ?_)
  replace hf := (xk_inl hv4).symm.trans hf
  refine hl_aload_n hx hb dX12_addBar_12 rfl (lv_at hl 0 rfl) ?_
  refine g12_5 hx hb hts hown hKs hH rfl ho m2_224 dX12_addBar_13 ?_
  obtain ⟨a5, ha5, hf⟩ := bnd hf
  replace ha5 := chk_some ha5
  refine gn10_4 hx hb hts hown hKs hH ha5.1 ha5.2 m2_132 dX12_addBar_16 ?_
  refine lv_iload_n hx hb dX12_addBar_19 rfl (lv_at hl 2 rfl) ?_
  obtain ⟨a6, ha6, hf⟩ := bnd hf
  replace ha6 := cha_some ha6
  obtain ⟨j7, hj7, hf⟩ := bnd hf
  refine hw_iald hx hb hKs hH ha6.1 ha6.2 hj7 dX12_addBar_20 ?_
  refine lv_iload_n hx hb dX12_addBar_21 rfl (lv_at hl 1 rfl) ?_
  obtain ⟨q8, hq8, hf⟩ := bnd hf
  refine hcS_i hx hb hml hown hts hKs hT hb0 hH (As := [.int ((aI q3.2 a6.1 j7)), .int a_1]) (rest := []) (k_X12_has l E K H.size (aI q3.2 a6.1 j7) a_1 q3.2 hq8) (gS m5_129 m3_194 m1_1 m3_195) hs_X12_has ⟨Nat.le_of_ble_eq_true rfl, Nat.le_of_ble_eq_true rfl, rfl, rfl⟩ hl.1 rfl rc0 rfl dX12_addBar_22 ⟨Nat.le_of_ble_eq_true rfl, Nat.le_of_ble_eq_true rfl⟩ (fun H locs hH => ?_)
  refine lv_if_eq (tgt := 36) hx hb dX12_addBar_25 (by decide) (fun c9 => ?_) (fun c9 => ?_)
  · replace hf := (if_pos c9).symm.trans hf
    refine hl_aload_n hx hb dX12_addBar_36 rfl (lv_at hl 0 rfl) ?_
    obtain ⟨q10, hq10, hf⟩ := bnd hf
    refine hcV_v hx hb hml hown hts hKs hT hb0 hH (As := []) (rest := []) (k_X12_remember l E K H.size o q8.2 ho hq10) (gV m4_82 m4_84 ms_23 m1_1 m4_85) hd_X12_remember ⟨Nat.le_of_ble_eq_true rfl, Nat.le_of_ble_eq_true rfl, rfl, rfl⟩ rfl ho rfl rfl rfl hl.1 rfl rc0 rfl dX12_addBar_37 ⟨Nat.le_of_ble_eq_true rfl, Nat.le_of_ble_eq_true rfl⟩ (fun H locs hH => ?_)
    refine hl_aload_n hx hb dX12_addBar_40 rfl (lv_at hl 0 rfl) ?_
    refine g12_5 hx hb hts hown hKs hH rfl ho m2_224 dX12_addBar_41 ?_
    obtain ⟨a11, ha11, hf⟩ := bnd hf
    replace ha11 := chk_some ha11
    refine gn10_4 hx hb hts hown hKs hH ha11.1 ha11.2 m2_132 dX12_addBar_44 ?_
    refine lv_iload_n hx hb dX12_addBar_47 rfl (lv_at hl 2 rfl) ?_
    refine lv_dup2_11 hx hb dX12_addBar_48 rfl rv_cat ?_
    obtain ⟨a12, ha12, hf⟩ := bnd hf
    replace ha12 := cha_some ha12
    obtain ⟨j13, hj13, hf⟩ := bnd hf
    refine hw_iald hx hb hKs hH ha12.1 ha12.2 hj13 dX12_addBar_49 ?_
    refine lv_iconst (v := 1) hx hb dX12_addBar_50 (by decide) ?_
    refine lv_iload_n hx hb dX12_addBar_51 rfl (lv_at hl 1 rfl) ?_
    refine lv_ishl hx hb dX12_addBar_52 ?_
    refine lv_ior hx hb dX12_addBar_53 ?_
    obtain ⟨j14, hj14, hf⟩ := bnd hf
    obtain ⟨w15, hw15, hf⟩ := bnd hf
    replace hw15 := Option.some.inj hw15
    refine hw_iast (x := ((aI q10 a12.1 j13) ||| (1 <<< (a_1 &&& 31)))) hx hb hKs hH ha12.1 ha12.2 hj14 dX12_addBar_54 (fun H locs hH => ?_)
    rw [hw15] at hH
    refine hl_aload_n hx hb dX12_addBar_55 rfl (lv_at hl 0 rfl) ?_
    refine g12_5 hx hb hts hown hKs hH rfl ho m2_224 dX12_addBar_56 ?_
    obtain ⟨a16, ha16, hf⟩ := bnd hf
    replace ha16 := chk_some ha16
    refine gn10_5 hx hb hts hown hKs hH ha16.1 ha16.2 m2_135 dX12_addBar_59 ?_
    refine lv_iload_n hx hb dX12_addBar_62 rfl (lv_at hl 2 rfl) ?_
    obtain ⟨a17, ha17, hf⟩ := bnd hf
    replace ha17 := cha_some ha17
    obtain ⟨j18, hj18, hf⟩ := bnd hf
    refine hw_aald27 hx hb hKs hH ha17.1 ha17.2 hj18 dX12_addBar_63 ?_
    refine hl_astore_n (i := 3) (lv' := [(3, rv E (aR w15 a17.1 j18)), (0, rv E (some o)), (1, .int a_1), (2, .int a_2)]) hx hb dX12_addBar_64 rfl hl (by decide) rfl (fun ls hl => ?_)
    refine hl_aload_n hx hb dX12_addBar_65 rfl (lv_at hl 0 rfl) ?_
    obtain ⟨a19, ha19, hf⟩ := bnd hf
    replace ha19 := chk_some ha19
    refine gn7_0 hx hb hts hown hKs hH ha19.1 ha19.2 m2_71 dX12_addBar_66 ?_
    refine lv_iconst (v := 1) hx hb dX12_addBar_69 (by decide) ?_
    refine lv_icmp_ne (tgt := 85) hx hb dX12_addBar_70 (by decide) (fun c20 => ?_) (fun c20 => ?_)
    · replace hf := (if_neg c20).symm.trans hf
      refine lv_iconst (v := 0) hx hb dX12_addBar_85 (by decide) ?_
      refine lv_istore (i := 4) (lv' := [(4, .int 0), (3, rv E (aR w15 a17.1 j18)), (0, rv E (some o)), (1, .int a_1), (2, .int a_2)]) hx hb dX12_addBar_86 hl (by decide) (by simp [List.filter_cons, cat_q, cat_i, cat_j, imax, imin]) (fun ls hl => ?_)
      refine lv_iload hx hb dX12_addBar_88 (lv_at hl 0 rfl) ?_
      refine lv_if_eq (tgt := 102) hx hb dX12_addBar_90 (by decide) (fun c21 => ?_) (fun c21 => ?_)
      · skip
        refine lv_iload hx hb dX12_addBar_102 (lv_at hl 0 rfl) ?_
        exact hx_zret hx hb (Nat.le_of_ble_eq_true rfl) (Nat.le_of_ble_eq_true rfl) hret rfl hf hH hlocks dX12_addBar_104
      · exact (by revert c21; decide : False).elim
    · replace hf := (if_pos c20).symm.trans hf
      refine hl_aload_n hx hb dX12_addBar_73 rfl (lv_at hl 0 rfl) ?_
      refine gn7_5 hx hb hts hown hKs hH ha19.1 ha19.2 m2_88 dX12_addBar_74 ?_
      refine lv_iload_n hx hb dX12_addBar_77 rfl (lv_at hl 2 rfl) ?_
      refine lv_icmp_ne (tgt := 85) hx hb dX12_addBar_78 (by decide) (fun c22 => ?_) (fun c22 => ?_)
      · replace hf := (if_neg c22).symm.trans hf
        refine lv_iconst (v := 0) hx hb dX12_addBar_85 (by decide) ?_
        refine lv_istore (i := 4) (lv' := [(4, .int 0), (3, rv E (aR w15 a17.1 j18)), (0, rv E (some o)), (1, .int a_1), (2, .int a_2)]) hx hb dX12_addBar_86 hl (by decide) (by simp [List.filter_cons, cat_q, cat_i, cat_j, imax, imin]) (fun ls hl => ?_)
        refine lv_iload hx hb dX12_addBar_88 (lv_at hl 0 rfl) ?_
        refine lv_if_eq (tgt := 102) hx hb dX12_addBar_90 (by decide) (fun c23 => ?_) (fun c23 => ?_)
        · skip
          refine lv_iload hx hb dX12_addBar_102 (lv_at hl 0 rfl) ?_
          exact hx_zret hx hb (Nat.le_of_ble_eq_true rfl) (Nat.le_of_ble_eq_true rfl) hret rfl hf hH hlocks dX12_addBar_104
        · exact (by revert c23; decide : False).elim
      · replace hf := (if_pos c22).symm.trans hf
        refine lv_iconst (v := 1) hx hb dX12_addBar_81 (by decide) ?_
        refine lv_goto (tgt := 86) hx hb dX12_addBar_82 (by decide) ?_
        refine lv_istore (i := 4) (lv' := [(4, .int 1), (3, rv E (aR w15 a17.1 j18)), (0, rv E (some o)), (1, .int a_1), (2, .int a_2)]) hx hb dX12_addBar_86 hl (by decide) (by simp [List.filter_cons, cat_q, cat_i, cat_j, imax, imin]) (fun ls hl => ?_)
        refine lv_iload hx hb dX12_addBar_88 (lv_at hl 0 rfl) ?_
        refine lv_if_eq (tgt := 102) hx hb dX12_addBar_90 (by decide) (fun c24 => ?_) (fun c24 => ?_)
        · exact (by revert c24; decide : False).elim
        · skip
          refine hl_aload_n hx hb dX12_addBar_93 rfl (lv_at hl 2 rfl) ?_
          refine g12_5 hx hb hts hown hKs hH rfl ho m2_224 dX12_addBar_94 ?_
          refine lv_iload_n hx hb dX12_addBar_97 rfl (lv_at hl 4 rfl) ?_
          refine lv_iconst (v := 1) hx hb dX12_addBar_98 (by decide) ?_
          obtain ⟨q25, hq25, hf⟩ := bnd hf
          refine hcV_v hx hb hml hown hts hKs hT hb0 hH (As := [.int a_2, .int 1]) (rest := []) (k_X10_takeAway l E K H.size a16 a_2 1 w15 ha16.2 hq25) (gV m6_80 m6_81 m6_82 m1_12 m6_83) hd_X10_takeAway ⟨Nat.le_of_ble_eq_true rfl, Nat.le_of_ble_eq_true rfl, rfl, rfl⟩ ha16.1 ha16.2 rfl rfl rfl hl.1 rfl rc0 rfl dX12_addBar_99 ⟨Nat.le_of_ble_eq_true rfl, Nat.le_of_ble_eq_true rfl⟩ (fun H locs hH => ?_)
          refine lv_iload hx hb dX12_addBar_102 (lv_at hl 0 rfl) ?_
          exact hx_zret hx hb (Nat.le_of_ble_eq_true rfl) (Nat.le_of_ble_eq_true rfl) hret rfl hf hH hlocks dX12_addBar_104
  · replace hf := (if_neg c9).symm.trans hf
    exact hx_throw hx hb hls (code := 3) hml hl.1 hown hts hKs hT hb0 hH (by decide) rfl m5_194 m1_29 hat_RX12_333 dX12_addBar_28 dX12_addBar_31 dX12_addBar_32 dX12_addBar_35 hout (Nat.le_of_ble_eq_true rfl) rc0 (Nat.le_of_ble_eq_true rfl) (Nat.le_of_ble_eq_true rfl) (Nat.le_of_ble_eq_true rfl) hlocks hf (Nat.le_of_ble_eq_true rfl) (Nat.le_of_ble_eq_true rfl)

theorem dX12_printHearing_0 : decode cX12_printHearing 0 = .ok (.aload_n 0, 1) := by decide +kernel
theorem dX12_printHearing_1 : decode cX12_printHearing 1 = .ok (.getfield 35, 3) := by decide +kernel
theorem dX12_printHearing_4 : decode cX12_printHearing 4 = .ok (.getfield 213, 3) := by decide +kernel
theorem dX12_printHearing_7 : decode cX12_printHearing 7 = .ok (.iload_n 1, 1) := by decide +kernel
theorem dX12_printHearing_8 : decode cX12_printHearing 8 = .ok (.aaload, 1) := by decide +kernel
theorem dX12_printHearing_9 : decode cX12_printHearing 9 = .ok (.astore_n 2, 1) := by decide +kernel
theorem dX12_printHearing_10 : decode cX12_printHearing 10 = .ok (.aload_n 0, 1) := by decide +kernel
theorem dX12_printHearing_11 : decode cX12_printHearing 11 = .ok (.bipush 48, 2) := by decide +kernel
theorem dX12_printHearing_13 : decode cX12_printHearing 13 = .ok (.aload_n 2, 1) := by decide +kernel
theorem dX12_printHearing_14 : decode cX12_printHearing 14 = .ok (.getfield 257, 3) := by decide +kernel
theorem dX12_printHearing_17 : decode cX12_printHearing 17 = .ok (.iadd, 1) := by decide +kernel
theorem dX12_printHearing_18 : decode cX12_printHearing 18 = .ok (.i2b, 1) := by decide +kernel
theorem dX12_printHearing_19 : decode cX12_printHearing 19 = .ok (.invokevirtual 375, 3) := by decide +kernel
theorem dX12_printHearing_22 : decode cX12_printHearing 22 = .ok (.aload_n 0, 1) := by decide +kernel
theorem dX12_printHearing_23 : decode cX12_printHearing 23 = .ok (.bipush 32, 2) := by decide +kernel
theorem dX12_printHearing_25 : decode cX12_printHearing 25 = .ok (.invokevirtual 375, 3) := by decide +kernel
theorem dX12_printHearing_28 : decode cX12_printHearing 28 = .ok (.aload_n 0, 1) := by decide +kernel
theorem dX12_printHearing_29 : decode cX12_printHearing 29 = .ok (.iconst 0, 1) := by decide +kernel
theorem dX12_printHearing_30 : decode cX12_printHearing 30 = .ok (.aload_n 2, 1) := by decide +kernel
theorem dX12_printHearing_31 : decode cX12_printHearing 31 = .ok (.getfield 260, 3) := by decide +kernel
theorem dX12_printHearing_34 : decode cX12_printHearing 34 = .ok (.invokevirtual 379, 3) := by decide +kernel
theorem dX12_printHearing_37 : decode cX12_printHearing 37 = .ok (.aload_n 0, 1) := by decide +kernel
theorem dX12_printHearing_38 : decode cX12_printHearing 38 = .ok (.bipush 32, 2) := by decide +kernel
theorem dX12_printHearing_40 : decode cX12_printHearing 40 = .ok (.invokevirtual 375, 3) := by decide +kernel
theorem dX12_printHearing_43 : decode cX12_printHearing 43 = .ok (.aload_n 0, 1) := by decide +kernel
theorem dX12_printHearing_44 : decode cX12_printHearing 44 = .ok (.iconst 3, 1) := by decide +kernel
theorem dX12_printHearing_45 : decode cX12_printHearing 45 = .ok (.iload_n 1, 1) := by decide +kernel
theorem dX12_printHearing_46 : decode cX12_printHearing 46 = .ok (.invokevirtual 379, 3) := by decide +kernel
theorem dX12_printHearing_49 : decode cX12_printHearing 49 = .ok (.aload_n 0, 1) := by decide +kernel
theorem dX12_printHearing_50 : decode cX12_printHearing 50 = .ok (.bipush 32, 2) := by decide +kernel
theorem dX12_printHearing_52 : decode cX12_printHearing 52 = .ok (.invokevirtual 375, 3) := by decide +kernel
theorem dX12_printHearing_55 : decode cX12_printHearing 55 = .ok (.aload_n 0, 1) := by decide +kernel
theorem dX12_printHearing_56 : decode cX12_printHearing 56 = .ok (.iconst 1, 1) := by decide +kernel
theorem dX12_printHearing_57 : decode cX12_printHearing 57 = .ok (.aload_n 2, 1) := by decide +kernel
theorem dX12_printHearing_58 : decode cX12_printHearing 58 = .ok (.getfield 263, 3) := by decide +kernel
theorem dX12_printHearing_61 : decode cX12_printHearing 61 = .ok (.invokevirtual 379, 3) := by decide +kernel
theorem dX12_printHearing_64 : decode cX12_printHearing 64 = .ok (.aload_n 0, 1) := by decide +kernel
theorem dX12_printHearing_65 : decode cX12_printHearing 65 = .ok (.bipush 10, 2) := by decide +kernel
theorem dX12_printHearing_67 : decode cX12_printHearing 67 = .ok (.invokevirtual 375, 3) := by decide +kernel
theorem dX12_printHearing_70 : decode cX12_printHearing 70 = .ok (.return_, 1) := by decide +kernel
theorem hd_X12_printHearing : yX12_printHearing.cls = RX12 ∧ yX12_printHearing.cls ≠ "java/lang/invoke/MethodHandle" ∧ yX12_printHearing.cls ≠ "java/lang/invoke/VarHandle" ∧ (parseMethodDescriptor yX12_printHearing.desc).map (fun d => d.parameters.length) = some 1 := by decide +kernel
theorem hs_X12_printHearing : yX12_printHearing.cls ≠ "java/lang/invoke/MethodHandle" ∧ yX12_printHearing.cls ≠ "java/lang/invoke/VarHandle" ∧ (parseMethodDescriptor yX12_printHearing.desc).map (fun d => d.parameters.length) = some 1 := by decide +kernel
set_option maxHeartbeats 4000000 in
set_option maxRecDepth 100000 in
theorem k_X12_printHearing (l : Launch) (E : Ev) (K : Kd) (z : Nat) (o : Nat) (a_1 : Int32) (w : Wd) (ho : K o = some (10, 0)) {w' : Wd} (hf : f_X12_printHearing K o a_1 w = some w') : Met l yX12_printHearing (Cond.code yX12_printHearing cX12_printHearing 3 (Option.none : Option Jvm.ClassFile.FieldType) :: bt) ({ frames := 2, cells := 0, slots := 0, locals := 47 } : Room) (va_Pc [rv E (some o), .int a_1] (HB E K w z)) (QV E K z w') 0 0 (hA E) := by
  refine Met.ofW (cc := cX12_printHearing) (maxL := 3) (ret := (Option.none : Option Jvm.ClassFile.FieldType)) (by decide) rfl ?_
  intro p e s m args below meth c s₁ B hml hv
  obtain ⟨rfl, hz, hP, hKs, hT, hb0⟩ := hv
  have C : CX p l e s m _ meth c cX12_printHearing 3 RX12 (Option.none : Option Jvm.ClassFile.FieldType) E := ⟨B.exec, B.bytes, hml, findClass_of_methodNamed B.named, fun w h => atoms_spec (ws := Cond.code yX12_printHearing cX12_printHearing 3 (Option.none : Option Jvm.ClassFile.FieldType) :: bt) B.pre w (List.mem_cons_of_mem _ h), hKs, hT, by rw [hz]; exact hb0, B.notSynchronized, B.returns⟩
  have hH : HQ E K z w s s.heap [] := ⟨hP, va_S.rf, hz⟩
  obtain ⟨hx, hb, hml, hown, hts, hKs, hT, hb0, hlocks, hret⟩ := id C
  have hl := lv_entry [rv E (some o), .int a_1] (n := 3) (by simp [lg_len_nil, lg_len_i, lg_len_j, lg_len_q, lg_len_f, lg_len_d, lg_len_r])
  rw [lg_entry_eq]
  generalize (lg_sl [rv E (some o), .int a_1] ++ List.replicate (3 - (lg_sl [rv E (some o), .int a_1]).length) Slot.unset).toArray = ls at hl ⊢
  replace hl : lv_has ls 3 [(0, rv E (some o)), (1, .int a_1)] := by simpa only [lv_args, cat_q, cat_i, cat_j, reduceIte, Nat.reduceEqDiff, Nat.reduceAdd, Nat.zero_add] using hl
  generalize s.heap = H at hH ⊢
  unfold f_X12_printHearing at hf
  refine hl_aload_n hx hb dX12_printHearing_0 rfl (lv_at hl 0 rfl) ?_
  refine g12_5 hx hb hts hown hKs hH rfl ho m2_224 dX12_printHearing_1 ?_
  obtain ⟨a1, ha1, hf⟩ := bnd hf
  replace ha1 := chk_some ha1
  refine gn10_5 hx hb hts hown hKs hH ha1.1 ha1.2 m2_135 dX12_printHearing_4 ?_
  refine lv_iload_n hx hb dX12_printHearing_7 rfl (lv_at hl 1 rfl) ?_
  obtain ⟨a2, ha2, hf⟩ := bnd hf
  replace ha2 := cha_some ha2
  obtain ⟨j3, hj3, hf⟩ := bnd hf
  refine hw_aald27 hx hb hKs hH ha2.1 ha2.2 hj3 dX12_printHearing_8 ?_
  refine hl_astore_n (i := 2) (lv' := [(2, rv E (aR w a2.1 j3)), (0, rv E (some o)), (1, .int a_1)]) hx hb dX12_printHearing_9 rfl hl (by decide) rfl (fun ls hl => ?_)
  refine hl_aload_n hx hb dX12_printHearing_10 rfl (lv_at hl 1 rfl) ?_
  refine lv_bipush (v := 48) hx hb dX12_printHearing_11 (by decide) ?_
  refine hl_aload_n hx hb dX12_printHearing_13 rfl (lv_at hl 0 rfl) ?_
  obtain ⟨a4, ha4, hf⟩ := bnd hf
  replace ha4 := chk_some ha4
  refine gn7_3 hx hb hts hown hKs hH ha4.1 ha4.2 m2_80 dX12_printHearing_14 ?_
  refine lv_iadd hx hb dX12_printHearing_17 ?_
  refine lv_i2b (v := ((48 + (wI w 703 a4)).toInt8.toInt32)) hx hb dX12_printHearing_18 rfl ?_
  obtain ⟨q5, hq5, hf⟩ := bnd hf
  refine hcV_v hx hb hml hown hts hKs hT hb0 hH (As := [.int (((48 + (wI w 703 a4)).toInt8.toInt32))]) (rest := []) (k_X12_print l E K H.size o ((48 + (wI w 703 a4)).toInt8.toInt32) w ho hq5) (gV m6_142 m6_144 ms_43 m1_1 m6_145) hd_X12_print ⟨Nat.le_of_ble_eq_true rfl, Nat.le_of_ble_eq_true rfl, rfl, rfl⟩ rfl ho rfl rfl rfl hl.1 rfl rc0 rfl dX12_printHearing_19 ⟨Nat.zero_le _, Nat.zero_le _⟩ (fun H locs hH => ?_)
  refine hl_aload_n hx hb dX12_printHearing_22 rfl (lv_at hl 1 rfl) ?_
  refine lv_bipush (v := 32) hx hb dX12_printHearing_23 (by decide) ?_
  obtain ⟨q6, hq6, hf⟩ := bnd hf
  refine hcV_v hx hb hml hown hts hKs hT hb0 hH (As := [.int 32]) (rest := []) (k_X12_print l E K H.size o 32 q5 ho hq6) (gV m6_142 m6_144 ms_43 m1_1 m6_145) hd_X12_print ⟨Nat.le_of_ble_eq_true rfl, Nat.le_of_ble_eq_true rfl, rfl, rfl⟩ rfl ho rfl rfl rfl hl.1 rfl rc0 rfl dX12_printHearing_25 ⟨Nat.zero_le _, Nat.zero_le _⟩ (fun H locs hH => ?_)
  refine hl_aload_n hx hb dX12_printHearing_28 rfl (lv_at hl 1 rfl) ?_
  refine lv_iconst (v := 0) hx hb dX12_printHearing_29 (by decide) ?_
  refine hl_aload_n hx hb dX12_printHearing_30 rfl (lv_at hl 0 rfl) ?_
  refine gn7_4 hx hb hts hown hKs hH ha4.1 ha4.2 m2_84 dX12_printHearing_31 ?_
  obtain ⟨q7, hq7, hf⟩ := bnd hf
  refine hcV_v hx hb hml hown hts hKs hT hb0 hH (As := [.int 0, .int ((wI q6 704 a4))]) (rest := []) (k_X12_printName l E K H.size o 0 (wI q6 704 a4) q6 ho hq7) (gV m6_146 m6_148 ms_44 m1_1 m6_149) hd_X12_printName ⟨Nat.le_of_ble_eq_true rfl, Nat.le_of_ble_eq_true rfl, rfl, rfl⟩ rfl ho rfl rfl rfl hl.1 rfl rc0 rfl dX12_printHearing_34 ⟨Nat.zero_le _, Nat.zero_le _⟩ (fun H locs hH => ?_)
  refine hl_aload_n hx hb dX12_printHearing_37 rfl (lv_at hl 1 rfl) ?_
  refine lv_bipush (v := 32) hx hb dX12_printHearing_38 (by decide) ?_
  obtain ⟨q8, hq8, hf⟩ := bnd hf
  refine hcV_v hx hb hml hown hts hKs hT hb0 hH (As := [.int 32]) (rest := []) (k_X12_print l E K H.size o 32 q7 ho hq8) (gV m6_142 m6_144 ms_43 m1_1 m6_145) hd_X12_print ⟨Nat.le_of_ble_eq_true rfl, Nat.le_of_ble_eq_true rfl, rfl, rfl⟩ rfl ho rfl rfl rfl hl.1 rfl rc0 rfl dX12_printHearing_40 ⟨Nat.zero_le _, Nat.zero_le _⟩ (fun H locs hH => ?_)
  refine hl_aload_n hx hb dX12_printHearing_43 rfl (lv_at hl 1 rfl) ?_
  refine lv_iconst (v := 3) hx hb dX12_printHearing_44 (by decide) ?_
  refine lv_iload_n hx hb dX12_printHearing_45 rfl (lv_at hl 2 rfl) ?_
  obtain ⟨q9, hq9, hf⟩ := bnd hf
  refine hcV_v hx hb hml hown hts hKs hT hb0 hH (As := [.int 3, .int a_1]) (rest := []) (k_X12_printName l E K H.size o 3 a_1 q8 ho hq9) (gV m6_146 m6_148 ms_44 m1_1 m6_149) hd_X12_printName ⟨Nat.le_of_ble_eq_true rfl, Nat.le_of_ble_eq_true rfl, rfl, rfl⟩ rfl ho rfl rfl rfl hl.1 rfl rc0 rfl dX12_printHearing_46 ⟨Nat.zero_le _, Nat.zero_le _⟩ (fun H locs hH => ?_)
  refine hl_aload_n hx hb dX12_printHearing_49 rfl (lv_at hl 1 rfl) ?_
  refine lv_bipush (v := 32) hx hb dX12_printHearing_50 (by decide) ?_
  obtain ⟨q10, hq10, hf⟩ := bnd hf
  refine hcV_v hx hb hml hown hts hKs hT hb0 hH (As := [.int 32]) (rest := []) (k_X12_print l E K H.size o 32 q9 ho hq10) (gV m6_142 m6_144 ms_43 m1_1 m6_145) hd_X12_print ⟨Nat.le_of_ble_eq_true rfl, Nat.le_of_ble_eq_true rfl, rfl, rfl⟩ rfl ho rfl rfl rfl hl.1 rfl rc0 rfl dX12_printHearing_52 ⟨Nat.zero_le _, Nat.zero_le _⟩ (fun H locs hH => ?_)
  refine hl_aload_n hx hb dX12_printHearing_55 rfl (lv_at hl 1 rfl) ?_
  refine lv_iconst (v := 1) hx hb dX12_printHearing_56 (by decide) ?_
  refine hl_aload_n hx hb dX12_printHearing_57 rfl (lv_at hl 0 rfl) ?_
  refine gn7_5 hx hb hts hown hKs hH ha4.1 ha4.2 m2_88 dX12_printHearing_58 ?_
  obtain ⟨q11, hq11, hf⟩ := bnd hf
  refine hcV_v hx hb hml hown hts hKs hT hb0 hH (As := [.int 1, .int ((wI q10 705 a4))]) (rest := []) (k_X12_printName l E K H.size o 1 (wI q10 705 a4) q10 ho hq11) (gV m6_146 m6_148 ms_44 m1_1 m6_149) hd_X12_printName ⟨Nat.le_of_ble_eq_true rfl, Nat.le_of_ble_eq_true rfl, rfl, rfl⟩ rfl ho rfl rfl rfl hl.1 rfl rc0 rfl dX12_printHearing_61 ⟨Nat.zero_le _, Nat.zero_le _⟩ (fun H locs hH => ?_)
  refine hl_aload_n hx hb dX12_printHearing_64 rfl (lv_at hl 1 rfl) ?_
  refine lv_bipush (v := 10) hx hb dX12_printHearing_65 (by decide) ?_
  obtain ⟨q12, hq12, hf⟩ := bnd hf
  refine hcV_v hx hb hml hown hts hKs hT hb0 hH (As := [.int 10]) (rest := []) (k_X12_print l E K H.size o 10 q11 ho hq12) (gV m6_142 m6_144 ms_43 m1_1 m6_145) hd_X12_print ⟨Nat.le_of_ble_eq_true rfl, Nat.le_of_ble_eq_true rfl, rfl, rfl⟩ rfl ho rfl rfl rfl hl.1 rfl rc0 rfl dX12_printHearing_67 ⟨Nat.zero_le _, Nat.zero_le _⟩ (fun H locs hH => ?_)
  exact hw_vret hx hb hret hf hH hlocks dX12_printHearing_70
end
