section
variable {p : Program} {l : Launch} {e : Env} {s : State} {m : MethodId} {args : Array Value} {below : List Frame} {meth : Method} {c : Code} {E : Ev} {K : Kd} {z : Nat}

theorem dX8_init_0 : decode cX8_init 0 = .ok (.aload_n 0, 1) := by decide +kernel
theorem dX8_init_1 : decode cX8_init 1 = .ok (.invokespecial 3, 3) := by decide +kernel
theorem dX8_init_4 : decode cX8_init 4 = .ok (.aload_n 0, 1) := by decide +kernel
theorem dX8_init_5 : decode cX8_init 5 = .ok (.iconst 0, 1) := by decide +kernel
theorem dX8_init_6 : decode cX8_init 6 = .ok (.newarray .byte, 2) := by decide +kernel
theorem dX8_init_8 : decode cX8_init 8 = .ok (.putfield 9, 3) := by decide +kernel
theorem dX8_init_11 : decode cX8_init 11 = .ok (.aload_n 0, 1) := by decide +kernel
theorem dX8_init_12 : decode cX8_init 12 = .ok (.getstatic 15, 3) := by decide +kernel
theorem dX8_init_15 : decode cX8_init 15 = .ok (.putfield 21, 3) := by decide +kernel
theorem dX8_init_18 : decode cX8_init 18 = .ok (.return_, 1) := by decide +kernel
theorem hd_X8_init : yX8_init.cls = RX8 ∧ yX8_init.cls ≠ "java/lang/invoke/MethodHandle" ∧ yX8_init.cls ≠ "java/lang/invoke/VarHandle" ∧ (parseMethodDescriptor yX8_init.desc).map (fun d => d.parameters.length) = some 0 := by decide +kernel
theorem hs_X8_init : yX8_init.cls ≠ "java/lang/invoke/MethodHandle" ∧ yX8_init.cls ≠ "java/lang/invoke/VarHandle" ∧ (parseMethodDescriptor yX8_init.desc).map (fun d => d.parameters.length) = some 0 := by decide +kernel
set_option maxHeartbeats 4000000 in
set_option maxRecDepth 100000 in
theorem k_X8_init (l : Launch) (E : Ev) (K : Kd) (n : Nat) (o : Nat) (w : Wd) {K' : Kd} {n' : Nat} {w' : Wd} (hf : f_X8_init K n o w = some (K', n', w')) : Met l yX8_init (Cond.code yX8_init cX8_init 1 (Option.none : Option Jvm.ClassFile.FieldType) :: bt) ({ frames := 1, cells := 1, slots := 0, locals := 12 } : Room) (va_Pc [rv E (some o)] (HB E K w (E.2.1 + n))) (QV E K' (E.2.1 + n') w') 1 0 (hA E) := by
  refine Met.ofW (cc := cX8_init) (maxL := 1) (ret := (Option.none : Option Jvm.ClassFile.FieldType)) (by decide) rfl ?_
  intro p e s m args below meth c s₁ B hml hv
  have hn2 : meth.name = "<init>" := (name_of_methodNamed B.named B.method).1
  obtain ⟨rfl, hz, hP, hKs, hT, hb0⟩ := hv
  have C : CX p l e s m _ meth c cX8_init 1 RX8 (Option.none : Option Jvm.ClassFile.FieldType) E := ⟨B.exec, B.bytes, hml, findClass_of_methodNamed B.named, fun w h => atoms_spec (ws := Cond.code yX8_init cX8_init 1 (Option.none : Option Jvm.ClassFile.FieldType) :: bt) B.pre w (List.mem_cons_of_mem _ h), hKs, hT, by rw [hz]; exact hb0, B.notSynchronized, B.returns⟩
  have hH : HQ E K (E.2.1 + n) w s s.heap [] := ⟨hP, va_S.rf, hz⟩
  obtain ⟨hx, hb, hml, hown, hts, hKs, hT, hb0, hlocks, hret⟩ := id C
  have hl := lv_entry [rv E (some o)] (n := 1) (by simp [lg_len_nil, lg_len_i, lg_len_j, lg_len_q, lg_len_f, lg_len_d, lg_len_r])
  rw [lg_entry_eq]
  generalize (lg_sl [rv E (some o)] ++ List.replicate (1 - (lg_sl [rv E (some o)]).length) Slot.unset).toArray = ls at hl ⊢
  replace hl : lv_has ls 1 [(0, rv E (some o))] := by simpa only [lv_args, cat_q, cat_i, cat_j, reduceIte, Nat.reduceEqDiff, Nat.reduceAdd, Nat.zero_add] using hl
  generalize s.heap = H at hH ⊢
  unfold f_X8_init at hf
  refine hl_aload_n hx hb dX8_init_0 rfl (lv_at hl 0 rfl) ?_
  refine hw_obj hx hb hml hl.1 hown hts m1_232 m1_40 m1_41 dX8_init_1 (Nat.le_of_ble_eq_true rfl) (Nat.le_of_ble_eq_true rfl) ?_
  refine hl_aload_n hx hb dX8_init_4 rfl (lv_at hl 0 rfl) ?_
  refine lv_iconst (v := 0) hx hb dX8_init_5 (by decide) ?_
  refine hw_newa21 (N := 0) hx hb hts m2_21 hKs hH (by decide) (by decide) (Nat.le_of_ble_eq_true rfl) (Nat.le_of_ble_eq_true rfl) (Nat.le_of_ble_eq_true rfl) dX8_init_6 (fun H hH => ?_)
  obtain ⟨K1, hK1, hf⟩ := bnd hf
  replace hK1 := Option.some.inj hK1
  obtain ⟨w2, hw2, hf⟩ := bnd hf
  replace hw2 := Option.some.inj hw2
  rw [hK1, hw2] at hH
  obtain ⟨a3, ha3, hf⟩ := bnd hf
  replace ha3 := chk_some ha3
  obtain ⟨w4, hw4, hf⟩ := bnd hf
  replace hw4 := Option.some.inj hw4
  refine p8_0 (v := (some n)) hx hb hts hown hKs hH ha3.1 ha3.2 m1_235 dX8_init_8 (fun H locs hH => ?_)
  rw [hw4] at hH
  refine hl_aload_n hx hb dX8_init_11 rfl (lv_at hl 0 rfl) ?_
  refine hw_tok hx hb 19 (by decide) hts hown hT hH m1_233 dX8_init_12 ?_
  obtain ⟨w5, hw5, hf⟩ := bnd hf
  replace hw5 := Option.some.inj hw5
  refine p8_4 (v := (some 19)) hx hb hts hown hKs hH ha3.1 ha3.2 m2_0 dX8_init_15 (fun H locs hH => ?_)
  rw [hw5] at hH
  exact hw_aret hx hb (Nat.le_of_ble_eq_true rfl) (Nat.le_of_ble_eq_true rfl) hret hf hH hlocks dX8_init_18

theorem dX8_isDigit_0 : decode cX8_isDigit 0 = .ok (.iload_n 0, 1) := by decide +kernel
theorem dX8_isDigit_1 : decode cX8_isDigit 1 = .ok (.bipush 48, 2) := by decide +kernel
theorem dX8_isDigit_3 : decode cX8_isDigit 3 = .ok (.if_icmp .lt 13, 3) := by decide +kernel
theorem dX8_isDigit_6 : decode cX8_isDigit 6 = .ok (.iload_n 0, 1) := by decide +kernel
theorem dX8_isDigit_7 : decode cX8_isDigit 7 = .ok (.bipush 57, 2) := by decide +kernel
theorem dX8_isDigit_9 : decode cX8_isDigit 9 = .ok (.if_icmp .gt 7, 3) := by decide +kernel
theorem dX8_isDigit_12 : decode cX8_isDigit 12 = .ok (.iconst 1, 1) := by decide +kernel
theorem dX8_isDigit_13 : decode cX8_isDigit 13 = .ok (.goto 4, 3) := by decide +kernel
theorem dX8_isDigit_16 : decode cX8_isDigit 16 = .ok (.iconst 0, 1) := by decide +kernel
theorem dX8_isDigit_17 : decode cX8_isDigit 17 = .ok (.ireturn, 1) := by decide +kernel
theorem hs_X8_isDigit : yX8_isDigit.cls ≠ "java/lang/invoke/MethodHandle" ∧ yX8_isDigit.cls ≠ "java/lang/invoke/VarHandle" ∧ (parseMethodDescriptor yX8_isDigit.desc).map (fun d => d.parameters.length) = some 1 := by decide +kernel
set_option maxHeartbeats 4000000 in
set_option maxRecDepth 100000 in
theorem k_X8_isDigit (l : Launch) (E : Ev) (K : Kd) (z : Nat) (a_0 : Int32) (w : Wd) {r : Bool} {w' : Wd} (hf : f_X8_isDigit K a_0 w = some (r, w')) : Met l yX8_isDigit (Cond.code yX8_isDigit cX8_isDigit 1 (Option.some Jvm.ClassFile.FieldType.boolean) :: bt) ({ frames := 0, cells := 0, slots := 0, locals := 0 } : Room) (va_Pc [.int a_0] (HB E K w z)) (QI E K z w' (b2i r)) 0 0 (hA E) := by
  refine Met.ofW (cc := cX8_isDigit) (maxL := 1) (ret := (Option.some Jvm.ClassFile.FieldType.boolean)) (by decide) rfl ?_
  intro p e s m args below meth c s₁ B hml hv
  obtain ⟨rfl, hz, hP, hKs, hT, hb0⟩ := hv
  have C : CX p l e s m _ meth c cX8_isDigit 1 RX8 (Option.some Jvm.ClassFile.FieldType.boolean) E := ⟨B.exec, B.bytes, hml, findClass_of_methodNamed B.named, fun w h => atoms_spec (ws := Cond.code yX8_isDigit cX8_isDigit 1 (Option.some Jvm.ClassFile.FieldType.boolean) :: bt) B.pre w (List.mem_cons_of_mem _ h), hKs, hT, by rw [hz]; exact hb0, B.notSynchronized, B.returns⟩
  have hH : HQ E K z w s s.heap [] := ⟨hP, va_S.rf, hz⟩
  obtain ⟨hx, hb, hml, hown, hts, hKs, hT, hb0, hlocks, hret⟩ := id C
  have hl := lv_entry [.int a_0] (n := 1) (by simp [lg_len_nil, lg_len_i, lg_len_j, lg_len_q, lg_len_f, lg_len_d, lg_len_r])
  rw [lg_entry_eq]
  generalize (lg_sl [.int a_0] ++ List.replicate (1 - (lg_sl [.int a_0]).length) Slot.unset).toArray = ls at hl ⊢
  replace hl : lv_has ls 1 [(0, .int a_0)] := by simpa only [lv_args, cat_q, cat_i, cat_j, reduceIte, Nat.reduceEqDiff, Nat.reduceAdd, Nat.zero_add] using hl
  generalize s.heap = H at hH ⊢
  unfold f_X8_isDigit at hf
  refine lv_iload_n hx hb dX8_isDigit_0 rfl (lv_at hl 0 rfl) ?_
  refine lv_bipush (v := 48) hx hb dX8_isDigit_1 (by decide) ?_
  refine lv_icmp_lt (tgt := 16) hx hb dX8_isDigit_3 (by decide) (fun c1 => ?_) (fun c1 => ?_)
  · replace hf := (if_pos c1).symm.trans hf
    refine lv_iconst (v := 0) hx hb dX8_isDigit_16 (by decide) ?_
    exact hw_zret hx hb hret rfl hf hH hlocks dX8_isDigit_17
  · replace hf := (if_neg c1).symm.trans hf
    refine lv_iload_n hx hb dX8_isDigit_6 rfl (lv_at hl 0 rfl) ?_
    refine lv_bipush (v := 57) hx hb dX8_isDigit_7 (by decide) ?_
    refine lv_icmp_gt (tgt := 16) hx hb dX8_isDigit_9 (by decide) (fun c2 => ?_) (fun c2 => ?_)
    · replace hf := (if_pos c2).symm.trans hf
      refine lv_iconst (v := 0) hx hb dX8_isDigit_16 (by decide) ?_
      exact hw_zret hx hb hret rfl hf hH hlocks dX8_isDigit_17
    · replace hf := (if_neg c2).symm.trans hf
      refine lv_iconst (v := 1) hx hb dX8_isDigit_12 (by decide) ?_
      refine lv_goto (tgt := 17) hx hb dX8_isDigit_13 (by decide) ?_
      exact hw_zret hx hb hret rfl hf hH hlocks dX8_isDigit_17

theorem dX9_size_0 : decode cX9_size 0 = .ok (.aload_n 0, 1) := by decide +kernel
theorem dX9_size_1 : decode cX9_size 1 = .ok (.getfield 11, 3) := by decide +kernel
theorem dX9_size_4 : decode cX9_size 4 = .ok (.iload_n 1, 1) := by decide +kernel
theorem dX9_size_5 : decode cX9_size 5 = .ok (.aaload, 1) := by decide +kernel
theorem dX9_size_6 : decode cX9_size 6 = .ok (.getfield 65, 3) := by decide +kernel
theorem dX9_size_9 : decode cX9_size 9 = .ok (.ireturn, 1) := by decide +kernel
theorem hd_X9_size : yX9_size.cls = RX9 ∧ yX9_size.cls ≠ "java/lang/invoke/MethodHandle" ∧ yX9_size.cls ≠ "java/lang/invoke/VarHandle" ∧ (parseMethodDescriptor yX9_size.desc).map (fun d => d.parameters.length) = some 1 := by decide +kernel
theorem hs_X9_size : yX9_size.cls ≠ "java/lang/invoke/MethodHandle" ∧ yX9_size.cls ≠ "java/lang/invoke/VarHandle" ∧ (parseMethodDescriptor yX9_size.desc).map (fun d => d.parameters.length) = some 1 := by decide +kernel
set_option maxHeartbeats 4000000 in
set_option maxRecDepth 100000 in
theorem k_X9_size (l : Launch) (E : Ev) (K : Kd) (z : Nat) (o : Nat) (a_1 : Int32) (w : Wd) (ho : K o = some (8, 0)) {r : Int32} {w' : Wd} (hf : f_X9_size K o a_1 w = some (r, w')) : Met l yX9_size (Cond.code yX9_size cX9_size 2 (Option.some Jvm.ClassFile.FieldType.int) :: bt) ({ frames := 0, cells := 0, slots := 0, locals := 0 } : Room) (va_Pc [rv E (some o), .int a_1] (HB E K w z)) (QI E K z w' r) 0 0 (hA E) := by
  refine Met.ofW (cc := cX9_size) (maxL := 2) (ret := (Option.some Jvm.ClassFile.FieldType.int)) (by decide) rfl ?_
  intro p e s m args below meth c s₁ B hml hv
  obtain ⟨rfl, hz, hP, hKs, hT, hb0⟩ := hv
  have C : CX p l e s m _ meth c cX9_size 2 RX9 (Option.some Jvm.ClassFile.FieldType.int) E := ⟨B.exec, B.bytes, hml, findClass_of_methodNamed B.named, fun w h => atoms_spec (ws := Cond.code yX9_size cX9_size 2 (Option.some Jvm.ClassFile.FieldType.int) :: bt) B.pre w (List.mem_cons_of_mem _ h), hKs, hT, by rw [hz]; exact hb0, B.notSynchronized, B.returns⟩
  have hH : HQ E K z w s s.heap [] := ⟨hP, va_S.rf, hz⟩
  obtain ⟨hx, hb, hml, hown, hts, hKs, hT, hb0, hlocks, hret⟩ := id C
  have hl := lv_entry [rv E (some o), .int a_1] (n := 2) (by simp [lg_len_nil, lg_len_i, lg_len_j, lg_len_q, lg_len_f, lg_len_d, lg_len_r])
  rw [lg_entry_eq]
  generalize (lg_sl [rv E (some o), .int a_1] ++ List.replicate (2 - (lg_sl [rv E (some o), .int a_1]).length) Slot.unset).toArray = ls at hl ⊢
  replace hl : lv_has ls 2 [(0, rv E (some o)), (1, .int a_1)] := by simpa only [lv_args, cat_q, cat_i, cat_j, reduceIte, Nat.reduceEqDiff, Nat.reduceAdd, Nat.zero_add] using hl
  generalize s.heap = H at hH ⊢
  unfold f_X9_size at hf
  refine hl_aload_n hx hb dX9_size_0 rfl (lv_at hl 0 rfl) ?_
  refine g9_0 hx hb hts hown hKs hH rfl ho m1_151 dX9_size_1 ?_
  refine lv_iload_n hx hb dX9_size_4 rfl (lv_at hl 1 rfl) ?_
  obtain ⟨a1, ha1, hf⟩ := bnd hf
  replace ha1 := cha_some ha1
  obtain ⟨j2, hj2, hf⟩ := bnd hf
  refine hw_aald26 hx hb hKs hH ha1.1 ha1.2 hj2 dX9_size_5 ?_
  obtain ⟨a3, ha3, hf⟩ := bnd hf
  replace ha3 := chk_some ha3
  refine gn4_1 hx hb hts hown hKs hH ha3.1 ha3.2 m1_78 dX9_size_6 ?_
  exact hw_iret hx hb hret hf hH hlocks dX9_size_9

theorem dX9_addOff_0 : decode cX9_addOff 0 = .ok (.aload_n 0, 1) := by decide +kernel
theorem dX9_addOff_1 : decode cX9_addOff 1 = .ok (.getfield 21, 3) := by decide +kernel
theorem dX9_addOff_4 : decode cX9_addOff 4 = .ok (.iload_n 1, 1) := by decide +kernel
theorem dX9_addOff_5 : decode cX9_addOff 5 = .ok (.iaload, 1) := by decide +kernel
theorem dX9_addOff_6 : decode cX9_addOff 6 = .ok (.iconst 3, 1) := by decide +kernel
theorem dX9_addOff_7 : decode cX9_addOff 7 = .ok (.if_icmp .ge 41, 3) := by decide +kernel
theorem dX9_addOff_10 : decode cX9_addOff 10 = .ok (.iload_n 1, 1) := by decide +kernel
theorem dX9_addOff_11 : decode cX9_addOff 11 = .ok (.iconst 3, 1) := by decide +kernel
theorem dX9_addOff_12 : decode cX9_addOff 12 = .ok (.imul, 1) := by decide +kernel
theorem dX9_addOff_13 : decode cX9_addOff 13 = .ok (.aload_n 0, 1) := by decide +kernel
theorem dX9_addOff_14 : decode cX9_addOff 14 = .ok (.getfield 21, 3) := by decide +kernel
theorem dX9_addOff_17 : decode cX9_addOff 17 = .ok (.iload_n 1, 1) := by decide +kernel
theorem dX9_addOff_18 : decode cX9_addOff 18 = .ok (.iaload, 1) := by decide +kernel
theorem dX9_addOff_19 : decode cX9_addOff 19 = .ok (.iadd, 1) := by decide +kernel
theorem dX9_addOff_20 : decode cX9_addOff 20 = .ok (.istore 4, 2) := by decide +kernel
theorem dX9_addOff_22 : decode cX9_addOff 22 = .ok (.aload_n 0, 1) := by decide +kernel
theorem dX9_addOff_23 : decode cX9_addOff 23 = .ok (.getfield 24, 3) := by decide +kernel
theorem dX9_addOff_26 : decode cX9_addOff 26 = .ok (.iload 4, 2) := by decide +kernel
theorem dX9_addOff_28 : decode cX9_addOff 28 = .ok (.iload_n 2, 1) := by decide +kernel
theorem dX9_addOff_29 : decode cX9_addOff 29 = .ok (.iastore, 1) := by decide +kernel
theorem dX9_addOff_30 : decode cX9_addOff 30 = .ok (.aload_n 0, 1) := by decide +kernel
theorem dX9_addOff_31 : decode cX9_addOff 31 = .ok (.getfield 27, 3) := by decide +kernel
theorem dX9_addOff_34 : decode cX9_addOff 34 = .ok (.iload 4, 2) := by decide +kernel
theorem dX9_addOff_36 : decode cX9_addOff 36 = .ok (.iload_n 3, 1) := by decide +kernel
theorem dX9_addOff_37 : decode cX9_addOff 37 = .ok (.iastore, 1) := by decide +kernel
theorem dX9_addOff_38 : decode cX9_addOff 38 = .ok (.aload_n 0, 1) := by decide +kernel
theorem dX9_addOff_39 : decode cX9_addOff 39 = .ok (.getfield 21, 3) := by decide +kernel
theorem dX9_addOff_42 : decode cX9_addOff 42 = .ok (.iload_n 1, 1) := by decide +kernel
theorem dX9_addOff_43 : decode cX9_addOff 43 = .ok (.dup2, 1) := by decide +kernel
theorem dX9_addOff_44 : decode cX9_addOff 44 = .ok (.iaload, 1) := by decide +kernel
theorem dX9_addOff_45 : decode cX9_addOff 45 = .ok (.iconst 1, 1) := by decide +kernel
theorem dX9_addOff_46 : decode cX9_addOff 46 = .ok (.iadd, 1) := by decide +kernel
theorem dX9_addOff_47 : decode cX9_addOff 47 = .ok (.iastore, 1) := by decide +kernel
theorem dX9_addOff_48 : decode cX9_addOff 48 = .ok (.return_, 1) := by decide +kernel
theorem hd_X9_addOff : yX9_addOff.cls = RX9 ∧ yX9_addOff.cls ≠ "java/lang/invoke/MethodHandle" ∧ yX9_addOff.cls ≠ "java/lang/invoke/VarHandle" ∧ (parseMethodDescriptor yX9_addOff.desc).map (fun d => d.parameters.length) = some 3 := by decide +kernel
theorem hs_X9_addOff : yX9_addOff.cls ≠ "java/lang/invoke/MethodHandle" ∧ yX9_addOff.cls ≠ "java/lang/invoke/VarHandle" ∧ (parseMethodDescriptor yX9_addOff.desc).map (fun d => d.parameters.length) = some 3 := by decide +kernel
set_option maxHeartbeats 4000000 in
set_option maxRecDepth 100000 in
theorem k_X9_addOff (l : Launch) (E : Ev) (K : Kd) (z : Nat) (o : Nat) (a_1 : Int32) (a_2 : Int32) (a_3 : Int32) (w : Wd) (ho : K o = some (8, 0)) {w' : Wd} (hf : f_X9_addOff K o a_1 a_2 a_3 w = some w') : Met l yX9_addOff (Cond.code yX9_addOff cX9_addOff 5 (Option.none : Option Jvm.ClassFile.FieldType) :: bt) ({ frames := 0, cells := 0, slots := 0, locals := 0 } : Room) (va_Pc [rv E (some o), .int a_1, .int a_2, .int a_3] (HB E K w z)) (QV E K z w') 0 0 (hA E) := by
  refine Met.ofW (cc := cX9_addOff) (maxL := 5) (ret := (Option.none : Option Jvm.ClassFile.FieldType)) (by decide) rfl ?_
  intro p e s m args below meth c s₁ B hml hv
  obtain ⟨rfl, hz, hP, hKs, hT, hb0⟩ := hv
  have C : CX p l e s m _ meth c cX9_addOff 5 RX9 (Option.none : Option Jvm.ClassFile.FieldType) E := ⟨B.exec, B.bytes, hml, findClass_of_methodNamed B.named, fun w h => atoms_spec (ws := Cond.code yX9_addOff cX9_addOff 5 (Option.none : Option Jvm.ClassFile.FieldType) :: bt) B.pre w (List.mem_cons_of_mem _ h), hKs, hT, by rw [hz]; exact hb0, B.notSynchronized, B.returns⟩
  have hH : HQ E K z w s s.heap [] := ⟨hP, va_S.rf, hz⟩
  obtain ⟨hx, hb, hml, hown, hts, hKs, hT, hb0, hlocks, hret⟩ := id C
  have hl := lv_entry [rv E (some o), .int a_1, .int a_2, .int a_3] (n := 5) (by simp [lg_len_nil, lg_len_i, lg_len_j, lg_len_q, lg_len_f, lg_len_d, lg_len_r])
  rw [lg_entry_eq]
  generalize (lg_sl [rv E (some o), .int a_1, .int a_2, .int a_3] ++ List.replicate (5 - (lg_sl [rv E (some o), .int a_1, .int a_2, .int a_3]).length) Slot.unset).toArray = ls at hl ⊢
  replace hl : lv_has ls 5 [(0, rv E (some o)), (1, .int a_1), (2, .int a_2), (3, .int a_3)] := by simpa only [lv_args, cat_q, cat_i, cat_j, reduceIte, Nat.reduceEqDiff, Nat.reduceAdd, Nat.zero_add] using hl
  generalize s.heap = H at hH ⊢
  unfold f_X9_addOff at hf
  refine hl_aload_n hx hb dX9_addOff_0 rfl (lv_at hl 0 rfl) ?_
  refine g9_2 hx hb hts hown hKs hH rfl ho m1_156 dX9_addOff_1 ?_
  refine lv_iload_n hx hb dX9_addOff_4 rfl (lv_at hl 1 rfl) ?_
  obtain ⟨a1, ha1, hf⟩ := bnd hf
  replace ha1 := cha_some ha1
  obtain ⟨j2, hj2, hf⟩ := bnd hf
  refine hw_iald hx hb hKs hH ha1.1 ha1.2 hj2 dX9_addOff_5 ?_
  refine lv_iconst (v := 3) hx hb dX9_addOff_6 (by decide) ?_
  refine lv_icmp_ge (tgt := 48) hx hb dX9_addOff_7 (by decide) (fun c3 => ?_) (fun c3 => ?_)
  · replace hf := (if_pos c3).symm.trans hf
    exact hw_vret hx hb hret hf hH hlocks dX9_addOff_48
  · replace hf := (if_neg c3).symm.trans hf
    refine lv_iload_n hx hb dX9_addOff_10 rfl (lv_at hl 1 rfl) ?_
    refine lv_iconst (v := 3) hx hb dX9_addOff_11 (by decide) ?_
    refine lv_imul hx hb dX9_addOff_12 ?_
    refine hl_aload_n hx hb dX9_addOff_13 rfl (lv_at hl 0 rfl) ?_
    refine g9_2 hx hb hts hown hKs hH rfl ho m1_156 dX9_addOff_14 ?_
    refine lv_iload_n hx hb dX9_addOff_17 rfl (lv_at hl 1 rfl) ?_
    obtain ⟨j4, hj4, hf⟩ := bnd hf
    refine hw_iald hx hb hKs hH ha1.1 ha1.2 hj4 dX9_addOff_18 ?_
    refine lv_iadd hx hb dX9_addOff_19 ?_
    refine lv_istore (i := 4) (lv' := [(4, .int (((a_1 * 3) + (aI w a1.1 j4)))), (0, rv E (some o)), (1, .int a_1), (2, .int a_2), (3, .int a_3)]) hx hb dX9_addOff_20 hl (by decide) rfl (fun ls hl => ?_)
    refine hl_aload_n hx hb dX9_addOff_22 rfl (lv_at hl 1 rfl) ?_
    refine g9_3 hx hb hts hown hKs hH rfl ho m1_157 dX9_addOff_23 ?_
    refine lv_iload hx hb dX9_addOff_26 (lv_at hl 0 rfl) ?_
    refine lv_iload_n hx hb dX9_addOff_28 rfl (lv_at hl 3 rfl) ?_
    obtain ⟨a5, ha5, hf⟩ := bnd hf
    replace ha5 := cha_some ha5
    obtain ⟨j6, hj6, hf⟩ := bnd hf
    obtain ⟨w7, hw7, hf⟩ := bnd hf
    replace hw7 := Option.some.inj hw7
    refine hw_iast (x := a_2) hx hb hKs hH ha5.1 ha5.2 hj6 dX9_addOff_29 (fun H locs hH => ?_)
    rw [hw7] at hH
    refine hl_aload_n hx hb dX9_addOff_30 rfl (lv_at hl 1 rfl) ?_
    refine g9_4 hx hb hts hown hKs hH rfl ho m1_158 dX9_addOff_31 ?_
    refine lv_iload hx hb dX9_addOff_34 (lv_at hl 0 rfl) ?_
    refine lv_iload_n hx hb dX9_addOff_36 rfl (lv_at hl 4 rfl) ?_
    obtain ⟨a8, ha8, hf⟩ := bnd hf
    replace ha8 := cha_some ha8
    obtain ⟨j9, hj9, hf⟩ := bnd hf
    obtain ⟨w10, hw10, hf⟩ := bnd hf
    replace hw10 := Option.some.inj hw10
    refine hw_iast (x := a_3) hx hb hKs hH ha8.1 ha8.2 hj9 dX9_addOff_37 (fun H locs hH => ?_)
    rw [hw10] at hH
    refine hl_aload_n hx hb dX9_addOff_38 rfl (lv_at hl 1 rfl) ?_
    refine g9_2 hx hb hts hown hKs hH rfl ho m1_156 dX9_addOff_39 ?_
    refine lv_iload_n hx hb dX9_addOff_42 rfl (lv_at hl 2 rfl) ?_
    refine lv_dup2_11 hx hb dX9_addOff_43 rfl rv_cat ?_
    obtain ⟨a11, ha11, hf⟩ := bnd hf
    replace ha11 := cha_some ha11
    obtain ⟨j12, hj12, hf⟩ := bnd hf
    refine hw_iald hx hb hKs hH ha11.1 ha11.2 hj12 dX9_addOff_44 ?_
    refine lv_iconst (v := 1) hx hb dX9_addOff_45 (by decide) ?_
    refine lv_iadd hx hb dX9_addOff_46 ?_
    obtain ⟨j13, hj13, hf⟩ := bnd hf
    obtain ⟨w14, hw14, hf⟩ := bnd hf
    replace hw14 := Option.some.inj hw14
    refine hw_iast (x := ((aI w10 a11.1 j12) + 1)) hx hb hKs hH ha11.1 ha11.2 hj13 dX9_addOff_47 (fun H locs hH => ?_)
    rw [hw14] at hH
    exact hw_vret hx hb hret hf hH hlocks dX9_addOff_48

theorem dX9_isAway_0 : decode cX9_isAway 0 = .ok (.iload_n 1, 1) := by decide +kernel
theorem dX9_isAway_1 : decode cX9_isAway 1 = .ok (.iconst 3, 1) := by decide +kernel
theorem dX9_isAway_2 : decode cX9_isAway 2 = .ok (.imul, 1) := by decide +kernel
theorem dX9_isAway_3 : decode cX9_isAway 3 = .ok (.istore_n 3, 1) := by decide +kernel
theorem dX9_isAway_4 : decode cX9_isAway 4 = .ok (.iload_n 3, 1) := by decide +kernel
theorem dX9_isAway_5 : decode cX9_isAway 5 = .ok (.istore 4, 2) := by decide +kernel
theorem dX9_isAway_7 : decode cX9_isAway 7 = .ok (.iload 4, 2) := by decide +kernel
theorem dX9_isAway_9 : decode cX9_isAway 9 = .ok (.iload_n 3, 1) := by decide +kernel
theorem dX9_isAway_10 : decode cX9_isAway 10 = .ok (.aload_n 0, 1) := by decide +kernel
theorem dX9_isAway_11 : decode cX9_isAway 11 = .ok (.getfield 21, 3) := by decide +kernel
theorem dX9_isAway_14 : decode cX9_isAway 14 = .ok (.iload_n 1, 1) := by decide +kernel
theorem dX9_isAway_15 : decode cX9_isAway 15 = .ok (.iaload, 1) := by decide +kernel
theorem dX9_isAway_16 : decode cX9_isAway 16 = .ok (.iadd, 1) := by decide +kernel
theorem dX9_isAway_17 : decode cX9_isAway 17 = .ok (.if_icmp .ge 33, 3) := by decide +kernel
theorem dX9_isAway_20 : decode cX9_isAway 20 = .ok (.iload_n 2, 1) := by decide +kernel
theorem dX9_isAway_21 : decode cX9_isAway 21 = .ok (.aload_n 0, 1) := by decide +kernel
theorem dX9_isAway_22 : decode cX9_isAway 22 = .ok (.getfield 24, 3) := by decide +kernel
theorem dX9_isAway_25 : decode cX9_isAway 25 = .ok (.iload 4, 2) := by decide +kernel
theorem dX9_isAway_27 : decode cX9_isAway 27 = .ok (.iaload, 1) := by decide +kernel
theorem dX9_isAway_28 : decode cX9_isAway 28 = .ok (.if_icmp .lt 16, 3) := by decide +kernel
theorem dX9_isAway_31 : decode cX9_isAway 31 = .ok (.iload_n 2, 1) := by decide +kernel
theorem dX9_isAway_32 : decode cX9_isAway 32 = .ok (.aload_n 0, 1) := by decide +kernel
theorem dX9_isAway_33 : decode cX9_isAway 33 = .ok (.getfield 27, 3) := by decide +kernel
theorem dX9_isAway_36 : decode cX9_isAway 36 = .ok (.iload 4, 2) := by decide +kernel
theorem dX9_isAway_38 : decode cX9_isAway 38 = .ok (.iaload, 1) := by decide +kernel
theorem dX9_isAway_39 : decode cX9_isAway 39 = .ok (.if_icmp .gt 5, 3) := by decide +kernel
theorem dX9_isAway_42 : decode cX9_isAway 42 = .ok (.iconst 1, 1) := by decide +kernel
theorem dX9_isAway_43 : decode cX9_isAway 43 = .ok (.ireturn, 1) := by decide +kernel
theorem dX9_isAway_44 : decode cX9_isAway 44 = .ok (.iinc 4 1, 3) := by decide +kernel
theorem dX9_isAway_47 : decode cX9_isAway 47 = .ok (.goto (-40), 3) := by decide +kernel
theorem dX9_isAway_50 : decode cX9_isAway 50 = .ok (.iconst 0, 1) := by decide +kernel
theorem dX9_isAway_51 : decode cX9_isAway 51 = .ok (.ireturn, 1) := by decide +kernel
theorem hd_X9_isAway : yX9_isAway.cls = RX9 ∧ yX9_isAway.cls ≠ "java/lang/invoke/MethodHandle" ∧ yX9_isAway.cls ≠ "java/lang/invoke/VarHandle" ∧ (parseMethodDescriptor yX9_isAway.desc).map (fun d => d.parameters.length) = some 2 := by decide +kernel
theorem hs_X9_isAway : yX9_isAway.cls ≠ "java/lang/invoke/MethodHandle" ∧ yX9_isAway.cls ≠ "java/lang/invoke/VarHandle" ∧ (parseMethodDescriptor yX9_isAway.desc).map (fun d => d.parameters.length) = some 2 := by decide +kernel
set_option maxHeartbeats 4000000 in
set_option maxRecDepth 100000 in
theorem l_X9_isAway_L7 (C : CX p l e s m args meth c cX9_isAway 5 RX9 (Option.some Jvm.ClassFile.FieldType.boolean) E) {o : Nat} (ho : K o = some (8, 0)) {r : Bool} {w' : Wd} (k : Int32 → Int32 → Int32 → Int32 → Wd → Option (Bool × Wd)) (hk : ∀ (v1_7 : Int32) (v2_7 : Int32) (v3_7 : Int32) (v4_7 : Int32) (w : Wd) (H : Heap) (locs : List Loc) (ls : Array Slot), HQ E K z w s H locs → lv_has ls 5 [(1, .int v1_7), (2, .int v2_7), (3, .int v3_7), (4, .int v4_7), (0, rv E (some o))] → k v1_7 v2_7 v3_7 v4_7 w = some (r, w') → W p l e ({ frames := 0, cells := 0, slots := 0, locals := 0 } : Room) s m args below meth c H locs 0 0 (MQ below (QI E K z w' (b2i r)) args s 0 0 (hA E)) (F0 m 50 ls [])) : ∀ (n : Nat) (v1_7 : Int32) (v2_7 : Int32) (v3_7 : Int32) (v4_7 : Int32) (w : Wd) (H : Heap) (locs : List Loc) (ls : Array Slot), HQ E K z w s H locs → lv_has ls 5 [(1, .int v1_7), (2, .int v2_7), (3, .int v3_7), (4, .int v4_7), (0, rv E (some o))] → f_X9_isAway_L7 K o k n v1_7 v2_7 v3_7 v4_7 w = some (r, w') → W p l e ({ frames := 0, cells := 0, slots := 0, locals := 0 } : Room) s m args below meth c H locs 0 0 (MQ below (QI E K z w' (b2i r)) args s 0 0 (hA E)) (F0 m 7 ls []) := by
  obtain ⟨hx, hb, hml, hown, hts, hKs, hT, hb0, hlocks, hret⟩ := id C
  intro n
  induction n with
  | zero =>
    intro v1_7 v2_7 v3_7 v4_7 w H locs ls hH hl hf
    cases hf
  | succ n ih =>
    intro v1_7 v2_7 v3_7 v4_7 w H locs ls hH hl hf
    rw [f_X9_isAway_L7] at hf
    refine lv_iload hx hb dX9_isAway_7 (lv_at hl 3 rfl) ?_
    refine lv_iload_n hx hb dX9_isAway_9 rfl (lv_at hl 2 rfl) ?_
    refine hl_aload_n hx hb dX9_isAway_10 rfl (lv_at hl 4 rfl) ?_
    refine g9_2 hx hb hts hown hKs hH rfl ho m1_156 dX9_isAway_11 ?_
    refine lv_iload_n hx hb dX9_isAway_14 rfl (lv_at hl 0 rfl) ?_
    obtain ⟨a2, ha2, hf⟩ := bnd hf
    replace ha2 := cha_some ha2
    obtain ⟨j3, hj3, hf⟩ := bnd hf
    refine hw_iald hx hb hKs hH ha2.1 ha2.2 hj3 dX9_isAway_15 ?_
    refine lv_iadd hx hb dX9_isAway_16 ?_
    refine lv_icmp_ge (tgt := 50) hx hb dX9_isAway_17 (by decide) (fun c4 => ?_) (fun c4 => ?_)
    · replace hf := (if_pos c4).symm.trans hf
      exact hk v1_7 v2_7 v3_7 v4_7 _ _ _ _ hH (lv_sub hl [0, 1, 2, 3, 4] rfl) hf
    · replace hf := (if_neg c4).symm.trans hf
      refine lv_iload_n hx hb dX9_isAway_20 rfl (lv_at hl 1 rfl) ?_
      refine hl_aload_n hx hb dX9_isAway_21 rfl (lv_at hl 4 rfl) ?_
      refine g9_3 hx hb hts hown hKs hH rfl ho m1_157 dX9_isAway_22 ?_
      refine lv_iload hx hb dX9_isAway_25 (lv_at hl 3 rfl) ?_
      obtain ⟨a5, ha5, hf⟩ := bnd hf
      replace ha5 := cha_some ha5
      obtain ⟨j6, hj6, hf⟩ := bnd hf
      refine hw_iald hx hb hKs hH ha5.1 ha5.2 hj6 dX9_isAway_27 ?_
      refine lv_icmp_lt (tgt := 44) hx hb dX9_isAway_28 (by decide) (fun c7 => ?_) (fun c7 => ?_)
      · replace hf := (if_pos c7).symm.trans hf
        refine lv_iinc (v := (v4_7 + 1)) (lv' := [(4, .int ((v4_7 + 1))), (1, .int v1_7), (2, .int v2_7), (3, .int v3_7), (0, rv E (some o))]) hx hb dX9_isAway_44 hl (k := 3) rfl rfl (by decide) rfl (fun ls hl => ?_)
        refine lv_goto (tgt := 7) hx hb dX9_isAway_47 (by decide) ?_
        exact ih v1_7 v2_7 v3_7 (v4_7 + 1) _ _ _ _ hH (lv_sub hl [1, 2, 3, 0, 4] rfl) hf
      · replace hf := (if_neg c7).symm.trans hf
        refine lv_iload_n hx hb dX9_isAway_31 rfl (lv_at hl 1 rfl) ?_
        refine hl_aload_n hx hb dX9_isAway_32 rfl (lv_at hl 4 rfl) ?_
        refine g9_4 hx hb hts hown hKs hH rfl ho m1_158 dX9_isAway_33 ?_
        refine lv_iload hx hb dX9_isAway_36 (lv_at hl 3 rfl) ?_
        obtain ⟨a8, ha8, hf⟩ := bnd hf
        replace ha8 := cha_some ha8
        obtain ⟨j9, hj9, hf⟩ := bnd hf
        refine hw_iald hx hb hKs hH ha8.1 ha8.2 hj9 dX9_isAway_38 ?_
        refine lv_icmp_gt (tgt := 44) hx hb dX9_isAway_39 (by decide) (fun c10 => ?_) (fun c10 => ?_)
        · replace hf := (if_pos c10).symm.trans hf
          refine lv_iinc (v := (v4_7 + 1)) (lv' := [(4, .int ((v4_7 + 1))), (1, .int v1_7), (2, .int v2_7), (3, .int v3_7), (0, rv E (some o))]) hx hb dX9_isAway_44 hl (k := 3) rfl rfl (by decide) rfl (fun ls hl => ?_)
          refine lv_goto (tgt := 7) hx hb dX9_isAway_47 (by decide) ?_
          exact ih v1_7 v2_7 v3_7 (v4_7 + 1) _ _ _ _ hH (lv_sub hl [1, 2, 3, 0, 4] rfl) hf
        · replace hf := (if_neg c10).symm.trans hf
          refine lv_iconst (v := 1) hx hb dX9_isAway_42 (by decide) ?_
          exact hw_zret hx hb hret rfl hf hH hlocks dX9_isAway_43
set_option maxHeartbeats 4000000 in
set_option maxRecDepth 100000 in
theorem k_X9_isAway (l : Launch) (E : Ev) (K : Kd) (z : Nat) (o : Nat) (a_1 : Int32) (a_2 : Int32) (w : Wd) (ho : K o = some (8, 0)) {r : Bool} {w' : Wd} (hf : f_X9_isAway K o a_1 a_2 w = some (r, w')) : Met l yX9_isAway (Cond.code yX9_isAway cX9_isAway 5 (Option.some Jvm.ClassFile.FieldType.boolean) :: bt) ({ frames := 0, cells := 0, slots := 0, locals := 0 } : Room) (va_Pc [rv E (some o), .int a_1, .int a_2] (HB E K w z)) (QI E K z w' (b2i r)) 0 0 (hA E) := by
  refine Met.ofW (cc := cX9_isAway) (maxL := 5) (ret := (Option.some Jvm.ClassFile.FieldType.boolean)) (by decide) rfl ?_
  intro p e s m args below meth c s₁ B hml hv
  obtain ⟨rfl, hz, hP, hKs, hT, hb0⟩ := hv
  have C : CX p l e s m _ meth c cX9_isAway 5 RX9 (Option.some Jvm.ClassFile.FieldType.boolean) E := ⟨B.exec, B.bytes, hml, findClass_of_methodNamed B.named, fun w h => atoms_spec (ws := Cond.code yX9_isAway cX9_isAway 5 (Option.some Jvm.ClassFile.FieldType.boolean) :: bt) B.pre w (List.mem_cons_of_mem _ h), hKs, hT, by rw [hz]; exact hb0, B.notSynchronized, B.returns⟩
  have hH : HQ E K z w s s.heap [] := ⟨hP, va_S.rf, hz⟩
  obtain ⟨hx, hb, hml, hown, hts, hKs, hT, hb0, hlocks, hret⟩ := id C
  have hl := lv_entry [rv E (some o), .int a_1, .int a_2] (n := 5) (by simp [lg_len_nil, lg_len_i, lg_len_j, lg_len_q, lg_len_f, lg_len_d, lg_len_r])
  rw [lg_entry_eq]
  generalize (lg_sl [rv E (some o), .int a_1, .int a_2] ++ List.replicate (5 - (lg_sl [rv E (some o), .int a_1, .int a_2]).length) Slot.unset).toArray = ls at hl ⊢
  replace hl : lv_has ls 5 [(0, rv E (some o)), (1, .int a_1), (2, .int a_2)] := by simpa only [lv_args, cat_q, cat_i, cat_j, reduceIte, Nat.reduceEqDiff, Nat.reduceAdd, Nat.zero_add] using hl
  generalize s.heap = H at hH ⊢
  unfold f_X9_isAway at hf
  refine lv_iload_n hx hb dX9_isAway_0 rfl (lv_at hl 1 rfl) ?_
  refine lv_iconst (v := 3) hx hb dX9_isAway_1 (by decide) ?_
  refine lv_imul hx hb dX9_isAway_2 ?_
  refine lv_istore_n (i := 3) (lv' := [(3, .int ((a_1 * 3))), (0, rv E (some o)), (1, .int a_1), (2, .int a_2)]) hx hb dX9_isAway_3 rfl hl (by decide) rfl (fun ls hl => ?_)
  refine lv_iload_n hx hb dX9_isAway_4 rfl (lv_at hl 0 rfl) ?_
  refine lv_istore (i := 4) (lv' := [(4, .int ((a_1 * 3))), (3, .int ((a_1 * 3))), (0, rv E (some o)), (1, .int a_1), (2, .int a_2)]) hx hb dX9_isAway_5 hl (by decide) rfl (fun ls hl => ?_)
  refine l_X9_isAway_L7  C ho _ (fun v1_7 v2_7 v3_7 v4_7 w1 H locs ls hH hl hf => ?_) fu a_1 a_2 (a_1 * 3) (a_1 * 3) w _ _ _ hH (lv_sub hl [3, 4, 1, 0, 2] rfl) hf
  refine lv_iconst (v := 0) hx hb dX9_isAway_50 (by decide) ?_
  exact hw_zret hx hb hret rfl hf hH hlocks dX9_isAway_51

theorem dX9_awayOfficers_0 : decode cX9_awayOfficers 0 = .ok (.iconst 0, 1) := by decide +kernel
theorem dX9_awayOfficers_1 : decode cX9_awayOfficers 1 = .ok (.istore_n 2, 1) := by decide +kernel
theorem dX9_awayOfficers_2 : decode cX9_awayOfficers 2 = .ok (.iconst 0, 1) := by decide +kernel
theorem dX9_awayOfficers_3 : decode cX9_awayOfficers 3 = .ok (.istore_n 3, 1) := by decide +kernel
theorem dX9_awayOfficers_4 : decode cX9_awayOfficers 4 = .ok (.iload_n 3, 1) := by decide +kernel
theorem dX9_awayOfficers_5 : decode cX9_awayOfficers 5 = .ok (.aload_n 0, 1) := by decide +kernel
theorem dX9_awayOfficers_6 : decode cX9_awayOfficers 6 = .ok (.iconst 1, 1) := by decide +kernel
theorem dX9_awayOfficers_7 : decode cX9_awayOfficers 7 = .ok (.invokevirtual 87, 3) := by decide +kernel
theorem dX9_awayOfficers_10 : decode cX9_awayOfficers 10 = .ok (.if_icmp .ge 24, 3) := by decide +kernel
theorem dX9_awayOfficers_13 : decode cX9_awayOfficers 13 = .ok (.aload_n 0, 1) := by decide +kernel
theorem dX9_awayOfficers_14 : decode cX9_awayOfficers 14 = .ok (.iload_n 3, 1) := by decide +kernel
theorem dX9_awayOfficers_15 : decode cX9_awayOfficers 15 = .ok (.iload_n 1, 1) := by decide +kernel
theorem dX9_awayOfficers_16 : decode cX9_awayOfficers 16 = .ok (.invokevirtual 90, 3) := by decide +kernel
theorem dX9_awayOfficers_19 : decode cX9_awayOfficers 19 = .ok (.ifCond .eq 9, 3) := by decide +kernel
theorem dX9_awayOfficers_22 : decode cX9_awayOfficers 22 = .ok (.iload_n 2, 1) := by decide +kernel
theorem dX9_awayOfficers_23 : decode cX9_awayOfficers 23 = .ok (.iconst 1, 1) := by decide +kernel
theorem dX9_awayOfficers_24 : decode cX9_awayOfficers 24 = .ok (.iload_n 3, 1) := by decide +kernel
theorem dX9_awayOfficers_25 : decode cX9_awayOfficers 25 = .ok (.ishl, 1) := by decide +kernel
theorem dX9_awayOfficers_26 : decode cX9_awayOfficers 26 = .ok (.ior, 1) := by decide +kernel
theorem dX9_awayOfficers_27 : decode cX9_awayOfficers 27 = .ok (.istore_n 2, 1) := by decide +kernel
theorem dX9_awayOfficers_28 : decode cX9_awayOfficers 28 = .ok (.iinc 3 1, 3) := by decide +kernel
theorem dX9_awayOfficers_31 : decode cX9_awayOfficers 31 = .ok (.goto (-27), 3) := by decide +kernel
theorem dX9_awayOfficers_34 : decode cX9_awayOfficers 34 = .ok (.iload_n 2, 1) := by decide +kernel
theorem dX9_awayOfficers_35 : decode cX9_awayOfficers 35 = .ok (.ireturn, 1) := by decide +kernel
theorem hd_X9_awayOfficers : yX9_awayOfficers.cls = RX9 ∧ yX9_awayOfficers.cls ≠ "java/lang/invoke/MethodHandle" ∧ yX9_awayOfficers.cls ≠ "java/lang/invoke/VarHandle" ∧ (parseMethodDescriptor yX9_awayOfficers.desc).map (fun d => d.parameters.length) = some 1 := by decide +kernel
theorem hs_X9_awayOfficers : yX9_awayOfficers.cls ≠ "java/lang/invoke/MethodHandle" ∧ yX9_awayOfficers.cls ≠ "java/lang/invoke/VarHandle" ∧ (parseMethodDescriptor yX9_awayOfficers.desc).map (fun d => d.parameters.length) = some 1 := by decide +kernel
set_option maxHeartbeats 4000000 in
set_option maxRecDepth 100000 in
theorem l_X9_awayOfficers_L4 (C : CX p l e s m args meth c cX9_awayOfficers 4 RX9 (Option.some Jvm.ClassFile.FieldType.int) E) {o : Nat} (ho : K o = some (8, 0)) {r : Int32} {w' : Wd} (k : Int32 → Int32 → Int32 → Wd → Option (Int32 × Wd)) (hk : ∀ (v1_4 : Int32) (v2_4 : Int32) (v3_4 : Int32) (w : Wd) (H : Heap) (locs : List Loc) (ls : Array Slot), HQ E K z w s H locs → lv_has ls 4 [(1, .int v1_4), (2, .int v2_4), (3, .int v3_4), (0, rv E (some o))] → k v1_4 v2_4 v3_4 w = some (r, w') → W p l e ({ frames := 1, cells := 0, slots := 0, locals := 24 } : Room) s m args below meth c H locs 0 0 (MQ below (QI E K z w' r) args s 0 0 (hA E)) (F0 m 34 ls [])) : ∀ (n : Nat) (v1_4 : Int32) (v2_4 : Int32) (v3_4 : Int32) (w : Wd) (H : Heap) (locs : List Loc) (ls : Array Slot), HQ E K z w s H locs → lv_has ls 4 [(1, .int v1_4), (2, .int v2_4), (3, .int v3_4), (0, rv E (some o))] → f_X9_awayOfficers_L4 K o k n v1_4 v2_4 v3_4 w = some (r, w') → W p l e ({ frames := 1, cells := 0, slots := 0, locals := 24 } : Room) s m args below meth c H locs 0 0 (MQ below (QI E K z w' r) args s 0 0 (hA E)) (F0 m 4 ls []) := by
  obtain ⟨hx, hb, hml, hown, hts, hKs, hT, hb0, hlocks, hret⟩ := id C
  intro n
  induction n with
  | zero =>
    intro v1_4 v2_4 v3_4 w H locs ls hH hl hf
    cases hf
  | succ n ih =>
    intro v1_4 v2_4 v3_4 w H locs ls hH hl hf
    rw [f_X9_awayOfficers_L4] at hf
    refine lv_iload_n hx hb dX9_awayOfficers_4 rfl (lv_at hl 2 rfl) ?_
    refine hl_aload_n hx hb dX9_awayOfficers_5 rfl (lv_at hl 3 rfl) ?_
    refine lv_iconst (v := 1) hx hb dX9_awayOfficers_6 (by decide) ?_
    obtain ⟨q2, hq2, hf⟩ := bnd hf
    refine hcV_i hx hb hml hown hts hKs hT hb0 hH (As := [.int 1]) (rest := [.int v3_4]) (k_X9_size l E K H.size o 1 w ho hq2) (gV m3_40 m3_22 m3_23 m1_2 m3_24) hd_X9_size ⟨Nat.le_of_ble_eq_true rfl, Nat.le_of_ble_eq_true rfl, rfl, rfl⟩ rfl ho rfl rfl rfl hl.1 rfl (rcI rc0) rfl dX9_awayOfficers_7 ⟨Nat.zero_le _, Nat.zero_le _⟩ (fun H locs hH => ?_)
    refine lv_icmp_ge (tgt := 34) hx hb dX9_awayOfficers_10 (by decide) (fun c3 => ?_) (fun c3 => ?_)
    · replace hf := (if_pos c3).symm.trans hf
      exact hk v1_4 v2_4 v3_4 _ _ _ _ hH (lv_sub hl [0, 1, 2, 3] rfl) hf
    · replace hf := (if_neg c3).symm.trans hf
      refine hl_aload_n hx hb dX9_awayOfficers_13 rfl (lv_at hl 3 rfl) ?_
      refine lv_iload_n hx hb dX9_awayOfficers_14 rfl (lv_at hl 2 rfl) ?_
      refine lv_iload_n hx hb dX9_awayOfficers_15 rfl (lv_at hl 0 rfl) ?_
      obtain ⟨q4, hq4, hf⟩ := bnd hf
      refine hcV_i hx hb hml hown hts hKs hT hb0 hH (As := [.int v3_4, .int v1_4]) (rest := []) (k_X9_isAway l E K H.size o v3_4 v1_4 q2.2 ho hq4) (gV m3_220 m3_221 m3_222 m1_2 m3_223) hd_X9_isAway ⟨Nat.le_of_ble_eq_true rfl, Nat.le_of_ble_eq_true rfl, rfl, rfl⟩ rfl ho rfl rfl rfl hl.1 rfl rc0 rfl dX9_awayOfficers_16 ⟨Nat.zero_le _, Nat.zero_le _⟩ (fun H locs hH => ?_)
      refine lv_if_eq (tgt := 28) hx hb dX9_awayOfficers_19 (by decide) (fun c5 => ?_) (fun c5 => ?_)
      · replace hf := (if_pos c5).symm.trans hf
        refine lv_iinc (v := (v3_4 + 1)) (lv' := [(3, .int ((v3_4 + 1))), (1, .int v1_4), (2, .int v2_4), (0, rv E (some o))]) hx hb dX9_awayOfficers_28 hl (k := 2) rfl rfl (by decide) rfl (fun ls hl => ?_)
        refine lv_goto (tgt := 4) hx hb dX9_awayOfficers_31 (by decide) ?_
        exact ih v1_4 v2_4 (v3_4 + 1) _ _ _ _ hH (lv_sub hl [1, 2, 0, 3] rfl) hf
      · replace hf := (if_neg c5).symm.trans hf
        refine lv_iload_n hx hb dX9_awayOfficers_22 rfl (lv_at hl 1 rfl) ?_
        refine lv_iconst (v := 1) hx hb dX9_awayOfficers_23 (by decide) ?_
        refine lv_iload_n hx hb dX9_awayOfficers_24 rfl (lv_at hl 2 rfl) ?_
        refine lv_ishl hx hb dX9_awayOfficers_25 ?_
        refine lv_ior hx hb dX9_awayOfficers_26 ?_
        refine lv_istore_n (i := 2) (lv' := [(2, .int ((v2_4 ||| (1 <<< (v3_4 &&& 31))))), (1, .int v1_4), (3, .int v3_4), (0, rv E (some o))]) hx hb dX9_awayOfficers_27 rfl hl (by decide) rfl (fun ls hl => ?_)
        refine lv_iinc (v := (v3_4 + 1)) (lv' := [(3, .int ((v3_4 + 1))), (2, .int ((v2_4 ||| (1 <<< (v3_4 &&& 31))))), (1, .int v1_4), (0, rv E (some o))]) hx hb dX9_awayOfficers_28 hl (k := 2) rfl rfl (by decide) rfl (fun ls hl => ?_)
        refine lv_goto (tgt := 4) hx hb dX9_awayOfficers_31 (by decide) ?_
        exact ih v1_4 (v2_4 ||| (1 <<< (v3_4 &&& 31))) (v3_4 + 1) _ _ _ _ hH (lv_sub hl [2, 1, 0, 3] rfl) hf
set_option maxHeartbeats 4000000 in
set_option maxRecDepth 100000 in
theorem k_X9_awayOfficers (l : Launch) (E : Ev) (K : Kd) (z : Nat) (o : Nat) (a_1 : Int32) (w : Wd) (ho : K o = some (8, 0)) {r : Int32} {w' : Wd} (hf : f_X9_awayOfficers K o a_1 w = some (r, w')) : Met l yX9_awayOfficers (Cond.code yX9_awayOfficers cX9_awayOfficers 4 (Option.some Jvm.ClassFile.FieldType.int) :: bt) ({ frames := 1, cells := 0, slots := 0, locals := 24 } : Room) (va_Pc [rv E (some o), .int a_1] (HB E K w z)) (QI E K z w' r) 0 0 (hA E) := by
  refine Met.ofW (cc := cX9_awayOfficers) (maxL := 4) (ret := (Option.some Jvm.ClassFile.FieldType.int)) (by decide) rfl ?_
  intro p e s m args below meth c s₁ B hml hv
  obtain ⟨rfl, hz, hP, hKs, hT, hb0⟩ := hv
  have C : CX p l e s m _ meth c cX9_awayOfficers 4 RX9 (Option.some Jvm.ClassFile.FieldType.int) E := ⟨B.exec, B.bytes, hml, findClass_of_methodNamed B.named, fun w h => atoms_spec (ws := Cond.code yX9_awayOfficers cX9_awayOfficers 4 (Option.some Jvm.ClassFile.FieldType.int) :: bt) B.pre w (List.mem_cons_of_mem _ h), hKs, hT, by rw [hz]; exact hb0, B.notSynchronized, B.returns⟩
  have hH : HQ E K z w s s.heap [] := ⟨hP, va_S.rf, hz⟩
  obtain ⟨hx, hb, hml, hown, hts, hKs, hT, hb0, hlocks, hret⟩ := id C
  have hl := lv_entry [rv E (some o), .int a_1] (n := 4) (by simp [lg_len_nil, lg_len_i, lg_len_j, lg_len_q, lg_len_f, lg_len_d, lg_len_r])
  rw [lg_entry_eq]
  generalize (lg_sl [rv E (some o), .int a_1] ++ List.replicate (4 - (lg_sl [rv E (some o), .int a_1]).length) Slot.unset).toArray = ls at hl ⊢
  replace hl : lv_has ls 4 [(0, rv E (some o)), (1, .int a_1)] := by simpa only [lv_args, cat_q, cat_i, cat_j, reduceIte, Nat.reduceEqDiff, Nat.reduceAdd, Nat.zero_add] using hl
  generalize s.heap = H at hH ⊢
  unfold f_X9_awayOfficers at hf
  refine lv_iconst (v := 0) hx hb dX9_awayOfficers_0 (by decide) ?_
  refine lv_istore_n (i := 2) (lv' := [(2, .int 0), (0, rv E (some o)), (1, .int a_1)]) hx hb dX9_awayOfficers_1 rfl hl (by decide) rfl (fun ls hl => ?_)
  refine lv_iconst (v := 0) hx hb dX9_awayOfficers_2 (by decide) ?_
  refine lv_istore_n (i := 3) (lv' := [(3, .int 0), (2, .int 0), (0, rv E (some o)), (1, .int a_1)]) hx hb dX9_awayOfficers_3 rfl hl (by decide) rfl (fun ls hl => ?_)
  refine l_X9_awayOfficers_L4  C ho _ (fun v1_4 v2_4 v3_4 w1 H locs ls hH hl hf => ?_) fu a_1 0 0 w _ _ _ hH (lv_sub hl [3, 1, 0, 2] rfl) hf
  refine lv_iload_n hx hb dX9_awayOfficers_34 rfl (lv_at hl 1 rfl) ?_
  exact hw_iret hx hb hret hf hH hlocks dX9_awayOfficers_35

theorem dX10_copyFrom_0 : decode cX10_copyFrom 0 = .ok (.aload_n 0, 1) := by decide +kernel
theorem dX10_copyFrom_1 : decode cX10_copyFrom 1 = .ok (.aload_n 1, 1) := by decide +kernel
theorem dX10_copyFrom_2 : decode cX10_copyFrom 2 = .ok (.getfield 31, 3) := by decide +kernel
theorem dX10_copyFrom_5 : decode cX10_copyFrom 5 = .ok (.putfield 31, 3) := by decide +kernel
theorem dX10_copyFrom_8 : decode cX10_copyFrom 8 = .ok (.aload_n 0, 1) := by decide +kernel
theorem dX10_copyFrom_9 : decode cX10_copyFrom 9 = .ok (.aload_n 1, 1) := by decide +kernel
theorem dX10_copyFrom_10 : decode cX10_copyFrom 10 = .ok (.getfield 39, 3) := by decide +kernel
theorem dX10_copyFrom_13 : decode cX10_copyFrom 13 = .ok (.putfield 39, 3) := by decide +kernel
theorem dX10_copyFrom_16 : decode cX10_copyFrom 16 = .ok (.aload_n 0, 1) := by decide +kernel
theorem dX10_copyFrom_17 : decode cX10_copyFrom 17 = .ok (.getfield 12, 3) := by decide +kernel
theorem dX10_copyFrom_20 : decode cX10_copyFrom 20 = .ok (.aload_n 1, 1) := by decide +kernel
theorem dX10_copyFrom_21 : decode cX10_copyFrom 21 = .ok (.getfield 12, 3) := by decide +kernel
theorem dX10_copyFrom_24 : decode cX10_copyFrom 24 = .ok (.invokevirtual 46, 3) := by decide +kernel
theorem dX10_copyFrom_27 : decode cX10_copyFrom 27 = .ok (.aload_n 1, 1) := by decide +kernel
theorem dX10_copyFrom_28 : decode cX10_copyFrom 28 = .ok (.getfield 18, 3) := by decide +kernel
theorem dX10_copyFrom_31 : decode cX10_copyFrom 31 = .ok (.iconst 0, 1) := by decide +kernel
theorem dX10_copyFrom_32 : decode cX10_copyFrom 32 = .ok (.aload_n 0, 1) := by decide +kernel
theorem dX10_copyFrom_33 : decode cX10_copyFrom 33 = .ok (.getfield 18, 3) := by decide +kernel
theorem dX10_copyFrom_36 : decode cX10_copyFrom 36 = .ok (.iconst 0, 1) := by decide +kernel
theorem dX10_copyFrom_37 : decode cX10_copyFrom 37 = .ok (.aload_n 0, 1) := by decide +kernel
theorem dX10_copyFrom_38 : decode cX10_copyFrom 38 = .ok (.getfield 18, 3) := by decide +kernel
theorem dX10_copyFrom_41 : decode cX10_copyFrom 41 = .ok (.arraylength, 1) := by decide +kernel
theorem dX10_copyFrom_42 : decode cX10_copyFrom 42 = .ok (.invokestatic 51, 3) := by decide +kernel
theorem dX10_copyFrom_45 : decode cX10_copyFrom 45 = .ok (.aload_n 1, 1) := by decide +kernel
theorem dX10_copyFrom_46 : decode cX10_copyFrom 46 = .ok (.getfield 22, 3) := by decide +kernel
theorem dX10_copyFrom_49 : decode cX10_copyFrom 49 = .ok (.iconst 0, 1) := by decide +kernel
theorem dX10_copyFrom_50 : decode cX10_copyFrom 50 = .ok (.aload_n 0, 1) := by decide +kernel
theorem dX10_copyFrom_51 : decode cX10_copyFrom 51 = .ok (.getfield 22, 3) := by decide +kernel
theorem dX10_copyFrom_54 : decode cX10_copyFrom 54 = .ok (.iconst 0, 1) := by decide +kernel
theorem dX10_copyFrom_55 : decode cX10_copyFrom 55 = .ok (.aload_n 0, 1) := by decide +kernel
theorem dX10_copyFrom_56 : decode cX10_copyFrom 56 = .ok (.getfield 22, 3) := by decide +kernel
theorem dX10_copyFrom_59 : decode cX10_copyFrom 59 = .ok (.arraylength, 1) := by decide +kernel
theorem dX10_copyFrom_60 : decode cX10_copyFrom 60 = .ok (.invokestatic 51, 3) := by decide +kernel
theorem dX10_copyFrom_63 : decode cX10_copyFrom 63 = .ok (.iconst 0, 1) := by decide +kernel
theorem dX10_copyFrom_64 : decode cX10_copyFrom 64 = .ok (.istore_n 2, 1) := by decide +kernel
theorem dX10_copyFrom_65 : decode cX10_copyFrom 65 = .ok (.iload_n 2, 1) := by decide +kernel
theorem dX10_copyFrom_66 : decode cX10_copyFrom 66 = .ok (.bipush 12, 2) := by decide +kernel
theorem dX10_copyFrom_68 : decode cX10_copyFrom 68 = .ok (.if_icmp .ge 24, 3) := by decide +kernel
theorem dX10_copyFrom_71 : decode cX10_copyFrom 71 = .ok (.aload_n 0, 1) := by decide +kernel
theorem dX10_copyFrom_72 : decode cX10_copyFrom 72 = .ok (.getfield 27, 3) := by decide +kernel
theorem dX10_copyFrom_75 : decode cX10_copyFrom 75 = .ok (.iload_n 2, 1) := by decide +kernel
theorem dX10_copyFrom_76 : decode cX10_copyFrom 76 = .ok (.aaload, 1) := by decide +kernel
theorem dX10_copyFrom_77 : decode cX10_copyFrom 77 = .ok (.aload_n 1, 1) := by decide +kernel
theorem dX10_copyFrom_78 : decode cX10_copyFrom 78 = .ok (.getfield 27, 3) := by decide +kernel
theorem dX10_copyFrom_81 : decode cX10_copyFrom 81 = .ok (.iload_n 2, 1) := by decide +kernel
theorem dX10_copyFrom_82 : decode cX10_copyFrom 82 = .ok (.aaload, 1) := by decide +kernel
theorem dX10_copyFrom_83 : decode cX10_copyFrom 83 = .ok (.invokevirtual 65, 3) := by decide +kernel
theorem dX10_copyFrom_86 : decode cX10_copyFrom 86 = .ok (.iinc 2 1, 3) := by decide +kernel
theorem dX10_copyFrom_89 : decode cX10_copyFrom 89 = .ok (.goto (-24), 3) := by decide +kernel
theorem dX10_copyFrom_92 : decode cX10_copyFrom 92 = .ok (.return_, 1) := by decide +kernel
theorem hd_X10_copyFrom : yX10_copyFrom.cls = RX10 ∧ yX10_copyFrom.cls ≠ "java/lang/invoke/MethodHandle" ∧ yX10_copyFrom.cls ≠ "java/lang/invoke/VarHandle" ∧ (parseMethodDescriptor yX10_copyFrom.desc).map (fun d => d.parameters.length) = some 1 := by decide +kernel
theorem hs_X10_copyFrom : yX10_copyFrom.cls ≠ "java/lang/invoke/MethodHandle" ∧ yX10_copyFrom.cls ≠ "java/lang/invoke/VarHandle" ∧ (parseMethodDescriptor yX10_copyFrom.desc).map (fun d => d.parameters.length) = some 1 := by decide +kernel
set_option maxHeartbeats 4000000 in
set_option maxRecDepth 100000 in
theorem l_X10_copyFrom_L65 (C : CX p l e s m args meth c cX10_copyFrom 3 RX10 (Option.none : Option Jvm.ClassFile.FieldType) E) {o : Nat} (ho : K o = some (9, 0)) {w' : Wd} (k : Option Nat → Int32 → Wd → Option Wd) (hk : ∀ (v1_65 : Option Nat) (v2_65 : Int32) (w : Wd) (H : Heap) (locs : List Loc) (ls : Array Slot), HQ E K z w s H locs → lv_has ls 3 [(1, rv E v1_65), (2, .int v2_65), (0, rv E (some o))] → k v1_65 v2_65 w = some w' → W p l e ({ frames := 2, cells := 0, slots := 0, locals := 81 } : Room) s m args below meth c H locs 0 0 (MQ below (QV E K z w') args s 0 0 (hA E)) (F0 m 92 ls [])) : ∀ (n : Nat) (v1_65 : Option Nat) (v2_65 : Int32) (w : Wd) (H : Heap) (locs : List Loc) (ls : Array Slot), HQ E K z w s H locs → lv_has ls 3 [(1, rv E v1_65), (2, .int v2_65), (0, rv E (some o))] → f_X10_copyFrom_L65 K o k n v1_65 v2_65 w = some w' → W p l e ({ frames := 2, cells := 0, slots := 0, locals := 81 } : Room) s m args below meth c H locs 0 0 (MQ below (QV E K z w') args s 0 0 (hA E)) (F0 m 65 ls []) := by
  obtain ⟨hx, hb, hml, hown, hts, hKs, hT, hb0, hlocks, hret⟩ := id C
  intro n
  induction n with
  | zero =>
    intro v1_65 v2_65 w H locs ls hH hl hf
    cases hf
  | succ n ih =>
    intro v1_65 v2_65 w H locs ls hH hl hf
    rw [f_X10_copyFrom_L65] at hf
    refine lv_iload_n hx hb dX10_copyFrom_65 rfl (lv_at hl 1 rfl) ?_
    refine lv_bipush (v := 12) hx hb dX10_copyFrom_66 (by decide) ?_
    refine lv_icmp_ge (tgt := 92) hx hb dX10_copyFrom_68 (by decide) (fun c15 => ?_) (fun c15 => ?_)
    · replace hf := (if_pos c15).symm.trans hf
      exact hk v1_65 v2_65 _ _ _ _ hH (lv_sub hl [0, 1, 2] rfl) hf
    · replace hf := (if_neg c15).symm.trans hf
      refine hl_aload_n hx hb dX10_copyFrom_71 rfl (lv_at hl 2 rfl) ?_
      refine g10_5 hx hb hts hown hKs hH rfl ho m2_125 dX10_copyFrom_72 ?_
      refine lv_iload_n hx hb dX10_copyFrom_75 rfl (lv_at hl 1 rfl) ?_
      obtain ⟨a16, ha16, hf⟩ := bnd hf
      replace ha16 := cha_some ha16
      obtain ⟨j17, hj17, hf⟩ := bnd hf
      refine hw_aald27 hx hb hKs hH ha16.1 ha16.2 hj17 dX10_copyFrom_76 ?_
      refine hl_aload_n hx hb dX10_copyFrom_77 rfl (lv_at hl 0 rfl) ?_
      obtain ⟨a18, ha18, hf⟩ := bnd hf
      replace ha18 := chk_some ha18
      refine g10_5 hx hb hts hown hKs hH ha18.1 ha18.2 m2_125 dX10_copyFrom_78 ?_
      refine lv_iload_n hx hb dX10_copyFrom_81 rfl (lv_at hl 1 rfl) ?_
      obtain ⟨a19, ha19, hf⟩ := bnd hf
      replace ha19 := cha_some ha19
      obtain ⟨j20, hj20, hf⟩ := bnd hf
      refine hw_aald27 hx hb hKs hH ha19.1 ha19.2 hj20 dX10_copyFrom_82 ?_
      obtain ⟨a21, ha21, hf⟩ := bnd hf
      replace ha21 := chk_some ha21
      obtain ⟨q22, hq22, hf⟩ := bnd hf
      refine hcV_v hx hb hml hown hts hKs hT hb0 hH (As := [rv E (aR w a19.1 j20)]) (rest := []) (k_X7_copyFrom l E K H.size a21 (aR w a19.1 j20) w ha21.2 hq22) (gV m3_135 m3_136 m3_137 m1_13 m3_138) hd_X7_copyFrom ⟨Nat.le_of_ble_eq_true rfl, Nat.le_of_ble_eq_true rfl, rfl, rfl⟩ ha21.1 ha21.2 rfl rfl rfl hl.1 rfl rc0 rfl dX10_copyFrom_83 ⟨Nat.zero_le _, Nat.zero_le _⟩ (fun H locs hH => ?_)
      refine lv_iinc (v := (v2_65 + 1)) (lv' := [(2, .int ((v2_65 + 1))), (1, rv E v1_65), (0, rv E (some o))]) hx hb dX10_copyFrom_86 hl (k := 1) rfl rfl (by decide) (by simp [List.filter_cons, cat_q, cat_i, cat_j, imax, imin]) (fun ls hl => ?_)
      refine lv_goto (tgt := 65) hx hb dX10_copyFrom_89 (by decide) ?_
      exact ih v1_65 (v2_65 + 1) _ _ _ _ hH (lv_sub hl [1, 0, 2] rfl) hf
set_option maxHeartbeats 4000000 in
set_option maxRecDepth 100000 in
theorem k_X10_copyFrom (l : Launch) (E : Ev) (K : Kd) (z : Nat) (o : Nat) (a_1 : Option Nat) (w : Wd) (ho : K o = some (9, 0)) {w' : Wd} (hf : f_X10_copyFrom K o a_1 w = some w') : Met l yX10_copyFrom (Cond.code yX10_copyFrom cX10_copyFrom 3 (Option.none : Option Jvm.ClassFile.FieldType) :: bt) ({ frames := 2, cells := 0, slots := 0, locals := 81 } : Room) (va_Pc [rv E (some o), rv E a_1] (HB E K w z)) (QV E K z w') 0 0 (hA E) := by
  refine Met.ofW (cc := cX10_copyFrom) (maxL := 3) (ret := (Option.none : Option Jvm.ClassFile.FieldType)) (by decide) rfl ?_
  intro p e s m args below meth c s₁ B hml hv
  obtain ⟨rfl, hz, hP, hKs, hT, hb0⟩ := hv
  have C : CX p l e s m _ meth c cX10_copyFrom 3 RX10 (Option.none : Option Jvm.ClassFile.FieldType) E := ⟨B.exec, B.bytes, hml, findClass_of_methodNamed B.named, fun w h => atoms_spec (ws := Cond.code yX10_copyFrom cX10_copyFrom 3 (Option.none : Option Jvm.ClassFile.FieldType) :: bt) B.pre w (List.mem_cons_of_mem _ h), hKs, hT, by rw [hz]; exact hb0, B.notSynchronized, B.returns⟩
  have hH : HQ E K z w s s.heap [] := ⟨hP, va_S.rf, hz⟩
  obtain ⟨hx, hb, hml, hown, hts, hKs, hT, hb0, hlocks, hret⟩ := id C
  have hl := lv_entry [rv E (some o), rv E a_1] (n := 3) (by simp [lg_len_nil, lg_len_i, lg_len_j, lg_len_q, lg_len_f, lg_len_d, lg_len_r])
  rw [lg_entry_eq]
  generalize (lg_sl [rv E (some o), rv E a_1] ++ List.replicate (3 - (lg_sl [rv E (some o), rv E a_1]).length) Slot.unset).toArray = ls at hl ⊢
  replace hl : lv_has ls 3 [(0, rv E (some o)), (1, rv E a_1)] := by simpa only [lv_args, cat_q, cat_i, cat_j, reduceIte, Nat.reduceEqDiff, Nat.reduceAdd, Nat.zero_add] using hl
  generalize s.heap = H at hH ⊢
  unfold f_X10_copyFrom at hf
  refine hl_aload_n hx hb dX10_copyFrom_0 rfl (lv_at hl 0 rfl) ?_
  refine hl_aload_n hx hb dX10_copyFrom_1 rfl (lv_at hl 1 rfl) ?_
  obtain ⟨a1, ha1, hf⟩ := bnd hf
  replace ha1 := chk_some ha1
  refine g10_0 hx hb hts hown hKs hH ha1.1 ha1.2 m2_113 dX10_copyFrom_2 ?_
  obtain ⟨w2, hw2, hf⟩ := bnd hf
  replace hw2 := Option.some.inj hw2
  refine p10_0 (v := (wR w 1000 a1)) hx hb hts hown hKs hH rfl ho m2_113 dX10_copyFrom_5 (fun H locs hH => ?_)
  rw [hw2] at hH
  refine hl_aload_n hx hb dX10_copyFrom_8 rfl (lv_at hl 0 rfl) ?_
  refine hl_aload_n hx hb dX10_copyFrom_9 rfl (lv_at hl 1 rfl) ?_
  refine g10_1 hx hb hts hown hKs hH ha1.1 ha1.2 m2_116 dX10_copyFrom_10 ?_
  obtain ⟨w3, hw3, hf⟩ := bnd hf
  replace hw3 := Option.some.inj hw3
  refine p10_1 (v := (wI w2 1001 a1)) hx hb hts hown hKs hH rfl ho m2_116 dX10_copyFrom_13 (fun H locs hH => ?_)
  rw [hw3] at hH
  refine hl_aload_n hx hb dX10_copyFrom_16 rfl (lv_at hl 0 rfl) ?_
  refine g10_2 hx hb hts hown hKs hH rfl ho m2_119 dX10_copyFrom_17 ?_
  refine hl_aload_n hx hb dX10_copyFrom_20 rfl (lv_at hl 1 rfl) ?_
  refine g10_2 hx hb hts hown hKs hH ha1.1 ha1.2 m2_119 dX10_copyFrom_21 ?_
  obtain ⟨a4, ha4, hf⟩ := bnd hf
  replace ha4 := chk_some ha4
  obtain ⟨q5, hq5, hf⟩ := bnd hf
  refine hcV_v hx hb hml hown hts hKs hT hb0 hH (As := [rv E (wR w3 1002 a1)]) (rest := []) (k_X2_copyFrom l E K H.size a4 (wR w3 1002 a1) w3 ha4.2 hq5) (gV m3_127 m3_128 m3_129 m1_3 m3_130) hd_X2_copyFrom ⟨Nat.le_of_ble_eq_true rfl, Nat.le_of_ble_eq_true rfl, rfl, rfl⟩ ha4.1 ha4.2 rfl rfl rfl hl.1 rfl rc0 rfl dX10_copyFrom_24 ⟨Nat.zero_le _, Nat.zero_le _⟩ (fun H locs hH => ?_)
  refine hl_aload_n hx hb dX10_copyFrom_27 rfl (lv_at hl 1 rfl) ?_
  refine g10_3 hx hb hts hown hKs hH ha1.1 ha1.2 m2_121 dX10_copyFrom_28 ?_
  refine lv_iconst (v := 0) hx hb dX10_copyFrom_31 (by decide) ?_
  refine hl_aload_n hx hb dX10_copyFrom_32 rfl (lv_at hl 0 rfl) ?_
  refine g10_3 hx hb hts hown hKs hH rfl ho m2_121 dX10_copyFrom_33 ?_
  refine lv_iconst (v := 0) hx hb dX10_copyFrom_36 (by decide) ?_
  refine hl_aload_n hx hb dX10_copyFrom_37 rfl (lv_at hl 0 rfl) ?_
  refine g10_3 hx hb hts hown hKs hH rfl ho m2_121 dX10_copyFrom_38 ?_
  obtain ⟨a6, ha6, hf⟩ := bnd hf
  replace ha6 := cha_some ha6
  refine hw_alen20 hx hb hKs hH ha6.1 ha6.2 dX10_copyFrom_41 ?_
  obtain ⟨a7, ha7, hf⟩ := bnd hf
  replace ha7 := cha_some ha7
  obtain ⟨_, hg8, hf⟩ := bnd hf
  replace hg8 := grd_some hg8
  obtain ⟨w9, hw9, hf⟩ := bnd hf
  replace hw9 := Option.some.inj hw9
  refine hw_copy hx hb (hml.trans hl.1.symm) hown (hts _ m3_134) (va_Nw.use rfl hKs.2.2.2.2.1) (hts _ m3_132) (hts _ m1_21) hKs hH ha7.1 ha7.2 ha6.1 ha6.2 hg8.1 hg8.2.1 hg8.2.2.1 hg8.2.2.2.1 hg8.2.2.2.2 (Nat.le_of_ble_eq_true rfl) (by decide) dX10_copyFrom_42 (fun H locs hH => ?_)
  rw [hw9] at hH
  refine hl_aload_n hx hb dX10_copyFrom_45 rfl (lv_at hl 1 rfl) ?_
  refine g10_4 hx hb hts hown hKs hH ha1.1 ha1.2 m2_123 dX10_copyFrom_46 ?_
  refine lv_iconst (v := 0) hx hb dX10_copyFrom_49 (by decide) ?_
  refine hl_aload_n hx hb dX10_copyFrom_50 rfl (lv_at hl 0 rfl) ?_
  refine g10_4 hx hb hts hown hKs hH rfl ho m2_123 dX10_copyFrom_51 ?_
  refine lv_iconst (v := 0) hx hb dX10_copyFrom_54 (by decide) ?_
  refine hl_aload_n hx hb dX10_copyFrom_55 rfl (lv_at hl 0 rfl) ?_
  refine g10_4 hx hb hts hown hKs hH rfl ho m2_123 dX10_copyFrom_56 ?_
  obtain ⟨a10, ha10, hf⟩ := bnd hf
  replace ha10 := cha_some ha10
  refine hw_alen20 hx hb hKs hH ha10.1 ha10.2 dX10_copyFrom_59 ?_
  obtain ⟨a11, ha11, hf⟩ := bnd hf
  replace ha11 := cha_some ha11
  obtain ⟨_, hg12, hf⟩ := bnd hf
  replace hg12 := grd_some hg12
  obtain ⟨w13, hw13, hf⟩ := bnd hf
  replace hw13 := Option.some.inj hw13
  refine hw_copy hx hb (hml.trans hl.1.symm) hown (hts _ m3_134) (va_Nw.use rfl hKs.2.2.2.2.1) (hts _ m3_132) (hts _ m1_21) hKs hH ha11.1 ha11.2 ha10.1 ha10.2 hg12.1 hg12.2.1 hg12.2.2.1 hg12.2.2.2.1 hg12.2.2.2.2 (Nat.le_of_ble_eq_true rfl) (by decide) dX10_copyFrom_60 (fun H locs hH => ?_)
  rw [hw13] at hH
  refine lv_iconst (v := 0) hx hb dX10_copyFrom_63 (by decide) ?_
  refine lv_istore_n (i := 2) (lv' := [(2, .int 0), (0, rv E (some o)), (1, rv E a_1)]) hx hb dX10_copyFrom_64 rfl hl (by decide) (by simp [List.filter_cons, cat_q, cat_i, cat_j, imax, imin]) (fun ls hl => ?_)
  refine l_X10_copyFrom_L65  C ho _ (fun v1_65 v2_65 w14 H locs ls hH hl hf => ?_) fu a_1 0 w13 _ _ _ hH (lv_sub hl [2, 0, 1] rfl) hf
  exact hw_vret hx hb hret hf hH hlocks dX10_copyFrom_92

theorem dX10_works_0 : decode cX10_works 0 = .ok (.iload_n 1, 1) := by decide +kernel
theorem dX10_works_1 : decode cX10_works 1 = .ok (.bipush 7, 2) := by decide +kernel
theorem dX10_works_3 : decode cX10_works 3 = .ok (.irem, 1) := by decide +kernel
theorem dX10_works_4 : decode cX10_works 4 = .ok (.iconst 5, 1) := by decide +kernel
theorem dX10_works_5 : decode cX10_works 5 = .ok (.if_icmp .ge 18, 3) := by decide +kernel
theorem dX10_works_8 : decode cX10_works 8 = .ok (.aload_n 0, 1) := by decide +kernel
theorem dX10_works_9 : decode cX10_works 9 = .ok (.getfield 12, 3) := by decide +kernel
theorem dX10_works_12 : decode cX10_works 12 = .ok (.iload_n 1, 1) := by decide +kernel
theorem dX10_works_13 : decode cX10_works 13 = .ok (.invokevirtual 68, 3) := by decide +kernel
theorem dX10_works_16 : decode cX10_works 16 = .ok (.ifCond .ne 7, 3) := by decide +kernel
theorem dX10_works_19 : decode cX10_works 19 = .ok (.iconst 1, 1) := by decide +kernel
theorem dX10_works_20 : decode cX10_works 20 = .ok (.goto 4, 3) := by decide +kernel
theorem dX10_works_23 : decode cX10_works 23 = .ok (.iconst 0, 1) := by decide +kernel
theorem dX10_works_24 : decode cX10_works 24 = .ok (.ireturn, 1) := by decide +kernel
theorem hd_X10_works : yX10_works.cls = RX10 ∧ yX10_works.cls ≠ "java/lang/invoke/MethodHandle" ∧ yX10_works.cls ≠ "java/lang/invoke/VarHandle" ∧ (parseMethodDescriptor yX10_works.desc).map (fun d => d.parameters.length) = some 1 := by decide +kernel
theorem hs_X10_works : yX10_works.cls ≠ "java/lang/invoke/MethodHandle" ∧ yX10_works.cls ≠ "java/lang/invoke/VarHandle" ∧ (parseMethodDescriptor yX10_works.desc).map (fun d => d.parameters.length) = some 1 := by decide +kernel
set_option maxHeartbeats 4000000 in
set_option maxRecDepth 100000 in
theorem k_X10_works (l : Launch) (E : Ev) (K : Kd) (z : Nat) (o : Nat) (a_1 : Int32) (w : Wd) (ho : K o = some (9, 0)) {r : Bool} {w' : Wd} (hf : f_X10_works K o a_1 w = some (r, w')) : Met l yX10_works (Cond.code yX10_works cX10_works 2 (Option.some Jvm.ClassFile.FieldType.boolean) :: bt) ({ frames := 1, cells := 0, slots := 0, locals := 21 } : Room) (va_Pc [rv E (some o), .int a_1] (HB E K w z)) (QI E K z w' (b2i r)) 0 0 (hA E) := by
  refine Met.ofW (cc := cX10_works) (maxL := 2) (ret := (Option.some Jvm.ClassFile.FieldType.boolean)) (by decide) rfl ?_
  intro p e s m args below meth c s₁ B hml hv
  obtain ⟨rfl, hz, hP, hKs, hT, hb0⟩ := hv
  have C : CX p l e s m _ meth c cX10_works 2 RX10 (Option.some Jvm.ClassFile.FieldType.boolean) E := ⟨B.exec, B.bytes, hml, findClass_of_methodNamed B.named, fun w h => atoms_spec (ws := Cond.code yX10_works cX10_works 2 (Option.some Jvm.ClassFile.FieldType.boolean) :: bt) B.pre w (List.mem_cons_of_mem _ h), hKs, hT, by rw [hz]; exact hb0, B.notSynchronized, B.returns⟩
  have hH : HQ E K z w s s.heap [] := ⟨hP, va_S.rf, hz⟩
  obtain ⟨hx, hb, hml, hown, hts, hKs, hT, hb0, hlocks, hret⟩ := id C
  have hl := lv_entry [rv E (some o), .int a_1] (n := 2) (by simp [lg_len_nil, lg_len_i, lg_len_j, lg_len_q, lg_len_f, lg_len_d, lg_len_r])
  rw [lg_entry_eq]
  generalize (lg_sl [rv E (some o), .int a_1] ++ List.replicate (2 - (lg_sl [rv E (some o), .int a_1]).length) Slot.unset).toArray = ls at hl ⊢
  replace hl : lv_has ls 2 [(0, rv E (some o)), (1, .int a_1)] := by simpa only [lv_args, cat_q, cat_i, cat_j, reduceIte, Nat.reduceEqDiff, Nat.reduceAdd, Nat.zero_add] using hl
  generalize s.heap = H at hH ⊢
  unfold f_X10_works at hf
  refine lv_iload_n hx hb dX10_works_0 rfl (lv_at hl 1 rfl) ?_
  refine lv_bipush (v := 7) hx hb dX10_works_1 (by decide) ?_
  refine lv_irem hx hb dX10_works_3 (by decide) ?_
  refine lv_iconst (v := 5) hx hb dX10_works_4 (by decide) ?_
  refine lv_icmp_ge (tgt := 23) hx hb dX10_works_5 (by decide) (fun c1 => ?_) (fun c1 => ?_)
  · replace hf := (if_pos c1).symm.trans hf
    refine lv_iconst (v := 0) hx hb dX10_works_23 (by decide) ?_
    exact hw_zret hx hb hret rfl hf hH hlocks dX10_works_24
  · replace hf := (if_neg c1).symm.trans hf
    refine hl_aload_n hx hb dX10_works_8 rfl (lv_at hl 0 rfl) ?_
    refine g10_2 hx hb hts hown hKs hH rfl ho m2_119 dX10_works_9 ?_
    refine lv_iload_n hx hb dX10_works_12 rfl (lv_at hl 1 rfl) ?_
    obtain ⟨a2, ha2, hf⟩ := bnd hf
    replace ha2 := chk_some ha2
    obtain ⟨q3, hq3, hf⟩ := bnd hf
    refine hcV_i hx hb hml hown hts hKs hT hb0 hH (As := [.int a_1]) (rest := []) (k_X2_contains l E K H.size a2 a_1 w ha2.2 hq3) (gV m3_152 m3_153 m3_154 m1_3 m3_155) hd_X2_contains ⟨Nat.le_of_ble_eq_true rfl, Nat.le_of_ble_eq_true rfl, rfl, rfl⟩ ha2.1 ha2.2 rfl rfl rfl hl.1 rfl rc0 rfl dX10_works_13 ⟨Nat.zero_le _, Nat.zero_le _⟩ (fun H locs hH => ?_)
    refine lv_if_ne (tgt := 23) hx hb dX10_works_16 (by decide) (fun c4 => ?_) (fun c4 => ?_)
    · replace hf := (if_neg c4).symm.trans hf
      refine lv_iconst (v := 0) hx hb dX10_works_23 (by decide) ?_
      exact hw_zret hx hb hret rfl hf hH hlocks dX10_works_24
    · replace hf := (if_pos c4).symm.trans hf
      refine lv_iconst (v := 1) hx hb dX10_works_19 (by decide) ?_
      refine lv_goto (tgt := 24) hx hb dX10_works_20 (by decide) ?_
      exact hw_zret hx hb hret rfl hf hH hlocks dX10_works_24

theorem dX10_limitDay_0 : decode cX10_limitDay 0 = .ok (.aload_n 0, 1) := by decide +kernel
theorem dX10_limitDay_1 : decode cX10_limitDay 1 = .ok (.getfield 31, 3) := by decide +kernel
theorem dX10_limitDay_4 : decode cX10_limitDay 4 = .ok (.getfield 57, 3) := by decide +kernel
theorem dX10_limitDay_7 : decode cX10_limitDay 7 = .ok (.iload_n 1, 1) := by decide +kernel
theorem dX10_limitDay_8 : decode cX10_limitDay 8 = .ok (.aaload, 1) := by decide +kernel
theorem dX10_limitDay_9 : decode cX10_limitDay 9 = .ok (.astore_n 2, 1) := by decide +kernel
theorem dX10_limitDay_10 : decode cX10_limitDay 10 = .ok (.aload_n 2, 1) := by decide +kernel
theorem dX10_limitDay_11 : decode cX10_limitDay 11 = .ok (.getfield 75, 3) := by decide +kernel
theorem dX10_limitDay_14 : decode cX10_limitDay 14 = .ok (.aload_n 0, 1) := by decide +kernel
theorem dX10_limitDay_15 : decode cX10_limitDay 15 = .ok (.getfield 27, 3) := by decide +kernel
theorem dX10_limitDay_18 : decode cX10_limitDay 18 = .ok (.iload_n 1, 1) := by decide +kernel
theorem dX10_limitDay_19 : decode cX10_limitDay 19 = .ok (.aaload, 1) := by decide +kernel
theorem dX10_limitDay_20 : decode cX10_limitDay 20 = .ok (.getfield 78, 3) := by decide +kernel
theorem dX10_limitDay_23 : decode cX10_limitDay 23 = .ok (.iadd, 1) := by decide +kernel
theorem dX10_limitDay_24 : decode cX10_limitDay 24 = .ok (.istore_n 3, 1) := by decide +kernel
theorem dX10_limitDay_25 : decode cX10_limitDay 25 = .ok (.aload_n 2, 1) := by decide +kernel
theorem dX10_limitDay_26 : decode cX10_limitDay 26 = .ok (.getfield 81, 3) := by decide +kernel
theorem dX10_limitDay_29 : decode cX10_limitDay 29 = .ok (.istore 4, 2) := by decide +kernel
theorem dX10_limitDay_31 : decode cX10_limitDay 31 = .ok (.iload_n 3, 1) := by decide +kernel
theorem dX10_limitDay_32 : decode cX10_limitDay 32 = .ok (.ifCond .le 29, 3) := by decide +kernel
theorem dX10_limitDay_35 : decode cX10_limitDay 35 = .ok (.iload 4, 2) := by decide +kernel
theorem dX10_limitDay_37 : decode cX10_limitDay 37 = .ok (.sipush 10000, 3) := by decide +kernel
theorem dX10_limitDay_40 : decode cX10_limitDay 40 = .ok (.if_icmp .ge 21, 3) := by decide +kernel
theorem dX10_limitDay_43 : decode cX10_limitDay 43 = .ok (.iinc 4 1, 3) := by decide +kernel
theorem dX10_limitDay_46 : decode cX10_limitDay 46 = .ok (.aload_n 0, 1) := by decide +kernel
theorem dX10_limitDay_47 : decode cX10_limitDay 47 = .ok (.iload 4, 2) := by decide +kernel
theorem dX10_limitDay_49 : decode cX10_limitDay 49 = .ok (.invokevirtual 72, 3) := by decide +kernel
theorem dX10_limitDay_52 : decode cX10_limitDay 52 = .ok (.ifCond .eq (-21), 3) := by decide +kernel
theorem dX10_limitDay_55 : decode cX10_limitDay 55 = .ok (.iinc 3 (-1), 3) := by decide +kernel
theorem dX10_limitDay_58 : decode cX10_limitDay 58 = .ok (.goto (-27), 3) := by decide +kernel
theorem dX10_limitDay_61 : decode cX10_limitDay 61 = .ok (.iload 4, 2) := by decide +kernel
theorem dX10_limitDay_63 : decode cX10_limitDay 63 = .ok (.ireturn, 1) := by decide +kernel
theorem hd_X10_limitDay : yX10_limitDay.cls = RX10 ∧ yX10_limitDay.cls ≠ "java/lang/invoke/MethodHandle" ∧ yX10_limitDay.cls ≠ "java/lang/invoke/VarHandle" ∧ (parseMethodDescriptor yX10_limitDay.desc).map (fun d => d.parameters.length) = some 1 := by decide +kernel
theorem hs_X10_limitDay : yX10_limitDay.cls ≠ "java/lang/invoke/MethodHandle" ∧ yX10_limitDay.cls ≠ "java/lang/invoke/VarHandle" ∧ (parseMethodDescriptor yX10_limitDay.desc).map (fun d => d.parameters.length) = some 1 := by decide +kernel
set_option maxHeartbeats 4000000 in
set_option maxRecDepth 100000 in
theorem l_X10_limitDay_L31 (C : CX p l e s m args meth c cX10_limitDay 5 RX10 (Option.some Jvm.ClassFile.FieldType.int) E) {o : Nat} (ho : K o = some (9, 0)) {r : Int32} {w' : Wd} (k : Int32 → Option Nat → Int32 → Int32 → Wd → Option (Int32 × Wd)) (hk : ∀ (v1_31 : Int32) (v2_31 : Option Nat) (v3_31 : Int32) (v4_31 : Int32) (w : Wd) (H : Heap) (locs : List Loc) (ls : Array Slot), HQ E K z w s H locs → lv_has ls 5 [(1, .int v1_31), (2, rv E v2_31), (3, .int v3_31), (4, .int v4_31), (0, rv E (some o))] → k v1_31 v2_31 v3_31 v4_31 w = some (r, w') → W p l e ({ frames := 2, cells := 0, slots := 0, locals := 42 } : Room) s m args below meth c H locs 0 0 (MQ below (QI E K z w' r) args s 0 0 (hA E)) (F0 m 61 ls [])) : ∀ (n : Nat) (v1_31 : Int32) (v2_31 : Option Nat) (v3_31 : Int32) (v4_31 : Int32) (w : Wd) (H : Heap) (locs : List Loc) (ls : Array Slot), HQ E K z w s H locs → lv_has ls 5 [(1, .int v1_31), (2, rv E v2_31), (3, .int v3_31), (4, .int v4_31), (0, rv E (some o))] → f_X10_limitDay_L31 K o k n v1_31 v2_31 v3_31 v4_31 w = some (r, w') → W p l e ({ frames := 2, cells := 0, slots := 0, locals := 42 } : Room) s m args below meth c H locs 0 0 (MQ below (QI E K z w' r) args s 0 0 (hA E)) (F0 m 31 ls []) := by
  obtain ⟨hx, hb, hml, hown, hts, hKs, hT, hb0, hlocks, hret⟩ := id C
  intro n
  induction n with
  | zero =>
    intro v1_31 v2_31 v3_31 v4_31 w H locs ls hH hl hf
    cases hf
  | succ n ih =>
    intro v1_31 v2_31 v3_31 v4_31 w H locs ls hH hl hf
    rw [f_X10_limitDay_L31] at hf
    refine lv_iload_n hx hb dX10_limitDay_31 rfl (lv_at hl 2 rfl) ?_
    refine lv_if_le (tgt := 61) hx hb dX10_limitDay_32 (by decide) (fun c9 => ?_) (fun c9 => ?_)
    · replace hf := (if_pos c9).symm.trans hf
      exact hk v1_31 v2_31 v3_31 v4_31 _ _ _ _ hH (lv_sub hl [0, 1, 2, 3, 4] rfl) hf
    · replace hf := (if_neg c9).symm.trans hf
      refine lv_iload hx hb dX10_limitDay_35 (lv_at hl 3 rfl) ?_
      refine lv_sipush (v := 10000) hx hb dX10_limitDay_37 (by decide) ?_
      refine lv_icmp_ge (tgt := 61) hx hb dX10_limitDay_40 (by decide) (fun c10 => ?_) (fun c10 => ?_)
      · replace hf := (if_pos c10).symm.trans hf
        exact hk v1_31 v2_31 v3_31 v4_31 _ _ _ _ hH (lv_sub hl [0, 1, 2, 3, 4] rfl) hf
      · replace hf := (if_neg c10).symm.trans hf
        refine lv_iinc (v := (v4_31 + 1)) (lv' := [(4, .int ((v4_31 + 1))), (1, .int v1_31), (2, rv E v2_31), (3, .int v3_31), (0, rv E (some o))]) hx hb dX10_limitDay_43 hl (k := 3) rfl rfl (by decide) rfl (fun ls hl => ?_)
        refine hl_aload_n hx hb dX10_limitDay_46 rfl (lv_at hl 4 rfl) ?_
        refine lv_iload hx hb dX10_limitDay_47 (lv_at hl 0 rfl) ?_
        obtain ⟨q11, hq11, hf⟩ := bnd hf
        refine hcV_i hx hb hml hown hts hKs hT hb0 hH (As := [.int ((v4_31 + 1))]) (rest := []) (k_X10_works l E K H.size o (v4_31 + 1) w ho hq11) (gV m3_148 m3_149 m3_150 m1_12 m3_151) hd_X10_works ⟨Nat.le_of_ble_eq_true rfl, Nat.le_of_ble_eq_true rfl, rfl, rfl⟩ rfl ho rfl rfl rfl hl.1 rfl rc0 rfl dX10_limitDay_49 ⟨Nat.zero_le _, Nat.zero_le _⟩ (fun H locs hH => ?_)
        refine lv_if_eq (tgt := 31) hx hb dX10_limitDay_52 (by decide) (fun c12 => ?_) (fun c12 => ?_)
        · replace hf := (if_pos c12).symm.trans hf
          exact ih v1_31 v2_31 v3_31 (v4_31 + 1) _ _ _ _ hH (lv_sub hl [1, 2, 3, 0, 4] rfl) hf
        · replace hf := (if_neg c12).symm.trans hf
          refine lv_iinc (v := (v3_31 + (-1))) (lv' := [(3, .int ((v3_31 + (-1)))), (4, .int ((v4_31 + 1))), (1, .int v1_31), (2, rv E v2_31), (0, rv E (some o))]) hx hb dX10_limitDay_55 hl (k := 3) rfl rfl (by decide) (by simp [List.filter_cons, cat_q, cat_i, cat_j, imax, imin]) (fun ls hl => ?_)
          refine lv_goto (tgt := 31) hx hb dX10_limitDay_58 (by decide) ?_
          exact ih v1_31 v2_31 (v3_31 + (-1)) (v4_31 + 1) _ _ _ _ hH (lv_sub hl [2, 3, 0, 1, 4] rfl) hf
set_option maxHeartbeats 4000000 in
set_option maxRecDepth 100000 in
theorem k_X10_limitDay (l : Launch) (E : Ev) (K : Kd) (z : Nat) (o : Nat) (a_1 : Int32) (w : Wd) (ho : K o = some (9, 0)) {r : Int32} {w' : Wd} (hf : f_X10_limitDay K o a_1 w = some (r, w')) : Met l yX10_limitDay (Cond.code yX10_limitDay cX10_limitDay 5 (Option.some Jvm.ClassFile.FieldType.int) :: bt) ({ frames := 2, cells := 0, slots := 0, locals := 42 } : Room) (va_Pc [rv E (some o), .int a_1] (HB E K w z)) (QI E K z w' r) 0 0 (hA E) := by
  refine Met.ofW (cc := cX10_limitDay) (maxL := 5) (ret := (Option.some Jvm.ClassFile.FieldType.int)) (by decide) rfl ?_
  intro p e s m args below meth c s₁ B hml hv
  obtain ⟨rfl, hz, hP, hKs, hT, hb0⟩ := hv
  have C : CX p l e s m _ meth c cX10_limitDay 5 RX10 (Option.some Jvm.ClassFile.FieldType.int) E := ⟨B.exec, B.bytes, hml, findClass_of_methodNamed B.named, fun w h => atoms_spec (ws := Cond.code yX10_limitDay cX10_limitDay 5 (Option.some Jvm.ClassFile.FieldType.int) :: bt) B.pre w (List.mem_cons_of_mem _ h), hKs, hT, by rw [hz]; exact hb0, B.notSynchronized, B.returns⟩
  have hH : HQ E K z w s s.heap [] := ⟨hP, va_S.rf, hz⟩
  obtain ⟨hx, hb, hml, hown, hts, hKs, hT, hb0, hlocks, hret⟩ := id C
  have hl := lv_entry [rv E (some o), .int a_1] (n := 5) (by simp [lg_len_nil, lg_len_i, lg_len_j, lg_len_q, lg_len_f, lg_len_d, lg_len_r])
  rw [lg_entry_eq]
  generalize (lg_sl [rv E (some o), .int a_1] ++ List.replicate (5 - (lg_sl [rv E (some o), .int a_1]).length) Slot.unset).toArray = ls at hl ⊢
  replace hl : lv_has ls 5 [(0, rv E (some o)), (1, .int a_1)] := by simpa only [lv_args, cat_q, cat_i, cat_j, reduceIte, Nat.reduceEqDiff, Nat.reduceAdd, Nat.zero_add] using hl
  generalize s.heap = H at hH ⊢
  unfold f_X10_limitDay at hf
  refine hl_aload_n hx hb dX10_limitDay_0 rfl (lv_at hl 0 rfl) ?_
  refine g10_0 hx hb hts hown hKs hH rfl ho m2_113 dX10_limitDay_1 ?_
  obtain ⟨a1, ha1, hf⟩ := bnd hf
  replace ha1 := chk_some ha1
  refine gn9_9 hx hb hts hown hKs hH ha1.1 ha1.2 m1_173 dX10_limitDay_4 ?_
  refine lv_iload_n hx hb dX10_limitDay_7 rfl (lv_at hl 1 rfl) ?_
  obtain ⟨a2, ha2, hf⟩ := bnd hf
  replace ha2 := cha_some ha2
  obtain ⟨j3, hj3, hf⟩ := bnd hf
  refine hw_aald25 hx hb hKs hH ha2.1 ha2.2 hj3 dX10_limitDay_8 ?_
  refine hl_astore_n (i := 2) (lv' := [(2, rv E (aR w a2.1 j3)), (0, rv E (some o)), (1, .int a_1)]) hx hb dX10_limitDay_9 rfl hl (by decide) rfl (fun ls hl => ?_)
  refine hl_aload_n hx hb dX10_limitDay_10 rfl (lv_at hl 0 rfl) ?_
  obtain ⟨a4, ha4, hf⟩ := bnd hf
  replace ha4 := chk_some ha4
  refine gn3_2 hx hb hts hown hKs hH ha4.1 ha4.2 m1_101 dX10_limitDay_11 ?_
  refine hl_aload_n hx hb dX10_limitDay_14 rfl (lv_at hl 1 rfl) ?_
  refine g10_5 hx hb hts hown hKs hH rfl ho m2_125 dX10_limitDay_15 ?_
  refine lv_iload_n hx hb dX10_limitDay_18 rfl (lv_at hl 2 rfl) ?_
  obtain ⟨a5, ha5, hf⟩ := bnd hf
  replace ha5 := cha_some ha5
  obtain ⟨j6, hj6, hf⟩ := bnd hf
  refine hw_aald27 hx hb hKs hH ha5.1 ha5.2 hj6 dX10_limitDay_19 ?_
  obtain ⟨a7, ha7, hf⟩ := bnd hf
  replace ha7 := chk_some ha7
  refine gn7_1 hx hb hts hown hKs hH ha7.1 ha7.2 m2_67 dX10_limitDay_20 ?_
  refine lv_iadd hx hb dX10_limitDay_23 ?_
  refine lv_istore_n (i := 3) (lv' := [(3, .int (((wI w 302 a4) + (wI w 701 a7)))), (2, rv E (aR w a2.1 j3)), (0, rv E (some o)), (1, .int a_1)]) hx hb dX10_limitDay_24 rfl hl (by decide) (by simp [List.filter_cons, cat_q, cat_i, cat_j, imax, imin]) (fun ls hl => ?_)
  refine hl_aload_n hx hb dX10_limitDay_25 rfl (lv_at hl 1 rfl) ?_
  refine gn3_0 hx hb hts hown hKs hH ha4.1 ha4.2 m1_92 dX10_limitDay_26 ?_
  refine lv_istore (i := 4) (lv' := [(4, .int ((wI w 300 a4))), (3, .int (((wI w 302 a4) + (wI w 701 a7)))), (2, rv E (aR w a2.1 j3)), (0, rv E (some o)), (1, .int a_1)]) hx hb dX10_limitDay_29 hl (by decide) rfl (fun ls hl => ?_)
  refine l_X10_limitDay_L31  C ho _ (fun v1_31 v2_31 v3_31 v4_31 w8 H locs ls hH hl hf => ?_) fu a_1 (aR w a2.1 j3) ((wI w 302 a4) + (wI w 701 a7)) (wI w 300 a4) w _ _ _ hH (lv_sub hl [4, 2, 1, 0, 3] rfl) hf
  refine lv_iload hx hb dX10_limitDay_61 (lv_at hl 3 rfl) ?_
  exact hw_iret hx hb hret hf hH hlocks dX10_limitDay_63

theorem dX10_countPhase_0 : decode cX10_countPhase 0 = .ok (.iconst 0, 1) := by decide +kernel
theorem dX10_countPhase_1 : decode cX10_countPhase 1 = .ok (.istore_n 2, 1) := by decide +kernel
theorem dX10_countPhase_2 : decode cX10_countPhase 2 = .ok (.iconst 0, 1) := by decide +kernel
theorem dX10_countPhase_3 : decode cX10_countPhase 3 = .ok (.istore_n 3, 1) := by decide +kernel
theorem dX10_countPhase_4 : decode cX10_countPhase 4 = .ok (.iload_n 3, 1) := by decide +kernel
theorem dX10_countPhase_5 : decode cX10_countPhase 5 = .ok (.aload_n 0, 1) := by decide +kernel
theorem dX10_countPhase_6 : decode cX10_countPhase 6 = .ok (.getfield 31, 3) := by decide +kernel
theorem dX10_countPhase_9 : decode cX10_countPhase 9 = .ok (.iconst 3, 1) := by decide +kernel
theorem dX10_countPhase_10 : decode cX10_countPhase 10 = .ok (.invokevirtual 92, 3) := by decide +kernel
theorem dX10_countPhase_13 : decode cX10_countPhase 13 = .ok (.if_icmp .ge 25, 3) := by decide +kernel
theorem dX10_countPhase_16 : decode cX10_countPhase 16 = .ok (.aload_n 0, 1) := by decide +kernel
theorem dX10_countPhase_17 : decode cX10_countPhase 17 = .ok (.getfield 27, 3) := by decide +kernel
theorem dX10_countPhase_20 : decode cX10_countPhase 20 = .ok (.iload_n 3, 1) := by decide +kernel
theorem dX10_countPhase_21 : decode cX10_countPhase 21 = .ok (.aaload, 1) := by decide +kernel
theorem dX10_countPhase_22 : decode cX10_countPhase 22 = .ok (.getfield 95, 3) := by decide +kernel
theorem dX10_countPhase_25 : decode cX10_countPhase 25 = .ok (.iload_n 1, 1) := by decide +kernel
theorem dX10_countPhase_26 : decode cX10_countPhase 26 = .ok (.if_icmp .ne 6, 3) := by decide +kernel
theorem dX10_countPhase_29 : decode cX10_countPhase 29 = .ok (.iinc 2 1, 3) := by decide +kernel
theorem dX10_countPhase_32 : decode cX10_countPhase 32 = .ok (.iinc 3 1, 3) := by decide +kernel
theorem dX10_countPhase_35 : decode cX10_countPhase 35 = .ok (.goto (-31), 3) := by decide +kernel
theorem dX10_countPhase_38 : decode cX10_countPhase 38 = .ok (.iload_n 2, 1) := by decide +kernel
theorem dX10_countPhase_39 : decode cX10_countPhase 39 = .ok (.ireturn, 1) := by decide +kernel
theorem hd_X10_countPhase : yX10_countPhase.cls = RX10 ∧ yX10_countPhase.cls ≠ "java/lang/invoke/MethodHandle" ∧ yX10_countPhase.cls ≠ "java/lang/invoke/VarHandle" ∧ (parseMethodDescriptor yX10_countPhase.desc).map (fun d => d.parameters.length) = some 1 := by decide +kernel
theorem hs_X10_countPhase : yX10_countPhase.cls ≠ "java/lang/invoke/MethodHandle" ∧ yX10_countPhase.cls ≠ "java/lang/invoke/VarHandle" ∧ (parseMethodDescriptor yX10_countPhase.desc).map (fun d => d.parameters.length) = some 1 := by decide +kernel
set_option maxHeartbeats 4000000 in
set_option maxRecDepth 100000 in
theorem l_X10_countPhase_L4 (C : CX p l e s m args meth c cX10_countPhase 4 RX10 (Option.some Jvm.ClassFile.FieldType.int) E) {o : Nat} (ho : K o = some (9, 0)) {r : Int32} {w' : Wd} (k : Int32 → Int32 → Int32 → Wd → Option (Int32 × Wd)) (hk : ∀ (v1_4 : Int32) (v2_4 : Int32) (v3_4 : Int32) (w : Wd) (H : Heap) (locs : List Loc) (ls : Array Slot), HQ E K z w s H locs → lv_has ls 4 [(1, .int v1_4), (2, .int v2_4), (3, .int v3_4), (0, rv E (some o))] → k v1_4 v2_4 v3_4 w = some (r, w') → W p l e ({ frames := 1, cells := 0, slots := 0, locals := 21 } : Room) s m args below meth c H locs 0 0 (MQ below (QI E K z w' r) args s 0 0 (hA E)) (F0 m 38 ls [])) : ∀ (n : Nat) (v1_4 : Int32) (v2_4 : Int32) (v3_4 : Int32) (w : Wd) (H : Heap) (locs : List Loc) (ls : Array Slot), HQ E K z w s H locs → lv_has ls 4 [(1, .int v1_4), (2, .int v2_4), (3, .int v3_4), (0, rv E (some o))] → f_X10_countPhase_L4 K o k n v1_4 v2_4 v3_4 w = some (r, w') → W p l e ({ frames := 1, cells := 0, slots := 0, locals := 21 } : Room) s m args below meth c H locs 0 0 (MQ below (QI E K z w' r) args s 0 0 (hA E)) (F0 m 4 ls []) := by
  obtain ⟨hx, hb, hml, hown, hts, hKs, hT, hb0, hlocks, hret⟩ := id C
  intro n
  induction n with
  | zero =>
    intro v1_4 v2_4 v3_4 w H locs ls hH hl hf
    cases hf
  | succ n ih =>
    intro v1_4 v2_4 v3_4 w H locs ls hH hl hf
    rw [f_X10_countPhase_L4] at hf
    refine lv_iload_n hx hb dX10_countPhase_4 rfl (lv_at hl 2 rfl) ?_
    refine hl_aload_n hx hb dX10_countPhase_5 rfl (lv_at hl 3 rfl) ?_
    refine g10_0 hx hb hts hown hKs hH rfl ho m2_113 dX10_countPhase_6 ?_
    refine lv_iconst (v := 3) hx hb dX10_countPhase_9 (by decide) ?_
    obtain ⟨a2, ha2, hf⟩ := bnd hf
    replace ha2 := chk_some ha2
    obtain ⟨q3, hq3, hf⟩ := bnd hf
    refine hcV_i hx hb hml hown hts hKs hT hb0 hH (As := [.int 3]) (rest := [.int v3_4]) (k_X9_size l E K H.size a2 3 w ha2.2 hq3) (gV m3_29 m3_22 m3_23 m1_2 m3_24) hd_X9_size ⟨Nat.le_of_ble_eq_true rfl, Nat.le_of_ble_eq_true rfl, rfl, rfl⟩ ha2.1 ha2.2 rfl rfl rfl hl.1 rfl (rcI rc0) rfl dX10_countPhase_10 ⟨Nat.zero_le _, Nat.zero_le _⟩ (fun H locs hH => ?_)
    refine lv_icmp_ge (tgt := 38) hx hb dX10_countPhase_13 (by decide) (fun c4 => ?_) (fun c4 => ?_)
    · replace hf := (if_pos c4).symm.trans hf
      exact hk v1_4 v2_4 v3_4 _ _ _ _ hH (lv_sub hl [0, 1, 2, 3] rfl) hf
    · replace hf := (if_neg c4).symm.trans hf
      refine hl_aload_n hx hb dX10_countPhase_16 rfl (lv_at hl 3 rfl) ?_
      refine g10_5 hx hb hts hown hKs hH rfl ho m2_125 dX10_countPhase_17 ?_
      refine lv_iload_n hx hb dX10_countPhase_20 rfl (lv_at hl 2 rfl) ?_
      obtain ⟨a5, ha5, hf⟩ := bnd hf
      replace ha5 := cha_some ha5
      obtain ⟨j6, hj6, hf⟩ := bnd hf
      refine hw_aald27 hx hb hKs hH ha5.1 ha5.2 hj6 dX10_countPhase_21 ?_
      obtain ⟨a7, ha7, hf⟩ := bnd hf
      replace ha7 := chk_some ha7
      refine gn7_0 hx hb hts hown hKs hH ha7.1 ha7.2 m2_64 dX10_countPhase_22 ?_
      refine lv_iload_n hx hb dX10_countPhase_25 rfl (lv_at hl 0 rfl) ?_
      refine lv_icmp_ne (tgt := 32) hx hb dX10_countPhase_26 (by decide) (fun c8 => ?_) (fun c8 => ?_)
      · replace hf := (if_neg c8).symm.trans hf
        refine lv_iinc (v := (v3_4 + 1)) (lv' := [(3, .int ((v3_4 + 1))), (1, .int v1_4), (2, .int v2_4), (0, rv E (some o))]) hx hb dX10_countPhase_32 hl (k := 2) rfl rfl (by decide) rfl (fun ls hl => ?_)
        refine lv_goto (tgt := 4) hx hb dX10_countPhase_35 (by decide) ?_
        exact ih v1_4 v2_4 (v3_4 + 1) _ _ _ _ hH (lv_sub hl [1, 2, 0, 3] rfl) hf
      · replace hf := (if_pos c8).symm.trans hf
        refine lv_iinc (v := (v2_4 + 1)) (lv' := [(2, .int ((v2_4 + 1))), (1, .int v1_4), (3, .int v3_4), (0, rv E (some o))]) hx hb dX10_countPhase_29 hl (k := 1) rfl rfl (by decide) rfl (fun ls hl => ?_)
        refine lv_iinc (v := (v3_4 + 1)) (lv' := [(3, .int ((v3_4 + 1))), (2, .int ((v2_4 + 1))), (1, .int v1_4), (0, rv E (some o))]) hx hb dX10_countPhase_32 hl (k := 2) rfl rfl (by decide) rfl (fun ls hl => ?_)
        refine lv_goto (tgt := 4) hx hb dX10_countPhase_35 (by decide) ?_
        exact ih v1_4 (v2_4 + 1) (v3_4 + 1) _ _ _ _ hH (lv_sub hl [2, 1, 0, 3] rfl) hf
set_option maxHeartbeats 4000000 in
set_option maxRecDepth 100000 in
theorem k_X10_countPhase (l : Launch) (E : Ev) (K : Kd) (z : Nat) (o : Nat) (a_1 : Int32) (w : Wd) (ho : K o = some (9, 0)) {r : Int32} {w' : Wd} (hf : f_X10_countPhase K o a_1 w = some (r, w')) : Met l yX10_countPhase (Cond.code yX10_countPhase cX10_countPhase 4 (Option.some Jvm.ClassFile.FieldType.int) :: bt) ({ frames := 1, cells := 0, slots := 0, locals := 21 } : Room) (va_Pc [rv E (some o), .int a_1] (HB E K w z)) (QI E K z w' r) 0 0 (hA E) := by
  refine Met.ofW (cc := cX10_countPhase) (maxL := 4) (ret := (Option.some Jvm.ClassFile.FieldType.int)) (by decide) rfl ?_
  intro p e s m args below meth c s₁ B hml hv
  obtain ⟨rfl, hz, hP, hKs, hT, hb0⟩ := hv
  have C : CX p l e s m _ meth c cX10_countPhase 4 RX10 (Option.some Jvm.ClassFile.FieldType.int) E := ⟨B.exec, B.bytes, hml, findClass_of_methodNamed B.named, fun w h => atoms_spec (ws := Cond.code yX10_countPhase cX10_countPhase 4 (Option.some Jvm.ClassFile.FieldType.int) :: bt) B.pre w (List.mem_cons_of_mem _ h), hKs, hT, by rw [hz]; exact hb0, B.notSynchronized, B.returns⟩
  have hH : HQ E K z w s s.heap [] := ⟨hP, va_S.rf, hz⟩
  obtain ⟨hx, hb, hml, hown, hts, hKs, hT, hb0, hlocks, hret⟩ := id C
  have hl := lv_entry [rv E (some o), .int a_1] (n := 4) (by simp [lg_len_nil, lg_len_i, lg_len_j, lg_len_q, lg_len_f, lg_len_d, lg_len_r])
  rw [lg_entry_eq]
  generalize (lg_sl [rv E (some o), .int a_1] ++ List.replicate (4 - (lg_sl [rv E (some o), .int a_1]).length) Slot.unset).toArray = ls at hl ⊢
  replace hl : lv_has ls 4 [(0, rv E (some o)), (1, .int a_1)] := by simpa only [lv_args, cat_q, cat_i, cat_j, reduceIte, Nat.reduceEqDiff, Nat.reduceAdd, Nat.zero_add] using hl
  generalize s.heap = H at hH ⊢
  unfold f_X10_countPhase at hf
  refine lv_iconst (v := 0) hx hb dX10_countPhase_0 (by decide) ?_
  refine lv_istore_n (i := 2) (lv' := [(2, .int 0), (0, rv E (some o)), (1, .int a_1)]) hx hb dX10_countPhase_1 rfl hl (by decide) rfl (fun ls hl => ?_)
  refine lv_iconst (v := 0) hx hb dX10_countPhase_2 (by decide) ?_
  refine lv_istore_n (i := 3) (lv' := [(3, .int 0), (2, .int 0), (0, rv E (some o)), (1, .int a_1)]) hx hb dX10_countPhase_3 rfl hl (by decide) rfl (fun ls hl => ?_)
  refine l_X10_countPhase_L4  C ho _ (fun v1_4 v2_4 v3_4 w1 H locs ls hH hl hf => ?_) fu a_1 0 0 w _ _ _ hH (lv_sub hl [3, 1, 0, 2] rfl) hf
  refine lv_iload_n hx hb dX10_countPhase_38 rfl (lv_at hl 1 rfl) ?_
  exact hw_iret hx hb hret hf hH hlocks dX10_countPhase_39

theorem dX10_loadOf_0 : decode cX10_loadOf 0 = .ok (.iconst 0, 1) := by decide +kernel
theorem dX10_loadOf_1 : decode cX10_loadOf 1 = .ok (.istore_n 2, 1) := by decide +kernel
theorem dX10_loadOf_2 : decode cX10_loadOf 2 = .ok (.iconst 0, 1) := by decide +kernel
theorem dX10_loadOf_3 : decode cX10_loadOf 3 = .ok (.istore_n 3, 1) := by decide +kernel
theorem dX10_loadOf_4 : decode cX10_loadOf 4 = .ok (.iload_n 3, 1) := by decide +kernel
theorem dX10_loadOf_5 : decode cX10_loadOf 5 = .ok (.aload_n 0, 1) := by decide +kernel
theorem dX10_loadOf_6 : decode cX10_loadOf 6 = .ok (.getfield 31, 3) := by decide +kernel
theorem dX10_loadOf_9 : decode cX10_loadOf 9 = .ok (.iconst 3, 1) := by decide +kernel
theorem dX10_loadOf_10 : decode cX10_loadOf 10 = .ok (.invokevirtual 92, 3) := by decide +kernel
theorem dX10_loadOf_13 : decode cX10_loadOf 13 = .ok (.if_icmp .ge 37, 3) := by decide +kernel
theorem dX10_loadOf_16 : decode cX10_loadOf 16 = .ok (.aload_n 0, 1) := by decide +kernel
theorem dX10_loadOf_17 : decode cX10_loadOf 17 = .ok (.getfield 27, 3) := by decide +kernel
theorem dX10_loadOf_20 : decode cX10_loadOf 20 = .ok (.iload_n 3, 1) := by decide +kernel
theorem dX10_loadOf_21 : decode cX10_loadOf 21 = .ok (.aaload, 1) := by decide +kernel
theorem dX10_loadOf_22 : decode cX10_loadOf 22 = .ok (.getfield 110, 3) := by decide +kernel
theorem dX10_loadOf_25 : decode cX10_loadOf 25 = .ok (.iload_n 1, 1) := by decide +kernel
theorem dX10_loadOf_26 : decode cX10_loadOf 26 = .ok (.if_icmp .ne 18, 3) := by decide +kernel
theorem dX10_loadOf_29 : decode cX10_loadOf 29 = .ok (.iload_n 2, 1) := by decide +kernel
theorem dX10_loadOf_30 : decode cX10_loadOf 30 = .ok (.aload_n 0, 1) := by decide +kernel
theorem dX10_loadOf_31 : decode cX10_loadOf 31 = .ok (.getfield 31, 3) := by decide +kernel
theorem dX10_loadOf_34 : decode cX10_loadOf 34 = .ok (.getfield 57, 3) := by decide +kernel
theorem dX10_loadOf_37 : decode cX10_loadOf 37 = .ok (.iload_n 3, 1) := by decide +kernel
theorem dX10_loadOf_38 : decode cX10_loadOf 38 = .ok (.aaload, 1) := by decide +kernel
theorem dX10_loadOf_39 : decode cX10_loadOf 39 = .ok (.getfield 113, 3) := by decide +kernel
theorem dX10_loadOf_42 : decode cX10_loadOf 42 = .ok (.iadd, 1) := by decide +kernel
theorem dX10_loadOf_43 : decode cX10_loadOf 43 = .ok (.istore_n 2, 1) := by decide +kernel
theorem dX10_loadOf_44 : decode cX10_loadOf 44 = .ok (.iinc 3 1, 3) := by decide +kernel
theorem dX10_loadOf_47 : decode cX10_loadOf 47 = .ok (.goto (-43), 3) := by decide +kernel
theorem dX10_loadOf_50 : decode cX10_loadOf 50 = .ok (.iload_n 2, 1) := by decide +kernel
theorem dX10_loadOf_51 : decode cX10_loadOf 51 = .ok (.ireturn, 1) := by decide +kernel
theorem hd_X10_loadOf : yX10_loadOf.cls = RX10 ∧ yX10_loadOf.cls ≠ "java/lang/invoke/MethodHandle" ∧ yX10_loadOf.cls ≠ "java/lang/invoke/VarHandle" ∧ (parseMethodDescriptor yX10_loadOf.desc).map (fun d => d.parameters.length) = some 1 := by decide +kernel
theorem hs_X10_loadOf : yX10_loadOf.cls ≠ "java/lang/invoke/MethodHandle" ∧ yX10_loadOf.cls ≠ "java/lang/invoke/VarHandle" ∧ (parseMethodDescriptor yX10_loadOf.desc).map (fun d => d.parameters.length) = some 1 := by decide +kernel
set_option maxHeartbeats 4000000 in
set_option maxRecDepth 100000 in
theorem l_X10_loadOf_L4 (C : CX p l e s m args meth c cX10_loadOf 4 RX10 (Option.some Jvm.ClassFile.FieldType.int) E) {o : Nat} (ho : K o = some (9, 0)) {r : Int32} {w' : Wd} (k : Int32 → Int32 → Int32 → Wd → Option (Int32 × Wd)) (hk : ∀ (v1_4 : Int32) (v2_4 : Int32) (v3_4 : Int32) (w : Wd) (H : Heap) (locs : List Loc) (ls : Array Slot), HQ E K z w s H locs → lv_has ls 4 [(1, .int v1_4), (2, .int v2_4), (3, .int v3_4), (0, rv E (some o))] → k v1_4 v2_4 v3_4 w = some (r, w') → W p l e ({ frames := 1, cells := 0, slots := 0, locals := 21 } : Room) s m args below meth c H locs 0 0 (MQ below (QI E K z w' r) args s 0 0 (hA E)) (F0 m 50 ls [])) : ∀ (n : Nat) (v1_4 : Int32) (v2_4 : Int32) (v3_4 : Int32) (w : Wd) (H : Heap) (locs : List Loc) (ls : Array Slot), HQ E K z w s H locs → lv_has ls 4 [(1, .int v1_4), (2, .int v2_4), (3, .int v3_4), (0, rv E (some o))] → f_X10_loadOf_L4 K o k n v1_4 v2_4 v3_4 w = some (r, w') → W p l e ({ frames := 1, cells := 0, slots := 0, locals := 21 } : Room) s m args below meth c H locs 0 0 (MQ below (QI E K z w' r) args s 0 0 (hA E)) (F0 m 4 ls []) := by
  obtain ⟨hx, hb, hml, hown, hts, hKs, hT, hb0, hlocks, hret⟩ := id C
  intro n
  induction n with
  | zero =>
    intro v1_4 v2_4 v3_4 w H locs ls hH hl hf
    cases hf
  | succ n ih =>
    intro v1_4 v2_4 v3_4 w H locs ls hH hl hf
    rw [f_X10_loadOf_L4] at hf
    refine lv_iload_n hx hb dX10_loadOf_4 rfl (lv_at hl 2 rfl) ?_
    refine hl_aload_n hx hb dX10_loadOf_5 rfl (lv_at hl 3 rfl) ?_
    refine g10_0 hx hb hts hown hKs hH rfl ho m2_113 dX10_loadOf_6 ?_
    refine lv_iconst (v := 3) hx hb dX10_loadOf_9 (by decide) ?_
    obtain ⟨a2, ha2, hf⟩ := bnd hf
    replace ha2 := chk_some ha2
    obtain ⟨q3, hq3, hf⟩ := bnd hf
    refine hcV_i hx hb hml hown hts hKs hT hb0 hH (As := [.int 3]) (rest := [.int v3_4]) (k_X9_size l E K H.size a2 3 w ha2.2 hq3) (gV m3_29 m3_22 m3_23 m1_2 m3_24) hd_X9_size ⟨Nat.le_of_ble_eq_true rfl, Nat.le_of_ble_eq_true rfl, rfl, rfl⟩ ha2.1 ha2.2 rfl rfl rfl hl.1 rfl (rcI rc0) rfl dX10_loadOf_10 ⟨Nat.zero_le _, Nat.zero_le _⟩ (fun H locs hH => ?_)
    refine lv_icmp_ge (tgt := 50) hx hb dX10_loadOf_13 (by decide) (fun c4 => ?_) (fun c4 => ?_)
    · replace hf := (if_pos c4).symm.trans hf
      exact hk v1_4 v2_4 v3_4 _ _ _ _ hH (lv_sub hl [0, 1, 2, 3] rfl) hf
    · replace hf := (if_neg c4).symm.trans hf
      refine hl_aload_n hx hb dX10_loadOf_16 rfl (lv_at hl 3 rfl) ?_
      refine g10_5 hx hb hts hown hKs hH rfl ho m2_125 dX10_loadOf_17 ?_
      refine lv_iload_n hx hb dX10_loadOf_20 rfl (lv_at hl 2 rfl) ?_
      obtain ⟨a5, ha5, hf⟩ := bnd hf
      replace ha5 := cha_some ha5
      obtain ⟨j6, hj6, hf⟩ := bnd hf
      refine hw_aald27 hx hb hKs hH ha5.1 ha5.2 hj6 dX10_loadOf_21 ?_
      obtain ⟨a7, ha7, hf⟩ := bnd hf
      replace ha7 := chk_some ha7
      refine gn7_5 hx hb hts hown hKs hH ha7.1 ha7.2 m2_80 dX10_loadOf_22 ?_
      refine lv_iload_n hx hb dX10_loadOf_25 rfl (lv_at hl 0 rfl) ?_
      refine lv_icmp_ne (tgt := 44) hx hb dX10_loadOf_26 (by decide) (fun c8 => ?_) (fun c8 => ?_)
      · replace hf := (if_neg c8).symm.trans hf
        refine lv_iinc (v := (v3_4 + 1)) (lv' := [(3, .int ((v3_4 + 1))), (1, .int v1_4), (2, .int v2_4), (0, rv E (some o))]) hx hb dX10_loadOf_44 hl (k := 2) rfl rfl (by decide) rfl (fun ls hl => ?_)
        refine lv_goto (tgt := 4) hx hb dX10_loadOf_47 (by decide) ?_
        exact ih v1_4 v2_4 (v3_4 + 1) _ _ _ _ hH (lv_sub hl [1, 2, 0, 3] rfl) hf
      · replace hf := (if_pos c8).symm.trans hf
        refine lv_iload_n hx hb dX10_loadOf_29 rfl (lv_at hl 1 rfl) ?_
        refine hl_aload_n hx hb dX10_loadOf_30 rfl (lv_at hl 3 rfl) ?_
        refine g10_0 hx hb hts hown hKs hH rfl ho m2_113 dX10_loadOf_31 ?_
        obtain ⟨a9, ha9, hf⟩ := bnd hf
        replace ha9 := chk_some ha9
        refine gn9_9 hx hb hts hown hKs hH ha9.1 ha9.2 m1_173 dX10_loadOf_34 ?_
        refine lv_iload_n hx hb dX10_loadOf_37 rfl (lv_at hl 2 rfl) ?_
        obtain ⟨a10, ha10, hf⟩ := bnd hf
        replace ha10 := cha_some ha10
        obtain ⟨j11, hj11, hf⟩ := bnd hf
        refine hw_aald25 hx hb hKs hH ha10.1 ha10.2 hj11 dX10_loadOf_38 ?_
        obtain ⟨a12, ha12, hf⟩ := bnd hf
        replace ha12 := chk_some ha12
        refine gn3_1 hx hb hts hown hKs hH ha12.1 ha12.2 m1_98 dX10_loadOf_39 ?_
        refine lv_iadd hx hb dX10_loadOf_42 ?_
        refine lv_istore_n (i := 2) (lv' := [(2, .int ((v2_4 + (wI q3.2 301 a12)))), (1, .int v1_4), (3, .int v3_4), (0, rv E (some o))]) hx hb dX10_loadOf_43 rfl hl (by decide) rfl (fun ls hl => ?_)
        refine lv_iinc (v := (v3_4 + 1)) (lv' := [(3, .int ((v3_4 + 1))), (2, .int ((v2_4 + (wI q3.2 301 a12)))), (1, .int v1_4), (0, rv E (some o))]) hx hb dX10_loadOf_44 hl (k := 2) rfl rfl (by decide) rfl (fun ls hl => ?_)
        refine lv_goto (tgt := 4) hx hb dX10_loadOf_47 (by decide) ?_
        exact ih v1_4 (v2_4 + (wI q3.2 301 a12)) (v3_4 + 1) _ _ _ _ hH (lv_sub hl [2, 1, 0, 3] rfl) hf
set_option maxHeartbeats 4000000 in
set_option maxRecDepth 100000 in
theorem k_X10_loadOf (l : Launch) (E : Ev) (K : Kd) (z : Nat) (o : Nat) (a_1 : Int32) (w : Wd) (ho : K o = some (9, 0)) {r : Int32} {w' : Wd} (hf : f_X10_loadOf K o a_1 w = some (r, w')) : Met l yX10_loadOf (Cond.code yX10_loadOf cX10_loadOf 4 (Option.some Jvm.ClassFile.FieldType.int) :: bt) ({ frames := 1, cells := 0, slots := 0, locals := 21 } : Room) (va_Pc [rv E (some o), .int a_1] (HB E K w z)) (QI E K z w' r) 0 0 (hA E) := by
  refine Met.ofW (cc := cX10_loadOf) (maxL := 4) (ret := (Option.some Jvm.ClassFile.FieldType.int)) (by decide) rfl ?_
  intro p e s m args below meth c s₁ B hml hv
  obtain ⟨rfl, hz, hP, hKs, hT, hb0⟩ := hv
  have C : CX p l e s m _ meth c cX10_loadOf 4 RX10 (Option.some Jvm.ClassFile.FieldType.int) E := ⟨B.exec, B.bytes, hml, findClass_of_methodNamed B.named, fun w h => atoms_spec (ws := Cond.code yX10_loadOf cX10_loadOf 4 (Option.some Jvm.ClassFile.FieldType.int) :: bt) B.pre w (List.mem_cons_of_mem _ h), hKs, hT, by rw [hz]; exact hb0, B.notSynchronized, B.returns⟩
  have hH : HQ E K z w s s.heap [] := ⟨hP, va_S.rf, hz⟩
  obtain ⟨hx, hb, hml, hown, hts, hKs, hT, hb0, hlocks, hret⟩ := id C
  have hl := lv_entry [rv E (some o), .int a_1] (n := 4) (by simp [lg_len_nil, lg_len_i, lg_len_j, lg_len_q, lg_len_f, lg_len_d, lg_len_r])
  rw [lg_entry_eq]
  generalize (lg_sl [rv E (some o), .int a_1] ++ List.replicate (4 - (lg_sl [rv E (some o), .int a_1]).length) Slot.unset).toArray = ls at hl ⊢
  replace hl : lv_has ls 4 [(0, rv E (some o)), (1, .int a_1)] := by simpa only [lv_args, cat_q, cat_i, cat_j, reduceIte, Nat.reduceEqDiff, Nat.reduceAdd, Nat.zero_add] using hl
  generalize s.heap = H at hH ⊢
  unfold f_X10_loadOf at hf
  refine lv_iconst (v := 0) hx hb dX10_loadOf_0 (by decide) ?_
  refine lv_istore_n (i := 2) (lv' := [(2, .int 0), (0, rv E (some o)), (1, .int a_1)]) hx hb dX10_loadOf_1 rfl hl (by decide) rfl (fun ls hl => ?_)
  refine lv_iconst (v := 0) hx hb dX10_loadOf_2 (by decide) ?_
  refine lv_istore_n (i := 3) (lv' := [(3, .int 0), (2, .int 0), (0, rv E (some o)), (1, .int a_1)]) hx hb dX10_loadOf_3 rfl hl (by decide) rfl (fun ls hl => ?_)
  refine l_X10_loadOf_L4  C ho _ (fun v1_4 v2_4 v3_4 w1 H locs ls hH hl hf => ?_) fu a_1 0 0 w _ _ _ hH (lv_sub hl [3, 1, 0, 2] rfl) hf
  refine lv_iload_n hx hb dX10_loadOf_50 rfl (lv_at hl 1 rfl) ?_
  exact hw_iret hx hb hret hf hH hlocks dX10_loadOf_51

theorem dX10_slotsOf_0 : decode cX10_slotsOf 0 = .ok (.aload_n 0, 1) := by decide +kernel
theorem dX10_slotsOf_1 : decode cX10_slotsOf 1 = .ok (.getfield 27, 3) := by decide +kernel
theorem dX10_slotsOf_4 : decode cX10_slotsOf 4 = .ok (.iload_n 1, 1) := by decide +kernel
theorem dX10_slotsOf_5 : decode cX10_slotsOf 5 = .ok (.aaload, 1) := by decide +kernel
theorem dX10_slotsOf_6 : decode cX10_slotsOf 6 = .ok (.getfield 126, 3) := by decide +kernel
theorem dX10_slotsOf_9 : decode cX10_slotsOf 9 = .ok (.aload_n 0, 1) := by decide +kernel
theorem dX10_slotsOf_10 : decode cX10_slotsOf 10 = .ok (.getfield 31, 3) := by decide +kernel
theorem dX10_slotsOf_13 : decode cX10_slotsOf 13 = .ok (.getfield 57, 3) := by decide +kernel
theorem dX10_slotsOf_16 : decode cX10_slotsOf 16 = .ok (.iload_n 1, 1) := by decide +kernel
theorem dX10_slotsOf_17 : decode cX10_slotsOf 17 = .ok (.aaload, 1) := by decide +kernel
theorem dX10_slotsOf_18 : decode cX10_slotsOf 18 = .ok (.getfield 113, 3) := by decide +kernel
theorem dX10_slotsOf_21 : decode cX10_slotsOf 21 = .ok (.invokestatic 129, 3) := by decide +kernel
theorem dX10_slotsOf_24 : decode cX10_slotsOf 24 = .ok (.ireturn, 1) := by decide +kernel
theorem hd_X10_slotsOf : yX10_slotsOf.cls = RX10 ∧ yX10_slotsOf.cls ≠ "java/lang/invoke/MethodHandle" ∧ yX10_slotsOf.cls ≠ "java/lang/invoke/VarHandle" ∧ (parseMethodDescriptor yX10_slotsOf.desc).map (fun d => d.parameters.length) = some 1 := by decide +kernel
theorem hs_X10_slotsOf : yX10_slotsOf.cls ≠ "java/lang/invoke/MethodHandle" ∧ yX10_slotsOf.cls ≠ "java/lang/invoke/VarHandle" ∧ (parseMethodDescriptor yX10_slotsOf.desc).map (fun d => d.parameters.length) = some 1 := by decide +kernel
set_option maxHeartbeats 4000000 in
set_option maxRecDepth 100000 in
theorem k_X10_slotsOf (l : Launch) (E : Ev) (K : Kd) (z : Nat) (o : Nat) (a_1 : Int32) (w : Wd) (ho : K o = some (9, 0)) {r : Int32} {w' : Wd} (hf : f_X10_slotsOf K o a_1 w = some (r, w')) : Met l yX10_slotsOf (Cond.code yX10_slotsOf cX10_slotsOf 2 (Option.some Jvm.ClassFile.FieldType.int) :: bt) ({ frames := 1, cells := 0, slots := 0, locals := 21 } : Room) (va_Pc [rv E (some o), .int a_1] (HB E K w z)) (QI E K z w' r) 0 0 (hA E) := by
  refine Met.ofW (cc := cX10_slotsOf) (maxL := 2) (ret := (Option.some Jvm.ClassFile.FieldType.int)) (by decide) rfl ?_
  intro p e s m args below meth c s₁ B hml hv
  obtain ⟨rfl, hz, hP, hKs, hT, hb0⟩ := hv
  have C : CX p l e s m _ meth c cX10_slotsOf 2 RX10 (Option.some Jvm.ClassFile.FieldType.int) E := ⟨B.exec, B.bytes, hml, findClass_of_methodNamed B.named, fun w h => atoms_spec (ws := Cond.code yX10_slotsOf cX10_slotsOf 2 (Option.some Jvm.ClassFile.FieldType.int) :: bt) B.pre w (List.mem_cons_of_mem _ h), hKs, hT, by rw [hz]; exact hb0, B.notSynchronized, B.returns⟩
  have hH : HQ E K z w s s.heap [] := ⟨hP, va_S.rf, hz⟩
  obtain ⟨hx, hb, hml, hown, hts, hKs, hT, hb0, hlocks, hret⟩ := id C
  have hl := lv_entry [rv E (some o), .int a_1] (n := 2) (by simp [lg_len_nil, lg_len_i, lg_len_j, lg_len_q, lg_len_f, lg_len_d, lg_len_r])
  rw [lg_entry_eq]
  generalize (lg_sl [rv E (some o), .int a_1] ++ List.replicate (2 - (lg_sl [rv E (some o), .int a_1]).length) Slot.unset).toArray = ls at hl ⊢
  replace hl : lv_has ls 2 [(0, rv E (some o)), (1, .int a_1)] := by simpa only [lv_args, cat_q, cat_i, cat_j, reduceIte, Nat.reduceEqDiff, Nat.reduceAdd, Nat.zero_add] using hl
  generalize s.heap = H at hH ⊢
  unfold f_X10_slotsOf at hf
  refine hl_aload_n hx hb dX10_slotsOf_0 rfl (lv_at hl 0 rfl) ?_
  refine g10_5 hx hb hts hown hKs hH rfl ho m2_125 dX10_slotsOf_1 ?_
  refine lv_iload_n hx hb dX10_slotsOf_4 rfl (lv_at hl 1 rfl) ?_
  obtain ⟨a1, ha1, hf⟩ := bnd hf
  replace ha1 := cha_some ha1
  obtain ⟨j2, hj2, hf⟩ := bnd hf
  refine hw_aald27 hx hb hKs hH ha1.1 ha1.2 hj2 dX10_slotsOf_5 ?_
  obtain ⟨a3, ha3, hf⟩ := bnd hf
  replace ha3 := chk_some ha3
  refine gn7_3 hx hb hts hown hKs hH ha3.1 ha3.2 m2_73 dX10_slotsOf_6 ?_
  refine hl_aload_n hx hb dX10_slotsOf_9 rfl (lv_at hl 0 rfl) ?_
  refine g10_0 hx hb hts hown hKs hH rfl ho m2_113 dX10_slotsOf_10 ?_
  obtain ⟨a4, ha4, hf⟩ := bnd hf
  replace ha4 := chk_some ha4
  refine gn9_9 hx hb hts hown hKs hH ha4.1 ha4.2 m1_173 dX10_slotsOf_13 ?_
  refine lv_iload_n hx hb dX10_slotsOf_16 rfl (lv_at hl 1 rfl) ?_
  obtain ⟨a5, ha5, hf⟩ := bnd hf
  replace ha5 := cha_some ha5
  obtain ⟨j6, hj6, hf⟩ := bnd hf
  refine hw_aald25 hx hb hKs hH ha5.1 ha5.2 hj6 dX10_slotsOf_17 ?_
  obtain ⟨a7, ha7, hf⟩ := bnd hf
  replace ha7 := chk_some ha7
  refine gn3_1 hx hb hts hown hKs hH ha7.1 ha7.2 m1_98 dX10_slotsOf_18 ?_
  obtain ⟨q8, hq8, hf⟩ := bnd hf
  refine hcM_i hx hb hml hown hts hKs hT hb0 hH (As := [.int ((wI w 703 a3)), .int ((wI w 301 a7))]) (rest := []) (k_X12_slotSet l E K H.size (wI w 703 a3) (wI w 301 a7) w hq8) m3_228 m3_229 m1_1 m3_230 hs_X12_slotSet ⟨Nat.le_of_ble_eq_true rfl, Nat.le_of_ble_eq_true rfl, rfl, rfl⟩ hl.1 rfl rc0 rfl dX10_slotsOf_21 ⟨Nat.zero_le _, Nat.zero_le _⟩ (fun H locs hH => ?_)
  exact hw_iret hx hb hret hf hH hlocks dX10_slotsOf_24

theorem dX10_barredOfficers_0 : decode cX10_barredOfficers 0 = .ok (.aload_n 0, 1) := by decide +kernel
theorem dX10_barredOfficers_1 : decode cX10_barredOfficers 1 = .ok (.getfield 22, 3) := by decide +kernel
theorem dX10_barredOfficers_4 : decode cX10_barredOfficers 4 = .ok (.iload_n 1, 1) := by decide +kernel
theorem dX10_barredOfficers_5 : decode cX10_barredOfficers 5 = .ok (.iaload, 1) := by decide +kernel
theorem dX10_barredOfficers_6 : decode cX10_barredOfficers 6 = .ok (.istore_n 2, 1) := by decide +kernel
theorem dX10_barredOfficers_7 : decode cX10_barredOfficers 7 = .ok (.aload_n 0, 1) := by decide +kernel
theorem dX10_barredOfficers_8 : decode cX10_barredOfficers 8 = .ok (.getfield 31, 3) := by decide +kernel
theorem dX10_barredOfficers_11 : decode cX10_barredOfficers 11 = .ok (.getfield 57, 3) := by decide +kernel
theorem dX10_barredOfficers_14 : decode cX10_barredOfficers 14 = .ok (.iload_n 1, 1) := by decide +kernel
theorem dX10_barredOfficers_15 : decode cX10_barredOfficers 15 = .ok (.aaload, 1) := by decide +kernel
theorem dX10_barredOfficers_16 : decode cX10_barredOfficers 16 = .ok (.getfield 132, 3) := by decide +kernel
theorem dX10_barredOfficers_19 : decode cX10_barredOfficers 19 = .ok (.istore_n 3, 1) := by decide +kernel
theorem dX10_barredOfficers_20 : decode cX10_barredOfficers 20 = .ok (.iconst 0, 1) := by decide +kernel
theorem dX10_barredOfficers_21 : decode cX10_barredOfficers 21 = .ok (.istore 4, 2) := by decide +kernel
theorem dX10_barredOfficers_23 : decode cX10_barredOfficers 23 = .ok (.iload 4, 2) := by decide +kernel
theorem dX10_barredOfficers_25 : decode cX10_barredOfficers 25 = .ok (.aload_n 0, 1) := by decide +kernel
theorem dX10_barredOfficers_26 : decode cX10_barredOfficers 26 = .ok (.getfield 31, 3) := by decide +kernel
theorem dX10_barredOfficers_29 : decode cX10_barredOfficers 29 = .ok (.iconst 3, 1) := by decide +kernel
theorem dX10_barredOfficers_30 : decode cX10_barredOfficers 30 = .ok (.invokevirtual 92, 3) := by decide +kernel
theorem dX10_barredOfficers_33 : decode cX10_barredOfficers 33 = .ok (.if_icmp .ge 47, 3) := by decide +kernel
theorem dX10_barredOfficers_36 : decode cX10_barredOfficers 36 = .ok (.iload_n 3, 1) := by decide +kernel
theorem dX10_barredOfficers_37 : decode cX10_barredOfficers 37 = .ok (.iload 4, 2) := by decide +kernel
theorem dX10_barredOfficers_39 : decode cX10_barredOfficers 39 = .ok (.invokestatic 106, 3) := by decide +kernel
theorem dX10_barredOfficers_42 : decode cX10_barredOfficers 42 = .ok (.ifCond .eq 32, 3) := by decide +kernel
theorem dX10_barredOfficers_45 : decode cX10_barredOfficers 45 = .ok (.aload_n 0, 1) := by decide +kernel
theorem dX10_barredOfficers_46 : decode cX10_barredOfficers 46 = .ok (.getfield 27, 3) := by decide +kernel
theorem dX10_barredOfficers_49 : decode cX10_barredOfficers 49 = .ok (.iload 4, 2) := by decide +kernel
theorem dX10_barredOfficers_51 : decode cX10_barredOfficers 51 = .ok (.aaload, 1) := by decide +kernel
theorem dX10_barredOfficers_52 : decode cX10_barredOfficers 52 = .ok (.getfield 110, 3) := by decide +kernel
theorem dX10_barredOfficers_55 : decode cX10_barredOfficers 55 = .ok (.iconst (-1), 1) := by decide +kernel
theorem dX10_barredOfficers_56 : decode cX10_barredOfficers 56 = .ok (.if_icmp .eq 18, 3) := by decide +kernel
theorem dX10_barredOfficers_59 : decode cX10_barredOfficers 59 = .ok (.iload_n 2, 1) := by decide +kernel
theorem dX10_barredOfficers_60 : decode cX10_barredOfficers 60 = .ok (.iconst 1, 1) := by decide +kernel
theorem dX10_barredOfficers_61 : decode cX10_barredOfficers 61 = .ok (.aload_n 0, 1) := by decide +kernel
theorem dX10_barredOfficers_62 : decode cX10_barredOfficers 62 = .ok (.getfield 27, 3) := by decide +kernel
theorem dX10_barredOfficers_65 : decode cX10_barredOfficers 65 = .ok (.iload 4, 2) := by decide +kernel
theorem dX10_barredOfficers_67 : decode cX10_barredOfficers 67 = .ok (.aaload, 1) := by decide +kernel
theorem dX10_barredOfficers_68 : decode cX10_barredOfficers 68 = .ok (.getfield 110, 3) := by decide +kernel
theorem dX10_barredOfficers_71 : decode cX10_barredOfficers 71 = .ok (.ishl, 1) := by decide +kernel
theorem dX10_barredOfficers_72 : decode cX10_barredOfficers 72 = .ok (.ior, 1) := by decide +kernel
theorem dX10_barredOfficers_73 : decode cX10_barredOfficers 73 = .ok (.istore_n 2, 1) := by decide +kernel
theorem dX10_barredOfficers_74 : decode cX10_barredOfficers 74 = .ok (.iinc 4 1, 3) := by decide +kernel
theorem dX10_barredOfficers_77 : decode cX10_barredOfficers 77 = .ok (.goto (-54), 3) := by decide +kernel
theorem dX10_barredOfficers_80 : decode cX10_barredOfficers 80 = .ok (.iload_n 2, 1) := by decide +kernel
theorem dX10_barredOfficers_81 : decode cX10_barredOfficers 81 = .ok (.ireturn, 1) := by decide +kernel
theorem hd_X10_barredOfficers : yX10_barredOfficers.cls = RX10 ∧ yX10_barredOfficers.cls ≠ "java/lang/invoke/MethodHandle" ∧ yX10_barredOfficers.cls ≠ "java/lang/invoke/VarHandle" ∧ (parseMethodDescriptor yX10_barredOfficers.desc).map (fun d => d.parameters.length) = some 1 := by decide +kernel
theorem hs_X10_barredOfficers : yX10_barredOfficers.cls ≠ "java/lang/invoke/MethodHandle" ∧ yX10_barredOfficers.cls ≠ "java/lang/invoke/VarHandle" ∧ (parseMethodDescriptor yX10_barredOfficers.desc).map (fun d => d.parameters.length) = some 1 := by decide +kernel
set_option maxHeartbeats 4000000 in
set_option maxRecDepth 100000 in
theorem l_X10_barredOfficers_L23 (C : CX p l e s m args meth c cX10_barredOfficers 5 RX10 (Option.some Jvm.ClassFile.FieldType.int) E) {o : Nat} (ho : K o = some (9, 0)) {r : Int32} {w' : Wd} (k : Int32 → Int32 → Int32 → Int32 → Wd → Option (Int32 × Wd)) (hk : ∀ (v1_23 : Int32) (v2_23 : Int32) (v3_23 : Int32) (v4_23 : Int32) (w : Wd) (H : Heap) (locs : List Loc) (ls : Array Slot), HQ E K z w s H locs → lv_has ls 5 [(1, .int v1_23), (2, .int v2_23), (3, .int v3_23), (4, .int v4_23), (0, rv E (some o))] → k v1_23 v2_23 v3_23 v4_23 w = some (r, w') → W p l e ({ frames := 1, cells := 0, slots := 0, locals := 21 } : Room) s m args below meth c H locs 0 0 (MQ below (QI E K z w' r) args s 0 0 (hA E)) (F0 m 80 ls [])) : ∀ (n : Nat) (v1_23 : Int32) (v2_23 : Int32) (v3_23 : Int32) (v4_23 : Int32) (w : Wd) (H : Heap) (locs : List Loc) (ls : Array Slot), HQ E K z w s H locs → lv_has ls 5 [(1, .int v1_23), (2, .int v2_23), (3, .int v3_23), (4, .int v4_23), (0, rv E (some o))] → f_X10_barredOfficers_L23 K o k n v1_23 v2_23 v3_23 v4_23 w = some (r, w') → W p l e ({ frames := 1, cells := 0, slots := 0, locals := 21 } : Room) s m args below meth c H locs 0 0 (MQ below (QI E K z w' r) args s 0 0 (hA E)) (F0 m 23 ls []) := by
  obtain ⟨hx, hb, hml, hown, hts, hKs, hT, hb0, hlocks, hret⟩ := id C
  intro n
  induction n with
  | zero =>
    intro v1_23 v2_23 v3_23 v4_23 w H locs ls hH hl hf
    cases hf
  | succ n ih =>
    intro v1_23 v2_23 v3_23 v4_23 w H locs ls hH hl hf
    rw [f_X10_barredOfficers_L23] at hf
    refine lv_iload hx hb dX10_barredOfficers_23 (lv_at hl 3 rfl) ?_
    refine hl_aload_n hx hb dX10_barredOfficers_25 rfl (lv_at hl 4 rfl) ?_
    refine g10_0 hx hb hts hown hKs hH rfl ho m2_113 dX10_barredOfficers_26 ?_
    refine lv_iconst (v := 3) hx hb dX10_barredOfficers_29 (by decide) ?_
    obtain ⟨a8, ha8, hf⟩ := bnd hf
    replace ha8 := chk_some ha8
    obtain ⟨q9, hq9, hf⟩ := bnd hf
    refine hcV_i hx hb hml hown hts hKs hT hb0 hH (As := [.int 3]) (rest := [.int v4_23]) (k_X9_size l E K H.size a8 3 w ha8.2 hq9) (gV m3_29 m3_22 m3_23 m1_2 m3_24) hd_X9_size ⟨Nat.le_of_ble_eq_true rfl, Nat.le_of_ble_eq_true rfl, rfl, rfl⟩ ha8.1 ha8.2 rfl rfl rfl hl.1 rfl (rcI rc0) rfl dX10_barredOfficers_30 ⟨Nat.zero_le _, Nat.zero_le _⟩ (fun H locs hH => ?_)
    refine lv_icmp_ge (tgt := 80) hx hb dX10_barredOfficers_33 (by decide) (fun c10 => ?_) (fun c10 => ?_)
    · replace hf := (if_pos c10).symm.trans hf
      exact hk v1_23 v2_23 v3_23 v4_23 _ _ _ _ hH (lv_sub hl [0, 1, 2, 3, 4] rfl) hf
    · replace hf := (if_neg c10).symm.trans hf
      refine lv_iload_n hx hb dX10_barredOfficers_36 rfl (lv_at hl 2 rfl) ?_
      refine lv_iload hx hb dX10_barredOfficers_37 (lv_at hl 3 rfl) ?_
      obtain ⟨q11, hq11, hf⟩ := bnd hf
      refine hcM_i hx hb hml hown hts hKs hT hb0 hH (As := [.int v3_23, .int v4_23]) (rest := []) (k_X12_has l E K H.size v3_23 v4_23 q9.2 hq11) m3_187 m3_188 m1_1 m3_189 hs_X12_has ⟨Nat.le_of_ble_eq_true rfl, Nat.le_of_ble_eq_true rfl, rfl, rfl⟩ hl.1 rfl rc0 rfl dX10_barredOfficers_39 ⟨Nat.zero_le _, Nat.zero_le _⟩ (fun H locs hH => ?_)
      refine lv_if_eq (tgt := 74) hx hb dX10_barredOfficers_42 (by decide) (fun c12 => ?_) (fun c12 => ?_)
      · replace hf := (if_pos c12).symm.trans hf
        refine lv_iinc (v := (v4_23 + 1)) (lv' := [(4, .int ((v4_23 + 1))), (1, .int v1_23), (2, .int v2_23), (3, .int v3_23), (0, rv E (some o))]) hx hb dX10_barredOfficers_74 hl (k := 3) rfl rfl (by decide) rfl (fun ls hl => ?_)
        refine lv_goto (tgt := 23) hx hb dX10_barredOfficers_77 (by decide) ?_
        exact ih v1_23 v2_23 v3_23 (v4_23 + 1) _ _ _ _ hH (lv_sub hl [1, 2, 3, 0, 4] rfl) hf
      · replace hf := (if_neg c12).symm.trans hf
        refine hl_aload_n hx hb dX10_barredOfficers_45 rfl (lv_at hl 4 rfl) ?_
        refine g10_5 hx hb hts hown hKs hH rfl ho m2_125 dX10_barredOfficers_46 ?_
        refine lv_iload hx hb dX10_barredOfficers_49 (lv_at hl 3 rfl) ?_
        obtain ⟨a13, ha13, hf⟩ := bnd hf
        replace ha13 := cha_some ha13
        obtain ⟨j14, hj14, hf⟩ := bnd hf
        refine hw_aald27 hx hb hKs hH ha13.1 ha13.2 hj14 dX10_barredOfficers_51 ?_
        obtain ⟨a15, ha15, hf⟩ := bnd hf
        replace ha15 := chk_some ha15
        refine gn7_5 hx hb hts hown hKs hH ha15.1 ha15.2 m2_80 dX10_barredOfficers_52 ?_
        refine lv_iconst (v := (-1)) hx hb dX10_barredOfficers_55 (by decide) ?_
        refine lv_icmp_eq (tgt := 74) hx hb dX10_barredOfficers_56 (by decide) (fun c16 => ?_) (fun c16 => ?_)
        · replace hf := (if_pos c16).symm.trans hf
          refine lv_iinc (v := (v4_23 + 1)) (lv' := [(4, .int ((v4_23 + 1))), (1, .int v1_23), (2, .int v2_23), (3, .int v3_23), (0, rv E (some o))]) hx hb dX10_barredOfficers_74 hl (k := 3) rfl rfl (by decide) rfl (fun ls hl => ?_)
          refine lv_goto (tgt := 23) hx hb dX10_barredOfficers_77 (by decide) ?_
          exact ih v1_23 v2_23 v3_23 (v4_23 + 1) _ _ _ _ hH (lv_sub hl [1, 2, 3, 0, 4] rfl) hf
        · replace hf := (if_neg c16).symm.trans hf
          refine lv_iload_n hx hb dX10_barredOfficers_59 rfl (lv_at hl 1 rfl) ?_
          refine lv_iconst (v := 1) hx hb dX10_barredOfficers_60 (by decide) ?_
          refine hl_aload_n hx hb dX10_barredOfficers_61 rfl (lv_at hl 4 rfl) ?_
          refine g10_5 hx hb hts hown hKs hH rfl ho m2_125 dX10_barredOfficers_62 ?_
          refine lv_iload hx hb dX10_barredOfficers_65 (lv_at hl 3 rfl) ?_
          obtain ⟨j17, hj17, hf⟩ := bnd hf
          refine hw_aald27 hx hb hKs hH ha13.1 ha13.2 hj17 dX10_barredOfficers_67 ?_
          obtain ⟨a18, ha18, hf⟩ := bnd hf
          replace ha18 := chk_some ha18
          refine gn7_5 hx hb hts hown hKs hH ha18.1 ha18.2 m2_80 dX10_barredOfficers_68 ?_
          refine lv_ishl hx hb dX10_barredOfficers_71 ?_
          refine lv_ior hx hb dX10_barredOfficers_72 ?_
          refine lv_istore_n (i := 2) (lv' := [(2, .int ((v2_23 ||| (1 <<< ((wI q11.2 705 a18) &&& 31))))), (1, .int v1_23), (3, .int v3_23), (4, .int v4_23), (0, rv E (some o))]) hx hb dX10_barredOfficers_73 rfl hl (by decide) rfl (fun ls hl => ?_)
          refine lv_iinc (v := (v4_23 + 1)) (lv' := [(4, .int ((v4_23 + 1))), (2, .int ((v2_23 ||| (1 <<< ((wI q11.2 705 a18) &&& 31))))), (1, .int v1_23), (3, .int v3_23), (0, rv E (some o))]) hx hb dX10_barredOfficers_74 hl (k := 3) rfl rfl (by decide) rfl (fun ls hl => ?_)
          refine lv_goto (tgt := 23) hx hb dX10_barredOfficers_77 (by decide) ?_
          exact ih v1_23 (v2_23 ||| (1 <<< ((wI q11.2 705 a18) &&& 31))) v3_23 (v4_23 + 1) _ _ _ _ hH (lv_sub hl [2, 1, 3, 0, 4] rfl) hf
set_option maxHeartbeats 4000000 in
set_option maxRecDepth 100000 in
theorem k_X10_barredOfficers (l : Launch) (E : Ev) (K : Kd) (z : Nat) (o : Nat) (a_1 : Int32) (w : Wd) (ho : K o = some (9, 0)) {r : Int32} {w' : Wd} (hf : f_X10_barredOfficers K o a_1 w = some (r, w')) : Met l yX10_barredOfficers (Cond.code yX10_barredOfficers cX10_barredOfficers 5 (Option.some Jvm.ClassFile.FieldType.int) :: bt) ({ frames := 1, cells := 0, slots := 0, locals := 21 } : Room) (va_Pc [rv E (some o), .int a_1] (HB E K w z)) (QI E K z w' r) 0 0 (hA E) := by
  refine Met.ofW (cc := cX10_barredOfficers) (maxL := 5) (ret := (Option.some Jvm.ClassFile.FieldType.int)) (by decide) rfl ?_
  intro p e s m args below meth c s₁ B hml hv
  obtain ⟨rfl, hz, hP, hKs, hT, hb0⟩ := hv
  have C : CX p l e s m _ meth c cX10_barredOfficers 5 RX10 (Option.some Jvm.ClassFile.FieldType.int) E := ⟨B.exec, B.bytes, hml, findClass_of_methodNamed B.named, fun w h => atoms_spec (ws := Cond.code yX10_barredOfficers cX10_barredOfficers 5 (Option.some Jvm.ClassFile.FieldType.int) :: bt) B.pre w (List.mem_cons_of_mem _ h), hKs, hT, by rw [hz]; exact hb0, B.notSynchronized, B.returns⟩
  have hH : HQ E K z w s s.heap [] := ⟨hP, va_S.rf, hz⟩
  obtain ⟨hx, hb, hml, hown, hts, hKs, hT, hb0, hlocks, hret⟩ := id C
  have hl := lv_entry [rv E (some o), .int a_1] (n := 5) (by simp [lg_len_nil, lg_len_i, lg_len_j, lg_len_q, lg_len_f, lg_len_d, lg_len_r])
  rw [lg_entry_eq]
  generalize (lg_sl [rv E (some o), .int a_1] ++ List.replicate (5 - (lg_sl [rv E (some o), .int a_1]).length) Slot.unset).toArray = ls at hl ⊢
  replace hl : lv_has ls 5 [(0, rv E (some o)), (1, .int a_1)] := by simpa only [lv_args, cat_q, cat_i, cat_j, reduceIte, Nat.reduceEqDiff, Nat.reduceAdd, Nat.zero_add] using hl
  generalize s.heap = H at hH ⊢
  unfold f_X10_barredOfficers at hf
  refine hl_aload_n hx hb dX10_barredOfficers_0 rfl (lv_at hl 0 rfl) ?_
  refine g10_4 hx hb hts hown hKs hH rfl ho m2_123 dX10_barredOfficers_1 ?_
  refine lv_iload_n hx hb dX10_barredOfficers_4 rfl (lv_at hl 1 rfl) ?_
  obtain ⟨a1, ha1, hf⟩ := bnd hf
  replace ha1 := cha_some ha1
  obtain ⟨j2, hj2, hf⟩ := bnd hf
  refine hw_iald hx hb hKs hH ha1.1 ha1.2 hj2 dX10_barredOfficers_5 ?_
  refine lv_istore_n (i := 2) (lv' := [(2, .int ((aI w a1.1 j2))), (0, rv E (some o)), (1, .int a_1)]) hx hb dX10_barredOfficers_6 rfl hl (by decide) rfl (fun ls hl => ?_)
  refine hl_aload_n hx hb dX10_barredOfficers_7 rfl (lv_at hl 1 rfl) ?_
  refine g10_0 hx hb hts hown hKs hH rfl ho m2_113 dX10_barredOfficers_8 ?_
  obtain ⟨a3, ha3, hf⟩ := bnd hf
  replace ha3 := chk_some ha3
  refine gn9_9 hx hb hts hown hKs hH ha3.1 ha3.2 m1_173 dX10_barredOfficers_11 ?_
  refine lv_iload_n hx hb dX10_barredOfficers_14 rfl (lv_at hl 2 rfl) ?_
  obtain ⟨a4, ha4, hf⟩ := bnd hf
  replace ha4 := cha_some ha4
  obtain ⟨j5, hj5, hf⟩ := bnd hf
  refine hw_aald25 hx hb hKs hH ha4.1 ha4.2 hj5 dX10_barredOfficers_15 ?_
  obtain ⟨a6, ha6, hf⟩ := bnd hf
  replace ha6 := chk_some ha6
  refine gn3_5 hx hb hts hown hKs hH ha6.1 ha6.2 m1_115 dX10_barredOfficers_16 ?_
  refine lv_istore_n (i := 3) (lv' := [(3, .int ((wI w 305 a6))), (2, .int ((aI w a1.1 j2))), (0, rv E (some o)), (1, .int a_1)]) hx hb dX10_barredOfficers_19 rfl hl (by decide) rfl (fun ls hl => ?_)
  refine lv_iconst (v := 0) hx hb dX10_barredOfficers_20 (by decide) ?_
  refine lv_istore (i := 4) (lv' := [(4, .int 0), (3, .int ((wI w 305 a6))), (2, .int ((aI w a1.1 j2))), (0, rv E (some o)), (1, .int a_1)]) hx hb dX10_barredOfficers_21 hl (by decide) rfl (fun ls hl => ?_)
  refine l_X10_barredOfficers_L23  C ho _ (fun v1_23 v2_23 v3_23 v4_23 w7 H locs ls hH hl hf => ?_) fu a_1 (aI w a1.1 j2) (wI w 305 a6) 0 w _ _ _ hH (lv_sub hl [4, 2, 1, 0, 3] rfl) hf
  refine lv_iload_n hx hb dX10_barredOfficers_80 rfl (lv_at hl 1 rfl) ?_
  exact hw_iret hx hb hret hf hH hlocks dX10_barredOfficers_81

theorem dX10_slotsOutside_0 : decode cX10_slotsOutside 0 = .ok (.iconst 0, 1) := by decide +kernel
theorem dX10_slotsOutside_1 : decode cX10_slotsOutside 1 = .ok (.istore_n 3, 1) := by decide +kernel
theorem dX10_slotsOutside_2 : decode cX10_slotsOutside 2 = .ok (.iconst 0, 1) := by decide +kernel
theorem dX10_slotsOutside_3 : decode cX10_slotsOutside 3 = .ok (.istore 4, 2) := by decide +kernel
theorem dX10_slotsOutside_5 : decode cX10_slotsOutside 5 = .ok (.iload 4, 2) := by decide +kernel
theorem dX10_slotsOutside_7 : decode cX10_slotsOutside 7 = .ok (.aload_n 0, 1) := by decide +kernel
theorem dX10_slotsOutside_8 : decode cX10_slotsOutside 8 = .ok (.getfield 31, 3) := by decide +kernel
theorem dX10_slotsOutside_11 : decode cX10_slotsOutside 11 = .ok (.iconst 2, 1) := by decide +kernel
theorem dX10_slotsOutside_12 : decode cX10_slotsOutside 12 = .ok (.invokevirtual 92, 3) := by decide +kernel
theorem dX10_slotsOutside_15 : decode cX10_slotsOutside 15 = .ok (.if_icmp .ge 96, 3) := by decide +kernel
theorem dX10_slotsOutside_18 : decode cX10_slotsOutside 18 = .ok (.iload_n 1, 1) := by decide +kernel
theorem dX10_slotsOutside_19 : decode cX10_slotsOutside 19 = .ok (.iload 4, 2) := by decide +kernel
theorem dX10_slotsOutside_21 : decode cX10_slotsOutside 21 = .ok (.invokestatic 106, 3) := by decide +kernel
theorem dX10_slotsOutside_24 : decode cX10_slotsOutside 24 = .ok (.ifCond .eq 81, 3) := by decide +kernel
theorem dX10_slotsOutside_27 : decode cX10_slotsOutside 27 = .ok (.iload_n 2, 1) := by decide +kernel
theorem dX10_slotsOutside_28 : decode cX10_slotsOutside 28 = .ok (.aload_n 0, 1) := by decide +kernel
theorem dX10_slotsOutside_29 : decode cX10_slotsOutside 29 = .ok (.getfield 31, 3) := by decide +kernel
theorem dX10_slotsOutside_32 : decode cX10_slotsOutside 32 = .ok (.getfield 135, 3) := by decide +kernel
theorem dX10_slotsOutside_35 : decode cX10_slotsOutside 35 = .ok (.iload 4, 2) := by decide +kernel
theorem dX10_slotsOutside_37 : decode cX10_slotsOutside 37 = .ok (.iaload, 1) := by decide +kernel
theorem dX10_slotsOutside_38 : decode cX10_slotsOutside 38 = .ok (.if_icmp .lt 18, 3) := by decide +kernel
theorem dX10_slotsOutside_41 : decode cX10_slotsOutside 41 = .ok (.iload_n 2, 1) := by decide +kernel
theorem dX10_slotsOutside_42 : decode cX10_slotsOutside 42 = .ok (.aload_n 0, 1) := by decide +kernel
theorem dX10_slotsOutside_43 : decode cX10_slotsOutside 43 = .ok (.getfield 18, 3) := by decide +kernel
theorem dX10_slotsOutside_46 : decode cX10_slotsOutside 46 = .ok (.iload 4, 2) := by decide +kernel
theorem dX10_slotsOutside_48 : decode cX10_slotsOutside 48 = .ok (.iaload, 1) := by decide +kernel
theorem dX10_slotsOutside_49 : decode cX10_slotsOutside 49 = .ok (.if_icmp .gt 7, 3) := by decide +kernel
theorem dX10_slotsOutside_52 : decode cX10_slotsOutside 52 = .ok (.iconst 1, 1) := by decide +kernel
theorem dX10_slotsOutside_53 : decode cX10_slotsOutside 53 = .ok (.goto 4, 3) := by decide +kernel
theorem dX10_slotsOutside_56 : decode cX10_slotsOutside 56 = .ok (.iconst 0, 1) := by decide +kernel
theorem dX10_slotsOutside_57 : decode cX10_slotsOutside 57 = .ok (.istore 5, 2) := by decide +kernel
theorem dX10_slotsOutside_59 : decode cX10_slotsOutside 59 = .ok (.aload_n 0, 1) := by decide +kernel
theorem dX10_slotsOutside_60 : decode cX10_slotsOutside 60 = .ok (.getfield 31, 3) := by decide +kernel
theorem dX10_slotsOutside_63 : decode cX10_slotsOutside 63 = .ok (.getfield 138, 3) := by decide +kernel
theorem dX10_slotsOutside_66 : decode cX10_slotsOutside 66 = .ok (.iload 4, 2) := by decide +kernel
theorem dX10_slotsOutside_68 : decode cX10_slotsOutside 68 = .ok (.iaload, 1) := by decide +kernel
theorem dX10_slotsOutside_69 : decode cX10_slotsOutside 69 = .ok (.istore 6, 2) := by decide +kernel
theorem dX10_slotsOutside_71 : decode cX10_slotsOutside 71 = .ok (.iload_n 3, 1) := by decide +kernel
theorem dX10_slotsOutside_72 : decode cX10_slotsOutside 72 = .ok (.iload 5, 2) := by decide +kernel
theorem dX10_slotsOutside_74 : decode cX10_slotsOutside 74 = .ok (.ifCond .eq 26, 3) := by decide +kernel
theorem dX10_slotsOutside_77 : decode cX10_slotsOutside 77 = .ok (.iload 6, 2) := by decide +kernel
theorem dX10_slotsOutside_79 : decode cX10_slotsOutside 79 = .ok (.aload_n 0, 1) := by decide +kernel
theorem dX10_slotsOutside_80 : decode cX10_slotsOutside 80 = .ok (.getfield 31, 3) := by decide +kernel
theorem dX10_slotsOutside_83 : decode cX10_slotsOutside 83 = .ok (.getfield 141, 3) := by decide +kernel
theorem dX10_slotsOutside_86 : decode cX10_slotsOutside 86 = .ok (.iload 4, 2) := by decide +kernel
theorem dX10_slotsOutside_88 : decode cX10_slotsOutside 88 = .ok (.iaload, 1) := by decide +kernel
theorem dX10_slotsOutside_89 : decode cX10_slotsOutside 89 = .ok (.iload 6, 2) := by decide +kernel
theorem dX10_slotsOutside_91 : decode cX10_slotsOutside 91 = .ok (.isub, 1) := by decide +kernel
theorem dX10_slotsOutside_92 : decode cX10_slotsOutside 92 = .ok (.iconst 1, 1) := by decide +kernel
theorem dX10_slotsOutside_93 : decode cX10_slotsOutside 93 = .ok (.iadd, 1) := by decide +kernel
theorem dX10_slotsOutside_94 : decode cX10_slotsOutside 94 = .ok (.invokestatic 129, 3) := by decide +kernel
theorem dX10_slotsOutside_97 : decode cX10_slotsOutside 97 = .ok (.goto 4, 3) := by decide +kernel
theorem dX10_slotsOutside_100 : decode cX10_slotsOutside 100 = .ok (.iconst 0, 1) := by decide +kernel
theorem dX10_slotsOutside_101 : decode cX10_slotsOutside 101 = .ok (.iconst (-1), 1) := by decide +kernel
theorem dX10_slotsOutside_102 : decode cX10_slotsOutside 102 = .ok (.ixor, 1) := by decide +kernel
theorem dX10_slotsOutside_103 : decode cX10_slotsOutside 103 = .ok (.ior, 1) := by decide +kernel
theorem dX10_slotsOutside_104 : decode cX10_slotsOutside 104 = .ok (.istore_n 3, 1) := by decide +kernel
theorem dX10_slotsOutside_105 : decode cX10_slotsOutside 105 = .ok (.iinc 4 1, 3) := by decide +kernel
theorem dX10_slotsOutside_108 : decode cX10_slotsOutside 108 = .ok (.goto (-103), 3) := by decide +kernel
theorem dX10_slotsOutside_111 : decode cX10_slotsOutside 111 = .ok (.iload_n 3, 1) := by decide +kernel
theorem dX10_slotsOutside_112 : decode cX10_slotsOutside 112 = .ok (.ireturn, 1) := by decide +kernel
theorem hd_X10_slotsOutside : yX10_slotsOutside.cls = RX10 ∧ yX10_slotsOutside.cls ≠ "java/lang/invoke/MethodHandle" ∧ yX10_slotsOutside.cls ≠ "java/lang/invoke/VarHandle" ∧ (parseMethodDescriptor yX10_slotsOutside.desc).map (fun d => d.parameters.length) = some 2 := by decide +kernel
theorem hs_X10_slotsOutside : yX10_slotsOutside.cls ≠ "java/lang/invoke/MethodHandle" ∧ yX10_slotsOutside.cls ≠ "java/lang/invoke/VarHandle" ∧ (parseMethodDescriptor yX10_slotsOutside.desc).map (fun d => d.parameters.length) = some 2 := by decide +kernel
set_option maxHeartbeats 4000000 in
set_option maxRecDepth 100000 in
theorem l_X10_slotsOutside_L5 (C : CX p l e s m args meth c cX10_slotsOutside 7 RX10 (Option.some Jvm.ClassFile.FieldType.int) E) {o : Nat} (ho : K o = some (9, 0)) {r : Int32} {w' : Wd} (k : Int32 → Int32 → Int32 → Int32 → Wd → Option (Int32 × Wd)) (hk : ∀ (v1_5 : Int32) (v2_5 : Int32) (v3_5 : Int32) (v4_5 : Int32) (w : Wd) (H : Heap) (locs : List Loc) (ls : Array Slot), HQ E K z w s H locs → lv_has ls 7 [(1, .int v1_5), (2, .int v2_5), (3, .int v3_5), (4, .int v4_5), (0, rv E (some o))] → k v1_5 v2_5 v3_5 v4_5 w = some (r, w') → W p l e ({ frames := 1, cells := 0, slots := 0, locals := 21 } : Room) s m args below meth c H locs 0 0 (MQ below (QI E K z w' r) args s 0 0 (hA E)) (F0 m 111 ls [])) : ∀ (n : Nat) (v1_5 : Int32) (v2_5 : Int32) (v3_5 : Int32) (v4_5 : Int32) (w : Wd) (H : Heap) (locs : List Loc) (ls : Array Slot), HQ E K z w s H locs → lv_has ls 7 [(1, .int v1_5), (2, .int v2_5), (3, .int v3_5), (4, .int v4_5), (0, rv E (some o))] → f_X10_slotsOutside_L5 K o k n v1_5 v2_5 v3_5 v4_5 w = some (r, w') → W p l e ({ frames := 1, cells := 0, slots := 0, locals := 21 } : Room) s m args below meth c H locs 0 0 (MQ below (QI E K z w' r) args s 0 0 (hA E)) (F0 m 5 ls []) := by
  obtain ⟨hx, hb, hml, hown, hts, hKs, hT, hb0, hlocks, hret⟩ := id C
  intro n
  induction n with
  | zero =>
    intro v1_5 v2_5 v3_5 v4_5 w H locs ls hH hl hf
    cases hf
  | succ n ih =>
    intro v1_5 v2_5 v3_5 v4_5 w H locs ls hH hl hf
    rw [f_X10_slotsOutside_L5] at hf
    refine lv_iload hx hb dX10_slotsOutside_5 (lv_at hl 3 rfl) ?_
    refine hl_aload_n hx hb dX10_slotsOutside_7 rfl (lv_at hl 4 rfl) ?_
    refine g10_0 hx hb hts hown hKs hH rfl ho m2_113 dX10_slotsOutside_8 ?_
    refine lv_iconst (v := 2) hx hb dX10_slotsOutside_11 (by decide) ?_
    obtain ⟨a2, ha2, hf⟩ := bnd hf
    replace ha2 := chk_some ha2
    obtain ⟨q3, hq3, hf⟩ := bnd hf
    refine hcV_i hx hb hml hown hts hKs hT hb0 hH (As := [.int 2]) (rest := [.int v4_5]) (k_X9_size l E K H.size a2 2 w ha2.2 hq3) (gV m3_29 m3_22 m3_23 m1_2 m3_24) hd_X9_size ⟨Nat.le_of_ble_eq_true rfl, Nat.le_of_ble_eq_true rfl, rfl, rfl⟩ ha2.1 ha2.2 rfl rfl rfl hl.1 rfl (rcI rc0) rfl dX10_slotsOutside_12 ⟨Nat.zero_le _, Nat.zero_le _⟩ (fun H locs hH => ?_)
    refine lv_icmp_ge (tgt := 111) hx hb dX10_slotsOutside_15 (by decide) (fun c4 => ?_) (fun c4 => ?_)
    · replace hf := (if_pos c4).symm.trans hf
      exact hk v1_5 v2_5 v3_5 v4_5 _ _ _ _ hH (lv_sub hl [0, 1, 2, 3, 4] rfl) hf
    · replace hf := (if_neg c4).symm.trans hf
      refine lv_iload_n hx hb dX10_slotsOutside_18 rfl (lv_at hl 0 rfl) ?_
      refine lv_iload hx hb dX10_slotsOutside_19 (lv_at hl 3 rfl) ?_
      obtain ⟨q5, hq5, hf⟩ := bnd hf
      refine hcM_i hx hb hml hown hts hKs hT hb0 hH (As := [.int v1_5, .int v4_5]) (rest := []) (k_X12_has l E K H.size v1_5 v4_5 q3.2 hq5) m3_187 m3_188 m1_1 m3_189 hs_X12_has ⟨Nat.le_of_ble_eq_true rfl, Nat.le_of_ble_eq_true rfl, rfl, rfl⟩ hl.1 rfl rc0 rfl dX10_slotsOutside_21 ⟨Nat.zero_le _, Nat.zero_le _⟩ (fun H locs hH => ?_)
      refine lv_if_eq (tgt := 105) hx hb dX10_slotsOutside_24 (by decide) (fun c6 => ?_) (fun c6 => ?_)
      · replace hf := (if_pos c6).symm.trans hf
        refine lv_iinc (v := (v4_5 + 1)) (lv' := [(4, .int ((v4_5 + 1))), (1, .int v1_5), (2, .int v2_5), (3, .int v3_5), (0, rv E (some o))]) hx hb dX10_slotsOutside_105 hl (k := 3) rfl rfl (by decide) rfl (fun ls hl => ?_)
        refine lv_goto (tgt := 5) hx hb dX10_slotsOutside_108 (by decide) ?_
        exact ih v1_5 v2_5 v3_5 (v4_5 + 1) _ _ _ _ hH (lv_sub hl [1, 2, 3, 0, 4] rfl) hf
      · replace hf := (if_neg c6).symm.trans hf
        refine lv_iload_n hx hb dX10_slotsOutside_27 rfl (lv_at hl 1 rfl) ?_
        refine hl_aload_n hx hb dX10_slotsOutside_28 rfl (lv_at hl 4 rfl) ?_
        refine g10_0 hx hb hts hown hKs hH rfl ho m2_113 dX10_slotsOutside_29 ?_
        obtain ⟨a7, ha7, hf⟩ := bnd hf
        replace ha7 := chk_some ha7
        refine gn9_5 hx hb hts hown hKs hH ha7.1 ha7.2 m1_161 dX10_slotsOutside_32 ?_
        refine lv_iload hx hb dX10_slotsOutside_35 (lv_at hl 3 rfl) ?_
        obtain ⟨a8, ha8, hf⟩ := bnd hf
        replace ha8 := cha_some ha8
        obtain ⟨j9, hj9, hf⟩ := bnd hf
        refine hw_iald hx hb hKs hH ha8.1 ha8.2 hj9 dX10_slotsOutside_37 ?_
        refine lv_icmp_lt (tgt := 56) hx hb dX10_slotsOutside_38 (by decide) (fun c10 => ?_) (fun c10 => ?_)
        · replace hf := (if_pos c10).symm.trans hf
          refine lv_iconst (v := 0) hx hb dX10_slotsOutside_56 (by decide) ?_
          refine lv_istore (i := 5) (lv' := [(5, .int 0), (1, .int v1_5), (2, .int v2_5), (3, .int v3_5), (4, .int v4_5), (0, rv E (some o))]) hx hb dX10_slotsOutside_57 hl (by decide) rfl (fun ls hl => ?_)
          refine hl_aload_n hx hb dX10_slotsOutside_59 rfl (lv_at hl 5 rfl) ?_
          refine g10_0 hx hb hts hown hKs hH rfl ho m2_113 dX10_slotsOutside_60 ?_
          refine gn9_7 hx hb hts hown hKs hH ha7.1 ha7.2 m1_167 dX10_slotsOutside_63 ?_
          refine lv_iload hx hb dX10_slotsOutside_66 (lv_at hl 4 rfl) ?_
          obtain ⟨a11, ha11, hf⟩ := bnd hf
          replace ha11 := cha_some ha11
          obtain ⟨j12, hj12, hf⟩ := bnd hf
          refine hw_iald hx hb hKs hH ha11.1 ha11.2 hj12 dX10_slotsOutside_68 ?_
          refine lv_istore (i := 6) (lv' := [(6, .int ((aI q5.2 a11.1 j12))), (5, .int 0), (1, .int v1_5), (2, .int v2_5), (3, .int v3_5), (4, .int v4_5), (0, rv E (some o))]) hx hb dX10_slotsOutside_69 hl (by decide) rfl (fun ls hl => ?_)
          refine lv_iload_n hx hb dX10_slotsOutside_71 rfl (lv_at hl 4 rfl) ?_
          refine lv_iload hx hb dX10_slotsOutside_72 (lv_at hl 1 rfl) ?_
          refine lv_if_eq (tgt := 100) hx hb dX10_slotsOutside_74 (by decide) (fun c13 => ?_) (fun c13 => ?_)
          · skip
            refine lv_iconst (v := 0) hx hb dX10_slotsOutside_100 (by decide) ?_
            refine lv_iconst (v := (-1)) hx hb dX10_slotsOutside_101 (by decide) ?_
            refine lv_ixor hx hb dX10_slotsOutside_102 ?_
            refine lv_ior hx hb dX10_slotsOutside_103 ?_
            refine lv_istore_n (i := 3) (lv' := [(3, .int ((v3_5 ||| (0 ^^^ (-1))))), (6, .int ((aI q5.2 a11.1 j12))), (5, .int 0), (1, .int v1_5), (2, .int v2_5), (4, .int v4_5), (0, rv E (some o))]) hx hb dX10_slotsOutside_104 rfl hl (by decide) rfl (fun ls hl => ?_)
            refine lv_iinc (v := (v4_5 + 1)) (lv' := [(4, .int ((v4_5 + 1))), (3, .int ((v3_5 ||| (0 ^^^ (-1))))), (6, .int ((aI q5.2 a11.1 j12))), (5, .int 0), (1, .int v1_5), (2, .int v2_5), (0, rv E (some o))]) hx hb dX10_slotsOutside_105 hl (k := 5) rfl rfl (by decide) rfl (fun ls hl => ?_)
            refine lv_goto (tgt := 5) hx hb dX10_slotsOutside_108 (by decide) ?_
            exact ih v1_5 v2_5 (v3_5 ||| (0 ^^^ (-1))) (v4_5 + 1) _ _ _ _ hH (lv_sub hl [4, 5, 1, 0, 6] rfl) hf
          · exact (by revert c13; decide : False).elim
        · replace hf := (if_neg c10).symm.trans hf
          refine lv_iload_n hx hb dX10_slotsOutside_41 rfl (lv_at hl 1 rfl) ?_
          refine hl_aload_n hx hb dX10_slotsOutside_42 rfl (lv_at hl 4 rfl) ?_
          refine g10_3 hx hb hts hown hKs hH rfl ho m2_121 dX10_slotsOutside_43 ?_
          refine lv_iload hx hb dX10_slotsOutside_46 (lv_at hl 3 rfl) ?_
          obtain ⟨a14, ha14, hf⟩ := bnd hf
          replace ha14 := cha_some ha14
          obtain ⟨j15, hj15, hf⟩ := bnd hf
          refine hw_iald hx hb hKs hH ha14.1 ha14.2 hj15 dX10_slotsOutside_48 ?_
          refine lv_icmp_gt (tgt := 56) hx hb dX10_slotsOutside_49 (by decide) (fun c16 => ?_) (fun c16 => ?_)
          · replace hf := (if_pos c16).symm.trans hf
            refine lv_iconst (v := 0) hx hb dX10_slotsOutside_56 (by decide) ?_
            refine lv_istore (i := 5) (lv' := [(5, .int 0), (1, .int v1_5), (2, .int v2_5), (3, .int v3_5), (4, .int v4_5), (0, rv E (some o))]) hx hb dX10_slotsOutside_57 hl (by decide) rfl (fun ls hl => ?_)
            refine hl_aload_n hx hb dX10_slotsOutside_59 rfl (lv_at hl 5 rfl) ?_
            refine g10_0 hx hb hts hown hKs hH rfl ho m2_113 dX10_slotsOutside_60 ?_
            refine gn9_7 hx hb hts hown hKs hH ha7.1 ha7.2 m1_167 dX10_slotsOutside_63 ?_
            refine lv_iload hx hb dX10_slotsOutside_66 (lv_at hl 4 rfl) ?_
            obtain ⟨a17, ha17, hf⟩ := bnd hf
            replace ha17 := cha_some ha17
            obtain ⟨j18, hj18, hf⟩ := bnd hf
            refine hw_iald hx hb hKs hH ha17.1 ha17.2 hj18 dX10_slotsOutside_68 ?_
            refine lv_istore (i := 6) (lv' := [(6, .int ((aI q5.2 a17.1 j18))), (5, .int 0), (1, .int v1_5), (2, .int v2_5), (3, .int v3_5), (4, .int v4_5), (0, rv E (some o))]) hx hb dX10_slotsOutside_69 hl (by decide) rfl (fun ls hl => ?_)
            refine lv_iload_n hx hb dX10_slotsOutside_71 rfl (lv_at hl 4 rfl) ?_
            refine lv_iload hx hb dX10_slotsOutside_72 (lv_at hl 1 rfl) ?_
            refine lv_if_eq (tgt := 100) hx hb dX10_slotsOutside_74 (by decide) (fun c19 => ?_) (fun c19 => ?_)
            · skip
              refine lv_iconst (v := 0) hx hb dX10_slotsOutside_100 (by decide) ?_
              refine lv_iconst (v := (-1)) hx hb dX10_slotsOutside_101 (by decide) ?_
              refine lv_ixor hx hb dX10_slotsOutside_102 ?_
              refine lv_ior hx hb dX10_slotsOutside_103 ?_
              refine lv_istore_n (i := 3) (lv' := [(3, .int ((v3_5 ||| (0 ^^^ (-1))))), (6, .int ((aI q5.2 a17.1 j18))), (5, .int 0), (1, .int v1_5), (2, .int v2_5), (4, .int v4_5), (0, rv E (some o))]) hx hb dX10_slotsOutside_104 rfl hl (by decide) rfl (fun ls hl => ?_)
              refine lv_iinc (v := (v4_5 + 1)) (lv' := [(4, .int ((v4_5 + 1))), (3, .int ((v3_5 ||| (0 ^^^ (-1))))), (6, .int ((aI q5.2 a17.1 j18))), (5, .int 0), (1, .int v1_5), (2, .int v2_5), (0, rv E (some o))]) hx hb dX10_slotsOutside_105 hl (k := 5) rfl rfl (by decide) rfl (fun ls hl => ?_)
              refine lv_goto (tgt := 5) hx hb dX10_slotsOutside_108 (by decide) ?_
              exact ih v1_5 v2_5 (v3_5 ||| (0 ^^^ (-1))) (v4_5 + 1) _ _ _ _ hH (lv_sub hl [4, 5, 1, 0, 6] rfl) hf
            · exact (by revert c19; decide : False).elim
          · replace hf := (if_neg c16).symm.trans hf
            refine lv_iconst (v := 1) hx hb dX10_slotsOutside_52 (by decide) ?_
            refine lv_goto (tgt := 57) hx hb dX10_slotsOutside_53 (by decide) ?_
            refine lv_istore (i := 5) (lv' := [(5, .int 1), (1, .int v1_5), (2, .int v2_5), (3, .int v3_5), (4, .int v4_5), (0, rv E (some o))]) hx hb dX10_slotsOutside_57 hl (by decide) rfl (fun ls hl => ?_)
            refine hl_aload_n hx hb dX10_slotsOutside_59 rfl (lv_at hl 5 rfl) ?_
            refine g10_0 hx hb hts hown hKs hH rfl ho m2_113 dX10_slotsOutside_60 ?_
            refine gn9_7 hx hb hts hown hKs hH ha7.1 ha7.2 m1_167 dX10_slotsOutside_63 ?_
            refine lv_iload hx hb dX10_slotsOutside_66 (lv_at hl 4 rfl) ?_
            obtain ⟨a20, ha20, hf⟩ := bnd hf
            replace ha20 := cha_some ha20
            obtain ⟨j21, hj21, hf⟩ := bnd hf
            refine hw_iald hx hb hKs hH ha20.1 ha20.2 hj21 dX10_slotsOutside_68 ?_
            refine lv_istore (i := 6) (lv' := [(6, .int ((aI q5.2 a20.1 j21))), (5, .int 1), (1, .int v1_5), (2, .int v2_5), (3, .int v3_5), (4, .int v4_5), (0, rv E (some o))]) hx hb dX10_slotsOutside_69 hl (by decide) rfl (fun ls hl => ?_)
            refine lv_iload_n hx hb dX10_slotsOutside_71 rfl (lv_at hl 4 rfl) ?_
            refine lv_iload hx hb dX10_slotsOutside_72 (lv_at hl 1 rfl) ?_
            refine lv_if_eq (tgt := 100) hx hb dX10_slotsOutside_74 (by decide) (fun c22 => ?_) (fun c22 => ?_)
            · exact (by revert c22; decide : False).elim
            · skip
              refine lv_iload hx hb dX10_slotsOutside_77 (lv_at hl 0 rfl) ?_
              refine hl_aload_n hx hb dX10_slotsOutside_79 rfl (lv_at hl 6 rfl) ?_
              refine g10_0 hx hb hts hown hKs hH rfl ho m2_113 dX10_slotsOutside_80 ?_
              refine gn9_8 hx hb hts hown hKs hH ha7.1 ha7.2 m1_170 dX10_slotsOutside_83 ?_
              refine lv_iload hx hb dX10_slotsOutside_86 (lv_at hl 5 rfl) ?_
              obtain ⟨a23, ha23, hf⟩ := bnd hf
              replace ha23 := cha_some ha23
              obtain ⟨j24, hj24, hf⟩ := bnd hf
              refine hw_iald hx hb hKs hH ha23.1 ha23.2 hj24 dX10_slotsOutside_88 ?_
              refine lv_iload hx hb dX10_slotsOutside_89 (lv_at hl 0 rfl) ?_
              refine lv_isub hx hb dX10_slotsOutside_91 ?_
              refine lv_iconst (v := 1) hx hb dX10_slotsOutside_92 (by decide) ?_
              refine lv_iadd hx hb dX10_slotsOutside_93 ?_
              obtain ⟨q25, hq25, hf⟩ := bnd hf
              refine hcM_i hx hb hml hown hts hKs hT hb0 hH (As := [.int ((aI q5.2 a20.1 j21)), .int ((((aI q5.2 a23.1 j24) - (aI q5.2 a20.1 j21)) + 1))]) (rest := [.int v3_5]) (k_X12_slotSet l E K H.size (aI q5.2 a20.1 j21) (((aI q5.2 a23.1 j24) - (aI q5.2 a20.1 j21)) + 1) q5.2 hq25) m3_228 m3_229 m1_1 m3_230 hs_X12_slotSet ⟨Nat.le_of_ble_eq_true rfl, Nat.le_of_ble_eq_true rfl, rfl, rfl⟩ hl.1 rfl (rcI rc0) rfl dX10_slotsOutside_94 ⟨Nat.zero_le _, Nat.zero_le _⟩ (fun H locs hH => ?_)
              refine lv_goto (tgt := 101) hx hb dX10_slotsOutside_97 (by decide) ?_
              refine lv_iconst (v := (-1)) hx hb dX10_slotsOutside_101 (by decide) ?_
              refine lv_ixor hx hb dX10_slotsOutside_102 ?_
              refine lv_ior hx hb dX10_slotsOutside_103 ?_
              refine lv_istore_n (i := 3) (lv' := [(3, .int ((v3_5 ||| (q25.1 ^^^ (-1))))), (6, .int ((aI q5.2 a20.1 j21))), (5, .int 1), (1, .int v1_5), (2, .int v2_5), (4, .int v4_5), (0, rv E (some o))]) hx hb dX10_slotsOutside_104 rfl hl (by decide) rfl (fun ls hl => ?_)
              refine lv_iinc (v := (v4_5 + 1)) (lv' := [(4, .int ((v4_5 + 1))), (3, .int ((v3_5 ||| (q25.1 ^^^ (-1))))), (6, .int ((aI q5.2 a20.1 j21))), (5, .int 1), (1, .int v1_5), (2, .int v2_5), (0, rv E (some o))]) hx hb dX10_slotsOutside_105 hl (k := 5) rfl rfl (by decide) rfl (fun ls hl => ?_)
              refine lv_goto (tgt := 5) hx hb dX10_slotsOutside_108 (by decide) ?_
              exact ih v1_5 v2_5 (v3_5 ||| (q25.1 ^^^ (-1))) (v4_5 + 1) _ _ _ _ hH (lv_sub hl [4, 5, 1, 0, 6] rfl) hf
set_option maxHeartbeats 4000000 in
set_option maxRecDepth 100000 in
theorem k_X10_slotsOutside (l : Launch) (E : Ev) (K : Kd) (z : Nat) (o : Nat) (a_1 : Int32) (a_2 : Int32) (w : Wd) (ho : K o = some (9, 0)) {r : Int32} {w' : Wd} (hf : f_X10_slotsOutside K o a_1 a_2 w = some (r, w')) : Met l yX10_slotsOutside (Cond.code yX10_slotsOutside cX10_slotsOutside 7 (Option.some Jvm.ClassFile.FieldType.int) :: bt) ({ frames := 1, cells := 0, slots := 0, locals := 21 } : Room) (va_Pc [rv E (some o), .int a_1, .int a_2] (HB E K w z)) (QI E K z w' r) 0 0 (hA E) := by
  refine Met.ofW (cc := cX10_slotsOutside) (maxL := 7) (ret := (Option.some Jvm.ClassFile.FieldType.int)) (by decide) rfl ?_
  intro p e s m args below meth c s₁ B hml hv
  obtain ⟨rfl, hz, hP, hKs, hT, hb0⟩ := hv
  have C : CX p l e s m _ meth c cX10_slotsOutside 7 RX10 (Option.some Jvm.ClassFile.FieldType.int) E := ⟨B.exec, B.bytes, hml, findClass_of_methodNamed B.named, fun w h => atoms_spec (ws := Cond.code yX10_slotsOutside cX10_slotsOutside 7 (Option.some Jvm.ClassFile.FieldType.int) :: bt) B.pre w (List.mem_cons_of_mem _ h), hKs, hT, by rw [hz]; exact hb0, B.notSynchronized, B.returns⟩
  have hH : HQ E K z w s s.heap [] := ⟨hP, va_S.rf, hz⟩
  obtain ⟨hx, hb, hml, hown, hts, hKs, hT, hb0, hlocks, hret⟩ := id C
  have hl := lv_entry [rv E (some o), .int a_1, .int a_2] (n := 7) (by simp [lg_len_nil, lg_len_i, lg_len_j, lg_len_q, lg_len_f, lg_len_d, lg_len_r])
  rw [lg_entry_eq]
  generalize (lg_sl [rv E (some o), .int a_1, .int a_2] ++ List.replicate (7 - (lg_sl [rv E (some o), .int a_1, .int a_2]).length) Slot.unset).toArray = ls at hl ⊢
  replace hl : lv_has ls 7 [(0, rv E (some o)), (1, .int a_1), (2, .int a_2)] := by simpa only [lv_args, cat_q, cat_i, cat_j, reduceIte, Nat.reduceEqDiff, Nat.reduceAdd, Nat.zero_add] using hl
  generalize s.heap = H at hH ⊢
  unfold f_X10_slotsOutside at hf
  refine lv_iconst (v := 0) hx hb dX10_slotsOutside_0 (by decide) ?_
  refine lv_istore_n (i := 3) (lv' := [(3, .int 0), (0, rv E (some o)), (1, .int a_1), (2, .int a_2)]) hx hb dX10_slotsOutside_1 rfl hl (by decide) rfl (fun ls hl => ?_)
  refine lv_iconst (v := 0) hx hb dX10_slotsOutside_2 (by decide) ?_
  refine lv_istore (i := 4) (lv' := [(4, .int 0), (3, .int 0), (0, rv E (some o)), (1, .int a_1), (2, .int a_2)]) hx hb dX10_slotsOutside_3 hl (by decide) rfl (fun ls hl => ?_)
  refine l_X10_slotsOutside_L5  C ho _ (fun v1_5 v2_5 v3_5 v4_5 w1 H locs ls hH hl hf => ?_) fu a_1 a_2 0 0 w _ _ _ hH (lv_sub hl [3, 4, 1, 0, 2] rfl) hf
  refine lv_iload_n hx hb dX10_slotsOutside_111 rfl (lv_at hl 2 rfl) ?_
  exact hw_iret hx hb hret hf hH hlocks dX10_slotsOutside_112

theorem dX10_urgencyKey_0 : decode cX10_urgencyKey 0 = .ok (.aload_n 0, 1) := by decide +kernel
theorem dX10_urgencyKey_1 : decode cX10_urgencyKey 1 = .ok (.getfield 31, 3) := by decide +kernel
theorem dX10_urgencyKey_4 : decode cX10_urgencyKey 4 = .ok (.getfield 57, 3) := by decide +kernel
theorem dX10_urgencyKey_7 : decode cX10_urgencyKey 7 = .ok (.iload_n 1, 1) := by decide +kernel
theorem dX10_urgencyKey_8 : decode cX10_urgencyKey 8 = .ok (.aaload, 1) := by decide +kernel
theorem dX10_urgencyKey_9 : decode cX10_urgencyKey 9 = .ok (.getfield 151, 3) := by decide +kernel
theorem dX10_urgencyKey_12 : decode cX10_urgencyKey 12 = .ok (.ifCond .eq 7, 3) := by decide +kernel
theorem dX10_urgencyKey_15 : decode cX10_urgencyKey 15 = .ok (.iconst 0, 1) := by decide +kernel
theorem dX10_urgencyKey_16 : decode cX10_urgencyKey 16 = .ok (.goto 4, 3) := by decide +kernel
theorem dX10_urgencyKey_19 : decode cX10_urgencyKey 19 = .ok (.iconst 1, 1) := by decide +kernel
theorem dX10_urgencyKey_20 : decode cX10_urgencyKey 20 = .ok (.istore_n 2, 1) := by decide +kernel
theorem dX10_urgencyKey_21 : decode cX10_urgencyKey 21 = .ok (.aload_n 0, 1) := by decide +kernel
theorem dX10_urgencyKey_22 : decode cX10_urgencyKey 22 = .ok (.iload_n 1, 1) := by decide +kernel
theorem dX10_urgencyKey_23 : decode cX10_urgencyKey 23 = .ok (.invokevirtual 84, 3) := by decide +kernel
theorem dX10_urgencyKey_26 : decode cX10_urgencyKey 26 = .ok (.iconst 2, 1) := by decide +kernel
theorem dX10_urgencyKey_27 : decode cX10_urgencyKey 27 = .ok (.imul, 1) := by decide +kernel
theorem dX10_urgencyKey_28 : decode cX10_urgencyKey 28 = .ok (.iload_n 2, 1) := by decide +kernel
theorem dX10_urgencyKey_29 : decode cX10_urgencyKey 29 = .ok (.iadd, 1) := by decide +kernel
theorem dX10_urgencyKey_30 : decode cX10_urgencyKey 30 = .ok (.bipush 12, 2) := by decide +kernel
theorem dX10_urgencyKey_32 : decode cX10_urgencyKey 32 = .ok (.imul, 1) := by decide +kernel
theorem dX10_urgencyKey_33 : decode cX10_urgencyKey 33 = .ok (.iload_n 1, 1) := by decide +kernel
theorem dX10_urgencyKey_34 : decode cX10_urgencyKey 34 = .ok (.iadd, 1) := by decide +kernel
theorem dX10_urgencyKey_35 : decode cX10_urgencyKey 35 = .ok (.ireturn, 1) := by decide +kernel
theorem hd_X10_urgencyKey : yX10_urgencyKey.cls = RX10 ∧ yX10_urgencyKey.cls ≠ "java/lang/invoke/MethodHandle" ∧ yX10_urgencyKey.cls ≠ "java/lang/invoke/VarHandle" ∧ (parseMethodDescriptor yX10_urgencyKey.desc).map (fun d => d.parameters.length) = some 1 := by decide +kernel
theorem hs_X10_urgencyKey : yX10_urgencyKey.cls ≠ "java/lang/invoke/MethodHandle" ∧ yX10_urgencyKey.cls ≠ "java/lang/invoke/VarHandle" ∧ (parseMethodDescriptor yX10_urgencyKey.desc).map (fun d => d.parameters.length) = some 1 := by decide +kernel
set_option maxHeartbeats 4000000 in
set_option maxRecDepth 100000 in
theorem k_X10_urgencyKey (l : Launch) (E : Ev) (K : Kd) (z : Nat) (o : Nat) (a_1 : Int32) (w : Wd) (ho : K o = some (9, 0)) {r : Int32} {w' : Wd} (hf : f_X10_urgencyKey K o a_1 w = some (r, w')) : Met l yX10_urgencyKey (Cond.code yX10_urgencyKey cX10_urgencyKey 3 (Option.some Jvm.ClassFile.FieldType.int) :: bt) ({ frames := 3, cells := 0, slots := 0, locals := 66 } : Room) (va_Pc [rv E (some o), .int a_1] (HB E K w z)) (QI E K z w' r) 0 0 (hA E) := by
  refine Met.ofW (cc := cX10_urgencyKey) (maxL := 3) (ret := (Option.some Jvm.ClassFile.FieldType.int)) (by decide) rfl ?_
  intro p e s m args below meth c s₁ B hml hv
  obtain ⟨rfl, hz, hP, hKs, hT, hb0⟩ := hv
  have C : CX p l e s m _ meth c cX10_urgencyKey 3 RX10 (Option.some Jvm.ClassFile.FieldType.int) E := ⟨B.exec, B.bytes, hml, findClass_of_methodNamed B.named, fun w h => atoms_spec (ws := Cond.code yX10_urgencyKey cX10_urgencyKey 3 (Option.some Jvm.ClassFile.FieldType.int) :: bt) B.pre w (List.mem_cons_of_mem _ h), hKs, hT, by rw [hz]; exact hb0, B.notSynchronized, B.returns⟩
  have hH : HQ E K z w s s.heap [] := ⟨hP, va_S.rf, hz⟩
  obtain ⟨hx, hb, hml, hown, hts, hKs, hT, hb0, hlocks, hret⟩ := id C
  have hl := lv_entry [rv E (some o), .int a_1] (n := 3) (by simp [lg_len_nil, lg_len_i, lg_len_j, lg_len_q, lg_len_f, lg_len_d, lg_len_r])
  rw [lg_entry_eq]
  generalize (lg_sl [rv E (some o), .int a_1] ++ List.replicate (3 - (lg_sl [rv E (some o), .int a_1]).length) Slot.unset).toArray = ls at hl ⊢
  replace hl : lv_has ls 3 [(0, rv E (some o)), (1, .int a_1)] := by simpa only [lv_args, cat_q, cat_i, cat_j, reduceIte, Nat.reduceEqDiff, Nat.reduceAdd, Nat.zero_add] using hl
  generalize s.heap = H at hH ⊢
  unfold f_X10_urgencyKey at hf
  refine hl_aload_n hx hb dX10_urgencyKey_0 rfl (lv_at hl 0 rfl) ?_
  refine g10_0 hx hb hts hown hKs hH rfl ho m2_113 dX10_urgencyKey_1 ?_
  obtain ⟨a1, ha1, hf⟩ := bnd hf
  replace ha1 := chk_some ha1
  refine gn9_9 hx hb hts hown hKs hH ha1.1 ha1.2 m1_173 dX10_urgencyKey_4 ?_
  refine lv_iload_n hx hb dX10_urgencyKey_7 rfl (lv_at hl 1 rfl) ?_
  obtain ⟨a2, ha2, hf⟩ := bnd hf
  replace ha2 := cha_some ha2
  obtain ⟨j3, hj3, hf⟩ := bnd hf
  refine hw_aald25 hx hb hKs hH ha2.1 ha2.2 hj3 dX10_urgencyKey_8 ?_
  obtain ⟨a4, ha4, hf⟩ := bnd hf
  replace ha4 := chk_some ha4
  refine gn3_3 hx hb hts hown hKs hH ha4.1 ha4.2 m1_106 dX10_urgencyKey_9 ?_
  refine lv_if_eq (tgt := 19) hx hb dX10_urgencyKey_12 (by decide) (fun c5 => ?_) (fun c5 => ?_)
  · replace hf := (if_pos c5).symm.trans hf
    refine lv_iconst (v := 1) hx hb dX10_urgencyKey_19 (by decide) ?_
    refine lv_istore_n (i := 2) (lv' := [(2, .int 1), (0, rv E (some o)), (1, .int a_1)]) hx hb dX10_urgencyKey_20 rfl hl (by decide) rfl (fun ls hl => ?_)
    refine hl_aload_n hx hb dX10_urgencyKey_21 rfl (lv_at hl 1 rfl) ?_
    refine lv_iload_n hx hb dX10_urgencyKey_22 rfl (lv_at hl 2 rfl) ?_
    obtain ⟨q6, hq6, hf⟩ := bnd hf
    refine hcV_i hx hb hml hown hts hKs hT hb0 hH (As := [.int a_1]) (rest := []) (k_X10_limitDay l E K H.size o a_1 w ho hq6) (gV m3_144 m3_145 m3_146 m1_12 m3_147) hd_X10_limitDay ⟨Nat.le_of_ble_eq_true rfl, Nat.le_of_ble_eq_true rfl, rfl, rfl⟩ rfl ho rfl rfl rfl hl.1 rfl rc0 rfl dX10_urgencyKey_23 ⟨Nat.zero_le _, Nat.zero_le _⟩ (fun H locs hH => ?_)
    refine lv_iconst (v := 2) hx hb dX10_urgencyKey_26 (by decide) ?_
    refine lv_imul hx hb dX10_urgencyKey_27 ?_
    refine lv_iload_n hx hb dX10_urgencyKey_28 rfl (lv_at hl 0 rfl) ?_
    refine lv_iadd hx hb dX10_urgencyKey_29 ?_
    refine lv_bipush (v := 12) hx hb dX10_urgencyKey_30 (by decide) ?_
    refine lv_imul hx hb dX10_urgencyKey_32 ?_
    refine lv_iload_n hx hb dX10_urgencyKey_33 rfl (lv_at hl 2 rfl) ?_
    refine lv_iadd hx hb dX10_urgencyKey_34 ?_
    exact hw_iret hx hb hret hf hH hlocks dX10_urgencyKey_35
  · replace hf := (if_neg c5).symm.trans hf
    refine lv_iconst (v := 0) hx hb dX10_urgencyKey_15 (by decide) ?_
    refine lv_goto (tgt := 20) hx hb dX10_urgencyKey_16 (by decide) ?_
    refine lv_istore_n (i := 2) (lv' := [(2, .int 0), (0, rv E (some o)), (1, .int a_1)]) hx hb dX10_urgencyKey_20 rfl hl (by decide) rfl (fun ls hl => ?_)
    refine hl_aload_n hx hb dX10_urgencyKey_21 rfl (lv_at hl 1 rfl) ?_
    refine lv_iload_n hx hb dX10_urgencyKey_22 rfl (lv_at hl 2 rfl) ?_
    obtain ⟨q7, hq7, hf⟩ := bnd hf
    refine hcV_i hx hb hml hown hts hKs hT hb0 hH (As := [.int a_1]) (rest := []) (k_X10_limitDay l E K H.size o a_1 w ho hq7) (gV m3_144 m3_145 m3_146 m1_12 m3_147) hd_X10_limitDay ⟨Nat.le_of_ble_eq_true rfl, Nat.le_of_ble_eq_true rfl, rfl, rfl⟩ rfl ho rfl rfl rfl hl.1 rfl rc0 rfl dX10_urgencyKey_23 ⟨Nat.zero_le _, Nat.zero_le _⟩ (fun H locs hH => ?_)
    refine lv_iconst (v := 2) hx hb dX10_urgencyKey_26 (by decide) ?_
    refine lv_imul hx hb dX10_urgencyKey_27 ?_
    refine lv_iload_n hx hb dX10_urgencyKey_28 rfl (lv_at hl 0 rfl) ?_
    refine lv_iadd hx hb dX10_urgencyKey_29 ?_
    refine lv_bipush (v := 12) hx hb dX10_urgencyKey_30 (by decide) ?_
    refine lv_imul hx hb dX10_urgencyKey_32 ?_
    refine lv_iload_n hx hb dX10_urgencyKey_33 rfl (lv_at hl 2 rfl) ?_
    refine lv_iadd hx hb dX10_urgencyKey_34 ?_
    exact hw_iret hx hb hret hf hH hlocks dX10_urgencyKey_35

theorem dX10_insert_0 : decode cX10_insert 0 = .ok (.iload_n 1, 1) := by decide +kernel
theorem dX10_insert_1 : decode cX10_insert 1 = .ok (.istore_n 3, 1) := by decide +kernel
theorem dX10_insert_2 : decode cX10_insert 2 = .ok (.iload_n 3, 1) := by decide +kernel
theorem dX10_insert_3 : decode cX10_insert 3 = .ok (.ifCond .le 26, 3) := by decide +kernel
theorem dX10_insert_6 : decode cX10_insert 6 = .ok (.aload_n 0, 1) := by decide +kernel
theorem dX10_insert_7 : decode cX10_insert 7 = .ok (.iload_n 3, 1) := by decide +kernel
theorem dX10_insert_8 : decode cX10_insert 8 = .ok (.iconst 1, 1) := by decide +kernel
theorem dX10_insert_9 : decode cX10_insert 9 = .ok (.isub, 1) := by decide +kernel
theorem dX10_insert_10 : decode cX10_insert 10 = .ok (.iaload, 1) := by decide +kernel
theorem dX10_insert_11 : decode cX10_insert 11 = .ok (.iload_n 2, 1) := by decide +kernel
theorem dX10_insert_12 : decode cX10_insert 12 = .ok (.if_icmp .le 17, 3) := by decide +kernel
theorem dX10_insert_15 : decode cX10_insert 15 = .ok (.aload_n 0, 1) := by decide +kernel
theorem dX10_insert_16 : decode cX10_insert 16 = .ok (.iload_n 3, 1) := by decide +kernel
theorem dX10_insert_17 : decode cX10_insert 17 = .ok (.aload_n 0, 1) := by decide +kernel
theorem dX10_insert_18 : decode cX10_insert 18 = .ok (.iload_n 3, 1) := by decide +kernel
theorem dX10_insert_19 : decode cX10_insert 19 = .ok (.iconst 1, 1) := by decide +kernel
theorem dX10_insert_20 : decode cX10_insert 20 = .ok (.isub, 1) := by decide +kernel
theorem dX10_insert_21 : decode cX10_insert 21 = .ok (.iaload, 1) := by decide +kernel
theorem dX10_insert_22 : decode cX10_insert 22 = .ok (.iastore, 1) := by decide +kernel
theorem dX10_insert_23 : decode cX10_insert 23 = .ok (.iinc 3 (-1), 3) := by decide +kernel
theorem dX10_insert_26 : decode cX10_insert 26 = .ok (.goto (-24), 3) := by decide +kernel
theorem dX10_insert_29 : decode cX10_insert 29 = .ok (.aload_n 0, 1) := by decide +kernel
theorem dX10_insert_30 : decode cX10_insert 30 = .ok (.iload_n 3, 1) := by decide +kernel
theorem dX10_insert_31 : decode cX10_insert 31 = .ok (.iload_n 2, 1) := by decide +kernel
theorem dX10_insert_32 : decode cX10_insert 32 = .ok (.iastore, 1) := by decide +kernel
theorem dX10_insert_33 : decode cX10_insert 33 = .ok (.return_, 1) := by decide +kernel
theorem hs_X10_insert : yX10_insert.cls ≠ "java/lang/invoke/MethodHandle" ∧ yX10_insert.cls ≠ "java/lang/invoke/VarHandle" ∧ (parseMethodDescriptor yX10_insert.desc).map (fun d => d.parameters.length) = some 3 := by decide +kernel
set_option maxHeartbeats 4000000 in
set_option maxRecDepth 100000 in
theorem l_X10_insert_L2 (C : CX p l e s m args meth c cX10_insert 4 RX10 (Option.none : Option Jvm.ClassFile.FieldType) E) {w' : Wd} (k : Option Nat → Int32 → Int32 → Int32 → Wd → Option Wd) (hk : ∀ (v0_2 : Option Nat) (v1_2 : Int32) (v2_2 : Int32) (v3_2 : Int32) (w : Wd) (H : Heap) (locs : List Loc) (ls : Array Slot), HQ E K z w s H locs → lv_has ls 4 [(0, rv E v0_2), (1, .int v1_2), (2, .int v2_2), (3, .int v3_2)] → k v0_2 v1_2 v2_2 v3_2 w = some w' → W p l e ({ frames := 0, cells := 0, slots := 0, locals := 0 } : Room) s m args below meth c H locs 0 0 (MQ below (QV E K z w') args s 0 0 (hA E)) (F0 m 29 ls [])) : ∀ (n : Nat) (v0_2 : Option Nat) (v1_2 : Int32) (v2_2 : Int32) (v3_2 : Int32) (w : Wd) (H : Heap) (locs : List Loc) (ls : Array Slot), HQ E K z w s H locs → lv_has ls 4 [(0, rv E v0_2), (1, .int v1_2), (2, .int v2_2), (3, .int v3_2)] → f_X10_insert_L2 K k n v0_2 v1_2 v2_2 v3_2 w = some w' → W p l e ({ frames := 0, cells := 0, slots := 0, locals := 0 } : Room) s m args below meth c H locs 0 0 (MQ below (QV E K z w') args s 0 0 (hA E)) (F0 m 2 ls []) := by
  obtain ⟨hx, hb, hml, hown, hts, hKs, hT, hb0, hlocks, hret⟩ := id C
  intro n
  induction n with
  | zero =>
    intro v0_2 v1_2 v2_2 v3_2 w H locs ls hH hl hf
    cases hf
  | succ n ih =>
    intro v0_2 v1_2 v2_2 v3_2 w H locs ls hH hl hf
    rw [f_X10_insert_L2] at hf
    refine lv_iload_n hx hb dX10_insert_2 rfl (lv_at hl 3 rfl) ?_
    refine lv_if_le (tgt := 29) hx hb dX10_insert_3 (by decide) (fun c2 => ?_) (fun c2 => ?_)
    · replace hf := (if_pos c2).symm.trans hf
      exact hk v0_2 v1_2 v2_2 v3_2 _ _ _ _ hH (lv_sub hl [0, 1, 2, 3] rfl) hf
    · replace hf := (if_neg c2).symm.trans hf
      refine hl_aload_n hx hb dX10_insert_6 rfl (lv_at hl 0 rfl) ?_
      refine lv_iload_n hx hb dX10_insert_7 rfl (lv_at hl 3 rfl) ?_
      refine lv_iconst (v := 1) hx hb dX10_insert_8 (by decide) ?_
      refine lv_isub hx hb dX10_insert_9 ?_
      obtain ⟨a3, ha3, hf⟩ := bnd hf
      replace ha3 := cha_some ha3
      obtain ⟨j4, hj4, hf⟩ := bnd hf
      refine hw_iald hx hb hKs hH ha3.1 ha3.2 hj4 dX10_insert_10 ?_
      refine lv_iload_n hx hb dX10_insert_11 rfl (lv_at hl 2 rfl) ?_
      refine lv_icmp_le (tgt := 29) hx hb dX10_insert_12 (by decide) (fun c5 => ?_) (fun c5 => ?_)
      · replace hf := (if_pos c5).symm.trans hf
        exact hk v0_2 v1_2 v2_2 v3_2 _ _ _ _ hH (lv_sub hl [0, 1, 2, 3] rfl) hf
      · replace hf := (if_neg c5).symm.trans hf
        refine hl_aload_n hx hb dX10_insert_15 rfl (lv_at hl 0 rfl) ?_
        refine lv_iload_n hx hb dX10_insert_16 rfl (lv_at hl 3 rfl) ?_
        refine hl_aload_n hx hb dX10_insert_17 rfl (lv_at hl 0 rfl) ?_
        refine lv_iload_n hx hb dX10_insert_18 rfl (lv_at hl 3 rfl) ?_
        refine lv_iconst (v := 1) hx hb dX10_insert_19 (by decide) ?_
        refine lv_isub hx hb dX10_insert_20 ?_
        obtain ⟨j6, hj6, hf⟩ := bnd hf
        refine hw_iald hx hb hKs hH ha3.1 ha3.2 hj6 dX10_insert_21 ?_
        obtain ⟨j7, hj7, hf⟩ := bnd hf
        obtain ⟨w8, hw8, hf⟩ := bnd hf
        replace hw8 := Option.some.inj hw8
        refine hw_iast (x := (aI w a3.1 j6)) hx hb hKs hH ha3.1 ha3.2 hj7 dX10_insert_22 (fun H locs hH => ?_)
        rw [hw8] at hH
        refine lv_iinc (v := (v3_2 + (-1))) (lv' := [(3, .int ((v3_2 + (-1)))), (0, rv E v0_2), (1, .int v1_2), (2, .int v2_2)]) hx hb dX10_insert_23 hl (k := 3) rfl rfl (by decide) rfl (fun ls hl => ?_)
        refine lv_goto (tgt := 2) hx hb dX10_insert_26 (by decide) ?_
        exact ih v0_2 v1_2 v2_2 (v3_2 + (-1)) _ _ _ _ hH (lv_sub hl [1, 2, 3, 0] rfl) hf
set_option maxHeartbeats 4000000 in
set_option maxRecDepth 100000 in
theorem k_X10_insert (l : Launch) (E : Ev) (K : Kd) (z : Nat) (a_0 : Option Nat) (a_1 : Int32) (a_2 : Int32) (w : Wd) {w' : Wd} (hf : f_X10_insert K a_0 a_1 a_2 w = some w') : Met l yX10_insert (Cond.code yX10_insert cX10_insert 4 (Option.none : Option Jvm.ClassFile.FieldType) :: bt) ({ frames := 0, cells := 0, slots := 0, locals := 0 } : Room) (va_Pc [rv E a_0, .int a_1, .int a_2] (HB E K w z)) (QV E K z w') 0 0 (hA E) := by
  refine Met.ofW (cc := cX10_insert) (maxL := 4) (ret := (Option.none : Option Jvm.ClassFile.FieldType)) (by decide) rfl ?_
  intro p e s m args below meth c s₁ B hml hv
  obtain ⟨rfl, hz, hP, hKs, hT, hb0⟩ := hv
  have C : CX p l e s m _ meth c cX10_insert 4 RX10 (Option.none : Option Jvm.ClassFile.FieldType) E := ⟨B.exec, B.bytes, hml, findClass_of_methodNamed B.named, fun w h => atoms_spec (ws := Cond.code yX10_insert cX10_insert 4 (Option.none : Option Jvm.ClassFile.FieldType) :: bt) B.pre w (List.mem_cons_of_mem _ h), hKs, hT, by rw [hz]; exact hb0, B.notSynchronized, B.returns⟩
  have hH : HQ E K z w s s.heap [] := ⟨hP, va_S.rf, hz⟩
  obtain ⟨hx, hb, hml, hown, hts, hKs, hT, hb0, hlocks, hret⟩ := id C
  have hl := lv_entry [rv E a_0, .int a_1, .int a_2] (n := 4) (by simp [lg_len_nil, lg_len_i, lg_len_j, lg_len_q, lg_len_f, lg_len_d, lg_len_r])
  rw [lg_entry_eq]
  generalize (lg_sl [rv E a_0, .int a_1, .int a_2] ++ List.replicate (4 - (lg_sl [rv E a_0, .int a_1, .int a_2]).length) Slot.unset).toArray = ls at hl ⊢
  replace hl : lv_has ls 4 [(0, rv E a_0), (1, .int a_1), (2, .int a_2)] := by simpa only [lv_args, cat_q, cat_i, cat_j, reduceIte, Nat.reduceEqDiff, Nat.reduceAdd, Nat.zero_add] using hl
  generalize s.heap = H at hH ⊢
  unfold f_X10_insert at hf
  refine lv_iload_n hx hb dX10_insert_0 rfl (lv_at hl 1 rfl) ?_
  refine lv_istore_n (i := 3) (lv' := [(3, .int a_1), (0, rv E a_0), (1, .int a_1), (2, .int a_2)]) hx hb dX10_insert_1 rfl hl (by decide) rfl (fun ls hl => ?_)
  refine l_X10_insert_L2  C _ (fun v0_2 v1_2 v2_2 v3_2 w1 H locs ls hH hl hf => ?_) fu a_0 a_1 a_2 a_1 w _ _ _ hH (lv_sub hl [1, 2, 3, 0] rfl) hf
  refine hl_aload_n hx hb dX10_insert_29 rfl (lv_at hl 0 rfl) ?_
  refine lv_iload_n hx hb dX10_insert_30 rfl (lv_at hl 3 rfl) ?_
  refine lv_iload_n hx hb dX10_insert_31 rfl (lv_at hl 2 rfl) ?_
  obtain ⟨a9, ha9, hf⟩ := bnd hf
  replace ha9 := cha_some ha9
  obtain ⟨j10, hj10, hf⟩ := bnd hf
  obtain ⟨w11, hw11, hf⟩ := bnd hf
  replace hw11 := Option.some.inj hw11
  refine hw_iast (x := v2_2) hx hb hKs hH ha9.1 ha9.2 hj10 dX10_insert_32 (fun H locs hH => ?_)
  rw [hw11] at hH
  exact hw_vret hx hb hret hf hH hlocks dX10_insert_33

theorem dX10_takeAway_0 : decode cX10_takeAway 0 = .ok (.aload_n 0, 1) := by decide +kernel
theorem dX10_takeAway_1 : decode cX10_takeAway 1 = .ok (.getfield 27, 3) := by decide +kernel
theorem dX10_takeAway_4 : decode cX10_takeAway 4 = .ok (.iload_n 1, 1) := by decide +kernel
theorem dX10_takeAway_5 : decode cX10_takeAway 5 = .ok (.aaload, 1) := by decide +kernel
theorem dX10_takeAway_6 : decode cX10_takeAway 6 = .ok (.astore_n 3, 1) := by decide +kernel
theorem dX10_takeAway_7 : decode cX10_takeAway 7 = .ok (.aload_n 3, 1) := by decide +kernel
theorem dX10_takeAway_8 : decode cX10_takeAway 8 = .ok (.getfield 155, 3) := by decide +kernel
theorem dX10_takeAway_11 : decode cX10_takeAway 11 = .ok (.iconst 5, 1) := by decide +kernel
theorem dX10_takeAway_12 : decode cX10_takeAway 12 = .ok (.if_icmp .ge 70, 3) := by decide +kernel
theorem dX10_takeAway_15 : decode cX10_takeAway 15 = .ok (.aload_n 3, 1) := by decide +kernel
theorem dX10_takeAway_16 : decode cX10_takeAway 16 = .ok (.getfield 78, 3) := by decide +kernel
theorem dX10_takeAway_19 : decode cX10_takeAway 19 = .ok (.aload_n 0, 1) := by decide +kernel
theorem dX10_takeAway_20 : decode cX10_takeAway 20 = .ok (.getfield 31, 3) := by decide +kernel
theorem dX10_takeAway_23 : decode cX10_takeAway 23 = .ok (.getfield 158, 3) := by decide +kernel
theorem dX10_takeAway_26 : decode cX10_takeAway 26 = .ok (.iload_n 2, 1) := by decide +kernel
theorem dX10_takeAway_27 : decode cX10_takeAway 27 = .ok (.iaload, 1) := by decide +kernel
theorem dX10_takeAway_28 : decode cX10_takeAway 28 = .ok (.iadd, 1) := by decide +kernel
theorem dX10_takeAway_29 : decode cX10_takeAway 29 = .ok (.istore 4, 2) := by decide +kernel
theorem dX10_takeAway_31 : decode cX10_takeAway 31 = .ok (.aload_n 0, 1) := by decide +kernel
theorem dX10_takeAway_32 : decode cX10_takeAway 32 = .ok (.getfield 31, 3) := by decide +kernel
theorem dX10_takeAway_35 : decode cX10_takeAway 35 = .ok (.getfield 57, 3) := by decide +kernel
theorem dX10_takeAway_38 : decode cX10_takeAway 38 = .ok (.iload_n 1, 1) := by decide +kernel
theorem dX10_takeAway_39 : decode cX10_takeAway 39 = .ok (.aaload, 1) := by decide +kernel
theorem dX10_takeAway_40 : decode cX10_takeAway 40 = .ok (.getfield 151, 3) := by decide +kernel
theorem dX10_takeAway_43 : decode cX10_takeAway 43 = .ok (.ifCond .eq 17, 3) := by decide +kernel
theorem dX10_takeAway_46 : decode cX10_takeAway 46 = .ok (.iload 4, 2) := by decide +kernel
theorem dX10_takeAway_48 : decode cX10_takeAway 48 = .ok (.aload_n 0, 1) := by decide +kernel
theorem dX10_takeAway_49 : decode cX10_takeAway 49 = .ok (.getfield 31, 3) := by decide +kernel
theorem dX10_takeAway_52 : decode cX10_takeAway 52 = .ok (.getfield 161, 3) := by decide +kernel
theorem dX10_takeAway_55 : decode cX10_takeAway 55 = .ok (.invokestatic 164, 3) := by decide +kernel
theorem dX10_takeAway_58 : decode cX10_takeAway 58 = .ok (.istore 4, 2) := by decide +kernel
theorem dX10_takeAway_60 : decode cX10_takeAway 60 = .ok (.aload_n 3, 1) := by decide +kernel
theorem dX10_takeAway_61 : decode cX10_takeAway 61 = .ok (.aload_n 0, 1) := by decide +kernel
theorem dX10_takeAway_62 : decode cX10_takeAway 62 = .ok (.getfield 39, 3) := by decide +kernel
theorem dX10_takeAway_65 : decode cX10_takeAway 65 = .ok (.iload_n 2, 1) := by decide +kernel
theorem dX10_takeAway_66 : decode cX10_takeAway 66 = .ok (.iload 4, 2) := by decide +kernel
theorem dX10_takeAway_68 : decode cX10_takeAway 68 = .ok (.aload_n 3, 1) := by decide +kernel
theorem dX10_takeAway_69 : decode cX10_takeAway 69 = .ok (.getfield 78, 3) := by decide +kernel
theorem dX10_takeAway_72 : decode cX10_takeAway 72 = .ok (.isub, 1) := by decide +kernel
theorem dX10_takeAway_73 : decode cX10_takeAway 73 = .ok (.invokevirtual 169, 3) := by decide +kernel
theorem dX10_takeAway_76 : decode cX10_takeAway 76 = .ok (.aload_n 3, 1) := by decide +kernel
theorem dX10_takeAway_77 : decode cX10_takeAway 77 = .ok (.iload 4, 2) := by decide +kernel
theorem dX10_takeAway_79 : decode cX10_takeAway 79 = .ok (.putfield 78, 3) := by decide +kernel
theorem dX10_takeAway_82 : decode cX10_takeAway 82 = .ok (.aload_n 3, 1) := by decide +kernel
theorem dX10_takeAway_83 : decode cX10_takeAway 83 = .ok (.invokevirtual 173, 3) := by decide +kernel
theorem dX10_takeAway_86 : decode cX10_takeAway 86 = .ok (.return_, 1) := by decide +kernel
theorem hd_X10_takeAway : yX10_takeAway.cls = RX10 ∧ yX10_takeAway.cls ≠ "java/lang/invoke/MethodHandle" ∧ yX10_takeAway.cls ≠ "java/lang/invoke/VarHandle" ∧ (parseMethodDescriptor yX10_takeAway.desc).map (fun d => d.parameters.length) = some 2 := by decide +kernel
theorem hs_X10_takeAway : yX10_takeAway.cls ≠ "java/lang/invoke/MethodHandle" ∧ yX10_takeAway.cls ≠ "java/lang/invoke/VarHandle" ∧ (parseMethodDescriptor yX10_takeAway.desc).map (fun d => d.parameters.length) = some 2 := by decide +kernel
set_option maxHeartbeats 4000000 in
set_option maxRecDepth 100000 in
theorem k_X10_takeAway (l : Launch) (E : Ev) (K : Kd) (z : Nat) (o : Nat) (a_1 : Int32) (a_2 : Int32) (w : Wd) (ho : K o = some (9, 0)) {w' : Wd} (hf : f_X10_takeAway K o a_1 a_2 w = some w') : Met l yX10_takeAway (Cond.code yX10_takeAway cX10_takeAway 5 (Option.none : Option Jvm.ClassFile.FieldType) :: bt) ({ frames := 1, cells := 0, slots := 0, locals := 24 } : Room) (va_Pc [rv E (some o), .int a_1, .int a_2] (HB E K w z)) (QV E K z w') 0 0 (hA E) := by
  refine Met.ofW (cc := cX10_takeAway) (maxL := 5) (ret := (Option.none : Option Jvm.ClassFile.FieldType)) (by decide) rfl ?_
  intro p e s m args below meth c s₁ B hml hv
  obtain ⟨rfl, hz, hP, hKs, hT, hb0⟩ := hv
  have C : CX p l e s m _ meth c cX10_takeAway 5 RX10 (Option.none : Option Jvm.ClassFile.FieldType) E := ⟨B.exec, B.bytes, hml, findClass_of_methodNamed B.named, fun w h => atoms_spec (ws := Cond.code yX10_takeAway cX10_takeAway 5 (Option.none : Option Jvm.ClassFile.FieldType) :: bt) B.pre w (List.mem_cons_of_mem _ h), hKs, hT, by rw [hz]; exact hb0, B.notSynchronized, B.returns⟩
  have hH : HQ E K z w s s.heap [] := ⟨hP, va_S.rf, hz⟩
  obtain ⟨hx, hb, hml, hown, hts, hKs, hT, hb0, hlocks, hret⟩ := id C
  have hl := lv_entry [rv E (some o), .int a_1, .int a_2] (n := 5) (by simp [lg_len_nil, lg_len_i, lg_len_j, lg_len_q, lg_len_f, lg_len_d, lg_len_r])
  rw [lg_entry_eq]
  generalize (lg_sl [rv E (some o), .int a_1, .int a_2] ++ List.replicate (5 - (lg_sl [rv E (some o), .int a_1, .int a_2]).length) Slot.unset).toArray = ls at hl ⊢
  replace hl : lv_has ls 5 [(0, rv E (some o)), (1, .int a_1), (2, .int a_2)] := by simpa only [lv_args, cat_q, cat_i, cat_j, reduceIte, Nat.reduceEqDiff, Nat.reduceAdd, Nat.zero_add] using hl
  generalize s.heap = H at hH ⊢
  unfold f_X10_takeAway at hf
  refine hl_aload_n hx hb dX10_takeAway_0 rfl (lv_at hl 0 rfl) ?_
  refine g10_5 hx hb hts hown hKs hH rfl ho m2_125 dX10_takeAway_1 ?_
  refine lv_iload_n hx hb dX10_takeAway_4 rfl (lv_at hl 1 rfl) ?_
  obtain ⟨a1, ha1, hf⟩ := bnd hf
  replace ha1 := cha_some ha1
  obtain ⟨j2, hj2, hf⟩ := bnd hf
  refine hw_aald27 hx hb hKs hH ha1.1 ha1.2 hj2 dX10_takeAway_5 ?_
  refine hl_astore_n (i := 3) (lv' := [(3, rv E (aR w a1.1 j2)), (0, rv E (some o)), (1, .int a_1), (2, .int a_2)]) hx hb dX10_takeAway_6 rfl hl (by decide) rfl (fun ls hl => ?_)
  refine hl_aload_n hx hb dX10_takeAway_7 rfl (lv_at hl 0 rfl) ?_
  obtain ⟨a3, ha3, hf⟩ := bnd hf
  replace ha3 := chk_some ha3
  refine gn7_6 hx hb hts hown hKs hH ha3.1 ha3.2 m2_85 dX10_takeAway_8 ?_
  refine lv_iconst (v := 5) hx hb dX10_takeAway_11 (by decide) ?_
  refine lv_icmp_ge (tgt := 82) hx hb dX10_takeAway_12 (by decide) (fun c4 => ?_) (fun c4 => ?_)
  · replace hf := (if_pos c4).symm.trans hf
    refine hl_aload_n hx hb dX10_takeAway_82 rfl (lv_at hl 0 rfl) ?_
    obtain ⟨q5, hq5, hf⟩ := bnd hf
    refine hcV_v hx hb hml hown hts hKs hT hb0 hH (As := []) (rest := []) (k_X7_dropHearing l E K H.size a3 w ha3.2 hq5) (gV m6_147 m2_110 m2_111 m1_13 m2_112) hd_X7_dropHearing ⟨Nat.le_of_ble_eq_true rfl, Nat.le_of_ble_eq_true rfl, rfl, rfl⟩ ha3.1 ha3.2 rfl rfl rfl hl.1 rfl rc0 rfl dX10_takeAway_83 ⟨Nat.zero_le _, Nat.zero_le _⟩ (fun H locs hH => ?_)
    exact hw_vret hx hb hret hf hH hlocks dX10_takeAway_86
  · replace hf := (if_neg c4).symm.trans hf
    refine hl_aload_n hx hb dX10_takeAway_15 rfl (lv_at hl 0 rfl) ?_
    refine gn7_1 hx hb hts hown hKs hH ha3.1 ha3.2 m2_67 dX10_takeAway_16 ?_
    refine hl_aload_n hx hb dX10_takeAway_19 rfl (lv_at hl 1 rfl) ?_
    refine g10_0 hx hb hts hown hKs hH rfl ho m2_113 dX10_takeAway_20 ?_
    obtain ⟨a6, ha6, hf⟩ := bnd hf
    replace ha6 := chk_some ha6
    refine gn9_11 hx hb hts hown hKs hH ha6.1 ha6.2 m1_181 dX10_takeAway_23 ?_
    refine lv_iload_n hx hb dX10_takeAway_26 rfl (lv_at hl 3 rfl) ?_
    obtain ⟨a7, ha7, hf⟩ := bnd hf
    replace ha7 := cha_some ha7
    obtain ⟨j8, hj8, hf⟩ := bnd hf
    refine hw_iald hx hb hKs hH ha7.1 ha7.2 hj8 dX10_takeAway_27 ?_
    refine lv_iadd hx hb dX10_takeAway_28 ?_
    refine lv_istore (i := 4) (lv' := [(4, .int (((wI w 701 a3) + (aI w a7.1 j8)))), (3, rv E (aR w a1.1 j2)), (0, rv E (some o)), (1, .int a_1), (2, .int a_2)]) hx hb dX10_takeAway_29 hl (by decide) (by simp [List.filter_cons, cat_q, cat_i, cat_j, imax, imin]) (fun ls hl => ?_)
    refine hl_aload_n hx hb dX10_takeAway_31 rfl (lv_at hl 2 rfl) ?_
    refine g10_0 hx hb hts hown hKs hH rfl ho m2_113 dX10_takeAway_32 ?_
    refine gn9_9 hx hb hts hown hKs hH ha6.1 ha6.2 m1_173 dX10_takeAway_35 ?_
    refine lv_iload_n hx hb dX10_takeAway_38 rfl (lv_at hl 3 rfl) ?_
    obtain ⟨a9, ha9, hf⟩ := bnd hf
    replace ha9 := cha_some ha9
    obtain ⟨j10, hj10, hf⟩ := bnd hf
    refine hw_aald25 hx hb hKs hH ha9.1 ha9.2 hj10 dX10_takeAway_39 ?_
    obtain ⟨a11, ha11, hf⟩ := bnd hf
    replace ha11 := chk_some ha11
    refine gn3_3 hx hb hts hown hKs hH ha11.1 ha11.2 m1_106 dX10_takeAway_40 ?_
    refine lv_if_eq (tgt := 60) hx hb dX10_takeAway_43 (by decide) (fun c12 => ?_) (fun c12 => ?_)
    · replace hf := (if_pos c12).symm.trans hf
      refine hl_aload_n hx hb dX10_takeAway_60 rfl (lv_at hl 1 rfl) ?_
      refine hl_aload_n hx hb dX10_takeAway_61 rfl (lv_at hl 2 rfl) ?_
      refine g10_1 hx hb hts hown hKs hH rfl ho m2_116 dX10_takeAway_62 ?_
      refine lv_iload_n hx hb dX10_takeAway_65 rfl (lv_at hl 4 rfl) ?_
      refine lv_iload hx hb dX10_takeAway_66 (lv_at hl 0 rfl) ?_
      refine hl_aload_n hx hb dX10_takeAway_68 rfl (lv_at hl 1 rfl) ?_
      refine gn7_1 hx hb hts hown hKs hH ha3.1 ha3.2 m2_67 dX10_takeAway_69 ?_
      refine lv_isub hx hb dX10_takeAway_72 ?_
      obtain ⟨q13, hq13, hf⟩ := bnd hf
      refine hcV_v hx hb hml hown hts hKs hT hb0 hH (As := [.int ((wI w 1001 o)), .int a_2, .int ((((wI w 701 a3) + (aI w a7.1 j8)) - (wI w 701 a3)))]) (rest := []) (k_X7_note l E K H.size a3 (wI w 1001 o) a_2 (((wI w 701 a3) + (aI w a7.1 j8)) - (wI w 701 a3)) w ha3.2 hq13) (gV m6_143 m6_144 m6_145 m1_13 m6_146) hd_X7_note ⟨Nat.le_of_ble_eq_true rfl, Nat.le_of_ble_eq_true rfl, rfl, rfl⟩ ha3.1 ha3.2 rfl rfl rfl hl.1 rfl rc0 rfl dX10_takeAway_73 ⟨Nat.zero_le _, Nat.zero_le _⟩ (fun H locs hH => ?_)
      refine hl_aload_n hx hb dX10_takeAway_76 rfl (lv_at hl 1 rfl) ?_
      refine lv_iload hx hb dX10_takeAway_77 (lv_at hl 0 rfl) ?_
      obtain ⟨w14, hw14, hf⟩ := bnd hf
      replace hw14 := Option.some.inj hw14
      refine pn7_1 (v := ((wI w 701 a3) + (aI w a7.1 j8))) hx hb hts hown hKs hH ha3.1 ha3.2 m2_67 dX10_takeAway_79 (fun H locs hH => ?_)
      rw [hw14] at hH
      refine hl_aload_n hx hb dX10_takeAway_82 rfl (lv_at hl 1 rfl) ?_
      obtain ⟨q15, hq15, hf⟩ := bnd hf
      refine hcV_v hx hb hml hown hts hKs hT hb0 hH (As := []) (rest := []) (k_X7_dropHearing l E K H.size a3 w14 ha3.2 hq15) (gV m6_147 m2_110 m2_111 m1_13 m2_112) hd_X7_dropHearing ⟨Nat.le_of_ble_eq_true rfl, Nat.le_of_ble_eq_true rfl, rfl, rfl⟩ ha3.1 ha3.2 rfl rfl rfl hl.1 rfl rc0 rfl dX10_takeAway_83 ⟨Nat.zero_le _, Nat.zero_le _⟩ (fun H locs hH => ?_)
      exact hw_vret hx hb hret hf hH hlocks dX10_takeAway_86
    · replace hf := (if_neg c12).symm.trans hf
      refine lv_iload hx hb dX10_takeAway_46 (lv_at hl 0 rfl) ?_
      refine hl_aload_n hx hb dX10_takeAway_48 rfl (lv_at hl 2 rfl) ?_
      refine g10_0 hx hb hts hown hKs hH rfl ho m2_113 dX10_takeAway_49 ?_
      refine gn9_13 hx hb hts hown hKs hH ha6.1 ha6.2 m1_187 dX10_takeAway_52 ?_
      refine va_mmin hx hb (hml.trans hl.1.symm) hown (hts _ m6_142) (hts _ m3_200) (hts _ m1_5) (hts _ m3_201) (Nat.le_of_ble_eq_true rfl) (Nat.le_trans (Nat.add_le_add_right (show rc 8 [] from rc0) 13) (Nat.le_of_ble_eq_true rfl)) (Nat.le_of_ble_eq_true rfl) (Nat.le_of_ble_eq_true rfl) dX10_takeAway_55 ?_
      refine lv_istore (i := 4) (lv' := [(4, .int ((imin ((wI w 701 a3) + (aI w a7.1 j8)) (wI w 913 a6)))), (3, rv E (aR w a1.1 j2)), (0, rv E (some o)), (1, .int a_1), (2, .int a_2)]) hx hb dX10_takeAway_58 hl (by decide) (by simp [List.filter_cons, cat_q, cat_i, cat_j, imax, imin]) (fun ls hl => ?_)
      refine hl_aload_n hx hb dX10_takeAway_60 rfl (lv_at hl 1 rfl) ?_
      refine hl_aload_n hx hb dX10_takeAway_61 rfl (lv_at hl 2 rfl) ?_
      refine g10_1 hx hb hts hown hKs hH rfl ho m2_116 dX10_takeAway_62 ?_
      refine lv_iload_n hx hb dX10_takeAway_65 rfl (lv_at hl 4 rfl) ?_
      refine lv_iload hx hb dX10_takeAway_66 (lv_at hl 0 rfl) ?_
      refine hl_aload_n hx hb dX10_takeAway_68 rfl (lv_at hl 1 rfl) ?_
      refine gn7_1 hx hb hts hown hKs hH ha3.1 ha3.2 m2_67 dX10_takeAway_69 ?_
      refine lv_isub hx hb dX10_takeAway_72 ?_
      obtain ⟨q16, hq16, hf⟩ := bnd hf
      refine hcV_v hx hb hml hown hts hKs hT hb0 hH (As := [.int ((wI w 1001 o)), .int a_2, .int (((imin ((wI w 701 a3) + (aI w a7.1 j8)) (wI w 913 a6)) - (wI w 701 a3)))]) (rest := []) (k_X7_note l E K H.size a3 (wI w 1001 o) a_2 ((imin ((wI w 701 a3) + (aI w a7.1 j8)) (wI w 913 a6)) - (wI w 701 a3)) w ha3.2 hq16) (gV m6_143 m6_144 m6_145 m1_13 m6_146) hd_X7_note ⟨Nat.le_of_ble_eq_true rfl, Nat.le_of_ble_eq_true rfl, rfl, rfl⟩ ha3.1 ha3.2 rfl rfl rfl hl.1 rfl rc0 rfl dX10_takeAway_73 ⟨Nat.zero_le _, Nat.zero_le _⟩ (fun H locs hH => ?_)
      refine hl_aload_n hx hb dX10_takeAway_76 rfl (lv_at hl 1 rfl) ?_
      refine lv_iload hx hb dX10_takeAway_77 (lv_at hl 0 rfl) ?_
      obtain ⟨w17, hw17, hf⟩ := bnd hf
      replace hw17 := Option.some.inj hw17
      refine pn7_1 (v := (imin ((wI w 701 a3) + (aI w a7.1 j8)) (wI w 913 a6))) hx hb hts hown hKs hH ha3.1 ha3.2 m2_67 dX10_takeAway_79 (fun H locs hH => ?_)
      rw [hw17] at hH
      refine hl_aload_n hx hb dX10_takeAway_82 rfl (lv_at hl 1 rfl) ?_
      obtain ⟨q18, hq18, hf⟩ := bnd hf
      refine hcV_v hx hb hml hown hts hKs hT hb0 hH (As := []) (rest := []) (k_X7_dropHearing l E K H.size a3 w17 ha3.2 hq18) (gV m6_147 m2_110 m2_111 m1_13 m2_112) hd_X7_dropHearing ⟨Nat.le_of_ble_eq_true rfl, Nat.le_of_ble_eq_true rfl, rfl, rfl⟩ ha3.1 ha3.2 rfl rfl rfl hl.1 rfl rc0 rfl dX10_takeAway_83 ⟨Nat.zero_le _, Nat.zero_le _⟩ (fun H locs hH => ?_)
      exact hw_vret hx hb hret hf hH hlocks dX10_takeAway_86

theorem dX10_passDays_0 : decode cX10_passDays 0 = .ok (.iconst 0, 1) := by decide +kernel
theorem dX10_passDays_1 : decode cX10_passDays 1 = .ok (.istore_n 2, 1) := by decide +kernel
theorem dX10_passDays_2 : decode cX10_passDays 2 = .ok (.aload_n 0, 1) := by decide +kernel
theorem dX10_passDays_3 : decode cX10_passDays 3 = .ok (.dup, 1) := by decide +kernel
theorem dX10_passDays_4 : decode cX10_passDays 4 = .ok (.getfield 39, 3) := by decide +kernel
theorem dX10_passDays_7 : decode cX10_passDays 7 = .ok (.iload_n 1, 1) := by decide +kernel
theorem dX10_passDays_8 : decode cX10_passDays 8 = .ok (.iadd, 1) := by decide +kernel
theorem dX10_passDays_9 : decode cX10_passDays 9 = .ok (.putfield 39, 3) := by decide +kernel
theorem dX10_passDays_12 : decode cX10_passDays 12 = .ok (.iconst 0, 1) := by decide +kernel
theorem dX10_passDays_13 : decode cX10_passDays 13 = .ok (.istore_n 3, 1) := by decide +kernel
theorem dX10_passDays_14 : decode cX10_passDays 14 = .ok (.iload_n 3, 1) := by decide +kernel
theorem dX10_passDays_15 : decode cX10_passDays 15 = .ok (.aload_n 0, 1) := by decide +kernel
theorem dX10_passDays_16 : decode cX10_passDays 16 = .ok (.getfield 31, 3) := by decide +kernel
theorem dX10_passDays_19 : decode cX10_passDays 19 = .ok (.iconst 3, 1) := by decide +kernel
theorem dX10_passDays_20 : decode cX10_passDays 20 = .ok (.invokevirtual 92, 3) := by decide +kernel
theorem dX10_passDays_23 : decode cX10_passDays 23 = .ok (.if_icmp .ge 51, 3) := by decide +kernel
theorem dX10_passDays_26 : decode cX10_passDays 26 = .ok (.aload_n 0, 1) := by decide +kernel
theorem dX10_passDays_27 : decode cX10_passDays 27 = .ok (.getfield 27, 3) := by decide +kernel
theorem dX10_passDays_30 : decode cX10_passDays 30 = .ok (.iload_n 3, 1) := by decide +kernel
theorem dX10_passDays_31 : decode cX10_passDays 31 = .ok (.aaload, 1) := by decide +kernel
theorem dX10_passDays_32 : decode cX10_passDays 32 = .ok (.getfield 95, 3) := by decide +kernel
theorem dX10_passDays_35 : decode cX10_passDays 35 = .ok (.iconst 1, 1) := by decide +kernel
theorem dX10_passDays_36 : decode cX10_passDays 36 = .ok (.if_icmp .ne 32, 3) := by decide +kernel
theorem dX10_passDays_39 : decode cX10_passDays 39 = .ok (.aload_n 0, 1) := by decide +kernel
theorem dX10_passDays_40 : decode cX10_passDays 40 = .ok (.getfield 27, 3) := by decide +kernel
theorem dX10_passDays_43 : decode cX10_passDays 43 = .ok (.iload_n 3, 1) := by decide +kernel
theorem dX10_passDays_44 : decode cX10_passDays 44 = .ok (.aaload, 1) := by decide +kernel
theorem dX10_passDays_45 : decode cX10_passDays 45 = .ok (.getfield 119, 3) := by decide +kernel
theorem dX10_passDays_48 : decode cX10_passDays 48 = .ok (.aload_n 0, 1) := by decide +kernel
theorem dX10_passDays_49 : decode cX10_passDays 49 = .ok (.getfield 39, 3) := by decide +kernel
theorem dX10_passDays_52 : decode cX10_passDays 52 = .ok (.if_icmp .ge 16, 3) := by decide +kernel
theorem dX10_passDays_55 : decode cX10_passDays 55 = .ok (.aload_n 0, 1) := by decide +kernel
theorem dX10_passDays_56 : decode cX10_passDays 56 = .ok (.getfield 27, 3) := by decide +kernel
theorem dX10_passDays_59 : decode cX10_passDays 59 = .ok (.iload_n 3, 1) := by decide +kernel
theorem dX10_passDays_60 : decode cX10_passDays 60 = .ok (.aaload, 1) := by decide +kernel
theorem dX10_passDays_61 : decode cX10_passDays 61 = .ok (.iconst 2, 1) := by decide +kernel
theorem dX10_passDays_62 : decode cX10_passDays 62 = .ok (.putfield 95, 3) := by decide +kernel
theorem dX10_passDays_65 : decode cX10_passDays 65 = .ok (.iinc 2 1, 3) := by decide +kernel
theorem dX10_passDays_68 : decode cX10_passDays 68 = .ok (.iinc 3 1, 3) := by decide +kernel
theorem dX10_passDays_71 : decode cX10_passDays 71 = .ok (.goto (-57), 3) := by decide +kernel
theorem dX10_passDays_74 : decode cX10_passDays 74 = .ok (.iconst 0, 1) := by decide +kernel
theorem dX10_passDays_75 : decode cX10_passDays 75 = .ok (.istore_n 3, 1) := by decide +kernel
theorem dX10_passDays_76 : decode cX10_passDays 76 = .ok (.iload_n 3, 1) := by decide +kernel
theorem dX10_passDays_77 : decode cX10_passDays 77 = .ok (.aload_n 0, 1) := by decide +kernel
theorem dX10_passDays_78 : decode cX10_passDays 78 = .ok (.getfield 31, 3) := by decide +kernel
theorem dX10_passDays_81 : decode cX10_passDays 81 = .ok (.iconst 3, 1) := by decide +kernel
theorem dX10_passDays_82 : decode cX10_passDays 82 = .ok (.invokevirtual 92, 3) := by decide +kernel
theorem dX10_passDays_85 : decode cX10_passDays 85 = .ok (.if_icmp .ge 43, 3) := by decide +kernel
theorem dX10_passDays_88 : decode cX10_passDays 88 = .ok (.aload_n 0, 1) := by decide +kernel
theorem dX10_passDays_89 : decode cX10_passDays 89 = .ok (.getfield 27, 3) := by decide +kernel
theorem dX10_passDays_92 : decode cX10_passDays 92 = .ok (.iload_n 3, 1) := by decide +kernel
theorem dX10_passDays_93 : decode cX10_passDays 93 = .ok (.aaload, 1) := by decide +kernel
theorem dX10_passDays_94 : decode cX10_passDays 94 = .ok (.getfield 95, 3) := by decide +kernel
theorem dX10_passDays_97 : decode cX10_passDays 97 = .ok (.ifCond .ne 25, 3) := by decide +kernel
theorem dX10_passDays_100 : decode cX10_passDays 100 = .ok (.aload_n 0, 1) := by decide +kernel
theorem dX10_passDays_101 : decode cX10_passDays 101 = .ok (.iload_n 3, 1) := by decide +kernel
theorem dX10_passDays_102 : decode cX10_passDays 102 = .ok (.invokevirtual 84, 3) := by decide +kernel
theorem dX10_passDays_105 : decode cX10_passDays 105 = .ok (.aload_n 0, 1) := by decide +kernel
theorem dX10_passDays_106 : decode cX10_passDays 106 = .ok (.getfield 39, 3) := by decide +kernel
theorem dX10_passDays_109 : decode cX10_passDays 109 = .ok (.if_icmp .ge 13, 3) := by decide +kernel
theorem dX10_passDays_112 : decode cX10_passDays 112 = .ok (.aload_n 0, 1) := by decide +kernel
theorem dX10_passDays_113 : decode cX10_passDays 113 = .ok (.getfield 27, 3) := by decide +kernel
theorem dX10_passDays_116 : decode cX10_passDays 116 = .ok (.iload_n 3, 1) := by decide +kernel
theorem dX10_passDays_117 : decode cX10_passDays 117 = .ok (.aaload, 1) := by decide +kernel
theorem dX10_passDays_118 : decode cX10_passDays 118 = .ok (.iconst 3, 1) := by decide +kernel
theorem dX10_passDays_119 : decode cX10_passDays 119 = .ok (.putfield 95, 3) := by decide +kernel
theorem dX10_passDays_122 : decode cX10_passDays 122 = .ok (.iinc 3 1, 3) := by decide +kernel
theorem dX10_passDays_125 : decode cX10_passDays 125 = .ok (.goto (-49), 3) := by decide +kernel
theorem dX10_passDays_128 : decode cX10_passDays 128 = .ok (.iload_n 2, 1) := by decide +kernel
theorem dX10_passDays_129 : decode cX10_passDays 129 = .ok (.ireturn, 1) := by decide +kernel
theorem hd_X10_passDays : yX10_passDays.cls = RX10 ∧ yX10_passDays.cls ≠ "java/lang/invoke/MethodHandle" ∧ yX10_passDays.cls ≠ "java/lang/invoke/VarHandle" ∧ (parseMethodDescriptor yX10_passDays.desc).map (fun d => d.parameters.length) = some 1 := by decide +kernel
theorem hs_X10_passDays : yX10_passDays.cls ≠ "java/lang/invoke/MethodHandle" ∧ yX10_passDays.cls ≠ "java/lang/invoke/VarHandle" ∧ (parseMethodDescriptor yX10_passDays.desc).map (fun d => d.parameters.length) = some 1 := by decide +kernel
set_option maxHeartbeats 4000000 in
set_option maxRecDepth 100000 in
theorem l_X10_passDays_L14 (C : CX p l e s m args meth c cX10_passDays 4 RX10 (Option.some Jvm.ClassFile.FieldType.int) E) {o : Nat} (ho : K o = some (9, 0)) {r : Int32} {w' : Wd} (k : Int32 → Int32 → Int32 → Wd → Option (Int32 × Wd)) (hk : ∀ (v1_14 : Int32) (v2_14 : Int32) (v3_14 : Int32) (w : Wd) (H : Heap) (locs : List Loc) (ls : Array Slot), HQ E K z w s H locs → lv_has ls 4 [(1, .int v1_14), (2, .int v2_14), (3, .int v3_14), (0, rv E (some o))] → k v1_14 v2_14 v3_14 w = some (r, w') → W p l e ({ frames := 3, cells := 0, slots := 0, locals := 66 } : Room) s m args below meth c H locs 0 0 (MQ below (QI E K z w' r) args s 0 0 (hA E)) (F0 m 74 ls [])) : ∀ (n : Nat) (v1_14 : Int32) (v2_14 : Int32) (v3_14 : Int32) (w : Wd) (H : Heap) (locs : List Loc) (ls : Array Slot), HQ E K z w s H locs → lv_has ls 4 [(1, .int v1_14), (2, .int v2_14), (3, .int v3_14), (0, rv E (some o))] → f_X10_passDays_L14 K o k n v1_14 v2_14 v3_14 w = some (r, w') → W p l e ({ frames := 3, cells := 0, slots := 0, locals := 66 } : Room) s m args below meth c H locs 0 0 (MQ below (QI E K z w' r) args s 0 0 (hA E)) (F0 m 14 ls []) := by
  obtain ⟨hx, hb, hml, hown, hts, hKs, hT, hb0, hlocks, hret⟩ := id C
  intro n
  induction n with
  | zero =>
    intro v1_14 v2_14 v3_14 w H locs ls hH hl hf
    cases hf
  | succ n ih =>
    intro v1_14 v2_14 v3_14 w H locs ls hH hl hf
    rw [f_X10_passDays_L14] at hf
    refine lv_iload_n hx hb dX10_passDays_14 rfl (lv_at hl 2 rfl) ?_
    refine hl_aload_n hx hb dX10_passDays_15 rfl (lv_at hl 3 rfl) ?_
    refine g10_0 hx hb hts hown hKs hH rfl ho m2_113 dX10_passDays_16 ?_
    refine lv_iconst (v := 3) hx hb dX10_passDays_19 (by decide) ?_
    obtain ⟨a3, ha3, hf⟩ := bnd hf
    replace ha3 := chk_some ha3
    obtain ⟨q4, hq4, hf⟩ := bnd hf
    refine hcV_i hx hb hml hown hts hKs hT hb0 hH (As := [.int 3]) (rest := [.int v3_14]) (k_X9_size l E K H.size a3 3 w ha3.2 hq4) (gV m3_29 m3_22 m3_23 m1_2 m3_24) hd_X9_size ⟨Nat.le_of_ble_eq_true rfl, Nat.le_of_ble_eq_true rfl, rfl, rfl⟩ ha3.1 ha3.2 rfl rfl rfl hl.1 rfl (rcI rc0) rfl dX10_passDays_20 ⟨Nat.zero_le _, Nat.zero_le _⟩ (fun H locs hH => ?_)
    refine lv_icmp_ge (tgt := 74) hx hb dX10_passDays_23 (by decide) (fun c5 => ?_) (fun c5 => ?_)
    · replace hf := (if_pos c5).symm.trans hf
      exact hk v1_14 v2_14 v3_14 _ _ _ _ hH (lv_sub hl [0, 1, 2, 3] rfl) hf
    · replace hf := (if_neg c5).symm.trans hf
      refine hl_aload_n hx hb dX10_passDays_26 rfl (lv_at hl 3 rfl) ?_
      refine g10_5 hx hb hts hown hKs hH rfl ho m2_125 dX10_passDays_27 ?_
      refine lv_iload_n hx hb dX10_passDays_30 rfl (lv_at hl 2 rfl) ?_
      obtain ⟨a6, ha6, hf⟩ := bnd hf
      replace ha6 := cha_some ha6
      obtain ⟨j7, hj7, hf⟩ := bnd hf
      refine hw_aald27 hx hb hKs hH ha6.1 ha6.2 hj7 dX10_passDays_31 ?_
      obtain ⟨a8, ha8, hf⟩ := bnd hf
      replace ha8 := chk_some ha8
      refine gn7_0 hx hb hts hown hKs hH ha8.1 ha8.2 m2_64 dX10_passDays_32 ?_
      refine lv_iconst (v := 1) hx hb dX10_passDays_35 (by decide) ?_
      refine lv_icmp_ne (tgt := 68) hx hb dX10_passDays_36 (by decide) (fun c9 => ?_) (fun c9 => ?_)
      · replace hf := (if_neg c9).symm.trans hf
        refine lv_iinc (v := (v3_14 + 1)) (lv' := [(3, .int ((v3_14 + 1))), (1, .int v1_14), (2, .int v2_14), (0, rv E (some o))]) hx hb dX10_passDays_68 hl (k := 2) rfl rfl (by decide) rfl (fun ls hl => ?_)
        refine lv_goto (tgt := 14) hx hb dX10_passDays_71 (by decide) ?_
        exact ih v1_14 v2_14 (v3_14 + 1) _ _ _ _ hH (lv_sub hl [1, 2, 0, 3] rfl) hf
      · replace hf := (if_pos c9).symm.trans hf
        refine hl_aload_n hx hb dX10_passDays_39 rfl (lv_at hl 3 rfl) ?_
        refine g10_5 hx hb hts hown hKs hH rfl ho m2_125 dX10_passDays_40 ?_
        refine lv_iload_n hx hb dX10_passDays_43 rfl (lv_at hl 2 rfl) ?_
        obtain ⟨j10, hj10, hf⟩ := bnd hf
        refine hw_aald27 hx hb hKs hH ha6.1 ha6.2 hj10 dX10_passDays_44 ?_
        obtain ⟨a11, ha11, hf⟩ := bnd hf
        replace ha11 := chk_some ha11
        refine gn7_2 hx hb hts hown hKs hH ha11.1 ha11.2 m2_71 dX10_passDays_45 ?_
        refine hl_aload_n hx hb dX10_passDays_48 rfl (lv_at hl 3 rfl) ?_
        refine g10_1 hx hb hts hown hKs hH rfl ho m2_116 dX10_passDays_49 ?_
        refine lv_icmp_ge (tgt := 68) hx hb dX10_passDays_52 (by decide) (fun c12 => ?_) (fun c12 => ?_)
        · replace hf := (if_pos c12).symm.trans hf
          refine lv_iinc (v := (v3_14 + 1)) (lv' := [(3, .int ((v3_14 + 1))), (1, .int v1_14), (2, .int v2_14), (0, rv E (some o))]) hx hb dX10_passDays_68 hl (k := 2) rfl rfl (by decide) rfl (fun ls hl => ?_)
          refine lv_goto (tgt := 14) hx hb dX10_passDays_71 (by decide) ?_
          exact ih v1_14 v2_14 (v3_14 + 1) _ _ _ _ hH (lv_sub hl [1, 2, 0, 3] rfl) hf
        · replace hf := (if_neg c12).symm.trans hf
          refine hl_aload_n hx hb dX10_passDays_55 rfl (lv_at hl 3 rfl) ?_
          refine g10_5 hx hb hts hown hKs hH rfl ho m2_125 dX10_passDays_56 ?_
          refine lv_iload_n hx hb dX10_passDays_59 rfl (lv_at hl 2 rfl) ?_
          obtain ⟨j13, hj13, hf⟩ := bnd hf
          refine hw_aald27 hx hb hKs hH ha6.1 ha6.2 hj13 dX10_passDays_60 ?_
          refine lv_iconst (v := 2) hx hb dX10_passDays_61 (by decide) ?_
          obtain ⟨a14, ha14, hf⟩ := bnd hf
          replace ha14 := chk_some ha14
          obtain ⟨w15, hw15, hf⟩ := bnd hf
          replace hw15 := Option.some.inj hw15
          refine pn7_0 (v := 2) hx hb hts hown hKs hH ha14.1 ha14.2 m2_64 dX10_passDays_62 (fun H locs hH => ?_)
          rw [hw15] at hH
          refine lv_iinc (v := (v2_14 + 1)) (lv' := [(2, .int ((v2_14 + 1))), (1, .int v1_14), (3, .int v3_14), (0, rv E (some o))]) hx hb dX10_passDays_65 hl (k := 1) rfl rfl (by decide) rfl (fun ls hl => ?_)
          refine lv_iinc (v := (v3_14 + 1)) (lv' := [(3, .int ((v3_14 + 1))), (2, .int ((v2_14 + 1))), (1, .int v1_14), (0, rv E (some o))]) hx hb dX10_passDays_68 hl (k := 2) rfl rfl (by decide) rfl (fun ls hl => ?_)
          refine lv_goto (tgt := 14) hx hb dX10_passDays_71 (by decide) ?_
          exact ih v1_14 (v2_14 + 1) (v3_14 + 1) _ _ _ _ hH (lv_sub hl [2, 1, 0, 3] rfl) hf
set_option maxHeartbeats 4000000 in
set_option maxRecDepth 100000 in
theorem l_X10_passDays_L76 (C : CX p l e s m args meth c cX10_passDays 4 RX10 (Option.some Jvm.ClassFile.FieldType.int) E) {o : Nat} (ho : K o = some (9, 0)) {r : Int32} {w' : Wd} (k : Int32 → Int32 → Int32 → Wd → Option (Int32 × Wd)) (hk : ∀ (v1_76 : Int32) (v2_76 : Int32) (v3_76 : Int32) (w : Wd) (H : Heap) (locs : List Loc) (ls : Array Slot), HQ E K z w s H locs → lv_has ls 4 [(1, .int v1_76), (2, .int v2_76), (3, .int v3_76), (0, rv E (some o))] → k v1_76 v2_76 v3_76 w = some (r, w') → W p l e ({ frames := 3, cells := 0, slots := 0, locals := 66 } : Room) s m args below meth c H locs 0 0 (MQ below (QI E K z w' r) args s 0 0 (hA E)) (F0 m 128 ls [])) : ∀ (n : Nat) (v1_76 : Int32) (v2_76 : Int32) (v3_76 : Int32) (w : Wd) (H : Heap) (locs : List Loc) (ls : Array Slot), HQ E K z w s H locs → lv_has ls 4 [(1, .int v1_76), (2, .int v2_76), (3, .int v3_76), (0, rv E (some o))] → f_X10_passDays_L76 K o k n v1_76 v2_76 v3_76 w = some (r, w') → W p l e ({ frames := 3, cells := 0, slots := 0, locals := 66 } : Room) s m args below meth c H locs 0 0 (MQ below (QI E K z w' r) args s 0 0 (hA E)) (F0 m 76 ls []) := by
  obtain ⟨hx, hb, hml, hown, hts, hKs, hT, hb0, hlocks, hret⟩ := id C
  intro n
  induction n with
  | zero =>
    intro v1_76 v2_76 v3_76 w H locs ls hH hl hf
    cases hf
  | succ n ih =>
    intro v1_76 v2_76 v3_76 w H locs ls hH hl hf
    rw [f_X10_passDays_L76] at hf
    refine lv_iload_n hx hb dX10_passDays_76 rfl (lv_at hl 2 rfl) ?_
    refine hl_aload_n hx hb dX10_passDays_77 rfl (lv_at hl 3 rfl) ?_
    refine g10_0 hx hb hts hown hKs hH rfl ho m2_113 dX10_passDays_78 ?_
    refine lv_iconst (v := 3) hx hb dX10_passDays_81 (by decide) ?_
    obtain ⟨a17, ha17, hf⟩ := bnd hf
    replace ha17 := chk_some ha17
    obtain ⟨q18, hq18, hf⟩ := bnd hf
    refine hcV_i hx hb hml hown hts hKs hT hb0 hH (As := [.int 3]) (rest := [.int v3_76]) (k_X9_size l E K H.size a17 3 w ha17.2 hq18) (gV m3_29 m3_22 m3_23 m1_2 m3_24) hd_X9_size ⟨Nat.le_of_ble_eq_true rfl, Nat.le_of_ble_eq_true rfl, rfl, rfl⟩ ha17.1 ha17.2 rfl rfl rfl hl.1 rfl (rcI rc0) rfl dX10_passDays_82 ⟨Nat.zero_le _, Nat.zero_le _⟩ (fun H locs hH => ?_)
    refine lv_icmp_ge (tgt := 128) hx hb dX10_passDays_85 (by decide) (fun c19 => ?_) (fun c19 => ?_)
    · replace hf := (if_pos c19).symm.trans hf
      exact hk v1_76 v2_76 v3_76 _ _ _ _ hH (lv_sub hl [0, 1, 2, 3] rfl) hf
    · replace hf := (if_neg c19).symm.trans hf
      refine hl_aload_n hx hb dX10_passDays_88 rfl (lv_at hl 3 rfl) ?_
      refine g10_5 hx hb hts hown hKs hH rfl ho m2_125 dX10_passDays_89 ?_
      refine lv_iload_n hx hb dX10_passDays_92 rfl (lv_at hl 2 rfl) ?_
      obtain ⟨a20, ha20, hf⟩ := bnd hf
      replace ha20 := cha_some ha20
      obtain ⟨j21, hj21, hf⟩ := bnd hf
      refine hw_aald27 hx hb hKs hH ha20.1 ha20.2 hj21 dX10_passDays_93 ?_
      obtain ⟨a22, ha22, hf⟩ := bnd hf
      replace ha22 := chk_some ha22
      refine gn7_0 hx hb hts hown hKs hH ha22.1 ha22.2 m2_64 dX10_passDays_94 ?_
      refine lv_if_ne (tgt := 122) hx hb dX10_passDays_97 (by decide) (fun c23 => ?_) (fun c23 => ?_)
      · replace hf := (if_neg c23).symm.trans hf
        refine lv_iinc (v := (v3_76 + 1)) (lv' := [(3, .int ((v3_76 + 1))), (1, .int v1_76), (2, .int v2_76), (0, rv E (some o))]) hx hb dX10_passDays_122 hl (k := 2) rfl rfl (by decide) rfl (fun ls hl => ?_)
        refine lv_goto (tgt := 76) hx hb dX10_passDays_125 (by decide) ?_
        exact ih v1_76 v2_76 (v3_76 + 1) _ _ _ _ hH (lv_sub hl [1, 2, 0, 3] rfl) hf
      · replace hf := (if_pos c23).symm.trans hf
        refine hl_aload_n hx hb dX10_passDays_100 rfl (lv_at hl 3 rfl) ?_
        refine lv_iload_n hx hb dX10_passDays_101 rfl (lv_at hl 2 rfl) ?_
        obtain ⟨q24, hq24, hf⟩ := bnd hf
        refine hcV_i hx hb hml hown hts hKs hT hb0 hH (As := [.int v3_76]) (rest := []) (k_X10_limitDay l E K H.size o v3_76 q18.2 ho hq24) (gV m3_144 m3_145 m3_146 m1_12 m3_147) hd_X10_limitDay ⟨Nat.le_of_ble_eq_true rfl, Nat.le_of_ble_eq_true rfl, rfl, rfl⟩ rfl ho rfl rfl rfl hl.1 rfl rc0 rfl dX10_passDays_102 ⟨Nat.zero_le _, Nat.zero_le _⟩ (fun H locs hH => ?_)
        refine hl_aload_n hx hb dX10_passDays_105 rfl (lv_at hl 3 rfl) ?_
        refine g10_1 hx hb hts hown hKs hH rfl ho m2_116 dX10_passDays_106 ?_
        refine lv_icmp_ge (tgt := 122) hx hb dX10_passDays_109 (by decide) (fun c25 => ?_) (fun c25 => ?_)
        · replace hf := (if_pos c25).symm.trans hf
          refine lv_iinc (v := (v3_76 + 1)) (lv' := [(3, .int ((v3_76 + 1))), (1, .int v1_76), (2, .int v2_76), (0, rv E (some o))]) hx hb dX10_passDays_122 hl (k := 2) rfl rfl (by decide) rfl (fun ls hl => ?_)
          refine lv_goto (tgt := 76) hx hb dX10_passDays_125 (by decide) ?_
          exact ih v1_76 v2_76 (v3_76 + 1) _ _ _ _ hH (lv_sub hl [1, 2, 0, 3] rfl) hf
        · replace hf := (if_neg c25).symm.trans hf
          refine hl_aload_n hx hb dX10_passDays_112 rfl (lv_at hl 3 rfl) ?_
          refine g10_5 hx hb hts hown hKs hH rfl ho m2_125 dX10_passDays_113 ?_
          refine lv_iload_n hx hb dX10_passDays_116 rfl (lv_at hl 2 rfl) ?_
          obtain ⟨a26, ha26, hf⟩ := bnd hf
          replace ha26 := cha_some ha26
          obtain ⟨j27, hj27, hf⟩ := bnd hf
          refine hw_aald27 hx hb hKs hH ha26.1 ha26.2 hj27 dX10_passDays_117 ?_
          refine lv_iconst (v := 3) hx hb dX10_passDays_118 (by decide) ?_
          obtain ⟨a28, ha28, hf⟩ := bnd hf
          replace ha28 := chk_some ha28
          obtain ⟨w29, hw29, hf⟩ := bnd hf
          replace hw29 := Option.some.inj hw29
          refine pn7_0 (v := 3) hx hb hts hown hKs hH ha28.1 ha28.2 m2_64 dX10_passDays_119 (fun H locs hH => ?_)
          rw [hw29] at hH
          refine lv_iinc (v := (v3_76 + 1)) (lv' := [(3, .int ((v3_76 + 1))), (1, .int v1_76), (2, .int v2_76), (0, rv E (some o))]) hx hb dX10_passDays_122 hl (k := 2) rfl rfl (by decide) rfl (fun ls hl => ?_)
          refine lv_goto (tgt := 76) hx hb dX10_passDays_125 (by decide) ?_
          exact ih v1_76 v2_76 (v3_76 + 1) _ _ _ _ hH (lv_sub hl [1, 2, 0, 3] rfl) hf
set_option maxHeartbeats 4000000 in
set_option maxRecDepth 100000 in
theorem k_X10_passDays (l : Launch) (E : Ev) (K : Kd) (z : Nat) (o : Nat) (a_1 : Int32) (w : Wd) (ho : K o = some (9, 0)) {r : Int32} {w' : Wd} (hf : f_X10_passDays K o a_1 w = some (r, w')) : Met l yX10_passDays (Cond.code yX10_passDays cX10_passDays 4 (Option.some Jvm.ClassFile.FieldType.int) :: bt) ({ frames := 3, cells := 0, slots := 0, locals := 66 } : Room) (va_Pc [rv E (some o), .int a_1] (HB E K w z)) (QI E K z w' r) 0 0 (hA E) := by
  refine Met.ofW (cc := cX10_passDays) (maxL := 4) (ret := (Option.some Jvm.ClassFile.FieldType.int)) (by decide) rfl ?_
  intro p e s m args below meth c s₁ B hml hv
  obtain ⟨rfl, hz, hP, hKs, hT, hb0⟩ := hv
  have C : CX p l e s m _ meth c cX10_passDays 4 RX10 (Option.some Jvm.ClassFile.FieldType.int) E := ⟨B.exec, B.bytes, hml, findClass_of_methodNamed B.named, fun w h => atoms_spec (ws := Cond.code yX10_passDays cX10_passDays 4 (Option.some Jvm.ClassFile.FieldType.int) :: bt) B.pre w (List.mem_cons_of_mem _ h), hKs, hT, by rw [hz]; exact hb0, B.notSynchronized, B.returns⟩
  have hH : HQ E K z w s s.heap [] := ⟨hP, va_S.rf, hz⟩
  obtain ⟨hx, hb, hml, hown, hts, hKs, hT, hb0, hlocks, hret⟩ := id C
  have hl := lv_entry [rv E (some o), .int a_1] (n := 4) (by simp [lg_len_nil, lg_len_i, lg_len_j, lg_len_q, lg_len_f, lg_len_d, lg_len_r])
  rw [lg_entry_eq]
  generalize (lg_sl [rv E (some o), .int a_1] ++ List.replicate (4 - (lg_sl [rv E (some o), .int a_1]).length) Slot.unset).toArray = ls at hl ⊢
  replace hl : lv_has ls 4 [(0, rv E (some o)), (1, .int a_1)] := by simpa only [lv_args, cat_q, cat_i, cat_j, reduceIte, Nat.reduceEqDiff, Nat.reduceAdd, Nat.zero_add] using hl
  generalize s.heap = H at hH ⊢
  unfold f_X10_passDays at hf
  refine lv_iconst (v := 0) hx hb dX10_passDays_0 (by decide) ?_
  refine lv_istore_n (i := 2) (lv' := [(2, .int 0), (0, rv E (some o)), (1, .int a_1)]) hx hb dX10_passDays_1 rfl hl (by decide) rfl (fun ls hl => ?_)
  refine hl_aload_n hx hb dX10_passDays_2 rfl (lv_at hl 1 rfl) ?_
  refine lv_dup hx hb dX10_passDays_3 rv_cat ?_
  refine g10_1 hx hb hts hown hKs hH rfl ho m2_116 dX10_passDays_4 ?_
  refine lv_iload_n hx hb dX10_passDays_7 rfl (lv_at hl 2 rfl) ?_
  refine lv_iadd hx hb dX10_passDays_8 ?_
  obtain ⟨w1, hw1, hf⟩ := bnd hf
  replace hw1 := Option.some.inj hw1
  refine p10_1 (v := ((wI w 1001 o) + a_1)) hx hb hts hown hKs hH rfl ho m2_116 dX10_passDays_9 (fun H locs hH => ?_)
  rw [hw1] at hH
  refine lv_iconst (v := 0) hx hb dX10_passDays_12 (by decide) ?_
  refine lv_istore_n (i := 3) (lv' := [(3, .int 0), (2, .int 0), (0, rv E (some o)), (1, .int a_1)]) hx hb dX10_passDays_13 rfl hl (by decide) rfl (fun ls hl => ?_)
  refine l_X10_passDays_L14  C ho _ (fun v1_14 v2_14 v3_14 w2 H locs ls hH hl hf => ?_) fu a_1 0 0 w1 _ _ _ hH (lv_sub hl [3, 1, 0, 2] rfl) hf
  refine lv_iconst (v := 0) hx hb dX10_passDays_74 (by decide) ?_
  refine lv_istore_n (i := 3) (lv' := [(3, .int 0), (1, .int v1_14), (2, .int v2_14), (0, rv E (some o))]) hx hb dX10_passDays_75 rfl hl (by decide) rfl (fun ls hl => ?_)
  refine l_X10_passDays_L76  C ho _ (fun v1_76 v2_76 v3_76 w16 H locs ls hH hl hf => ?_) fu v1_14 v2_14 0 w2 _ _ _ hH (lv_sub hl [1, 2, 0, 3] rfl) hf
  refine lv_iload_n hx hb dX10_passDays_128 rfl (lv_at hl 1 rfl) ?_
  exact hw_iret hx hb hret hf hH hlocks dX10_passDays_129

theorem dX11_ofWord_0 : decode cX11_ofWord 0 = .ok (.iconst 0, 1) := by decide +kernel
theorem dX11_ofWord_1 : decode cX11_ofWord 1 = .ok (.istore_n 2, 1) := by decide +kernel
theorem dX11_ofWord_2 : decode cX11_ofWord 2 = .ok (.iload_n 2, 1) := by decide +kernel
theorem dX11_ofWord_3 : decode cX11_ofWord 3 = .ok (.getstatic 100, 3) := by decide +kernel
theorem dX11_ofWord_6 : decode cX11_ofWord 6 = .ok (.arraylength, 1) := by decide +kernel
theorem dX11_ofWord_7 : decode cX11_ofWord 7 = .ok (.if_icmp .ge 28, 3) := by decide +kernel
theorem dX11_ofWord_10 : decode cX11_ofWord 10 = .ok (.getstatic 100, 3) := by decide +kernel
theorem dX11_ofWord_13 : decode cX11_ofWord 13 = .ok (.iload_n 2, 1) := by decide +kernel
theorem dX11_ofWord_14 : decode cX11_ofWord 14 = .ok (.aaload, 1) := by decide +kernel
theorem dX11_ofWord_15 : decode cX11_ofWord 15 = .ok (.getfield 96, 3) := by decide +kernel
theorem dX11_ofWord_18 : decode cX11_ofWord 18 = .ok (.lload_n 0, 1) := by decide +kernel
theorem dX11_ofWord_19 : decode cX11_ofWord 19 = .ok (.lcmp, 1) := by decide +kernel
theorem dX11_ofWord_20 : decode cX11_ofWord 20 = .ok (.ifCond .ne 9, 3) := by decide +kernel
theorem dX11_ofWord_23 : decode cX11_ofWord 23 = .ok (.getstatic 100, 3) := by decide +kernel
theorem dX11_ofWord_26 : decode cX11_ofWord 26 = .ok (.iload_n 2, 1) := by decide +kernel
theorem dX11_ofWord_27 : decode cX11_ofWord 27 = .ok (.aaload, 1) := by decide +kernel
theorem dX11_ofWord_28 : decode cX11_ofWord 28 = .ok (.areturn, 1) := by decide +kernel
theorem dX11_ofWord_29 : decode cX11_ofWord 29 = .ok (.iinc 2 1, 3) := by decide +kernel
theorem dX11_ofWord_32 : decode cX11_ofWord 32 = .ok (.goto (-30), 3) := by decide +kernel
theorem dX11_ofWord_35 : decode cX11_ofWord 35 = .ok (.getstatic 52, 3) := by decide +kernel
theorem dX11_ofWord_38 : decode cX11_ofWord 38 = .ok (.areturn, 1) := by decide +kernel
theorem hs_X11_ofWord : yX11_ofWord.cls ≠ "java/lang/invoke/MethodHandle" ∧ yX11_ofWord.cls ≠ "java/lang/invoke/VarHandle" ∧ (parseMethodDescriptor yX11_ofWord.desc).map (fun d => d.parameters.length) = some 1 := by decide +kernel
set_option maxHeartbeats 4000000 in
set_option maxRecDepth 100000 in
theorem l_X11_ofWord_L2 (C : CX p l e s m args meth c cX11_ofWord 3 RX11 (Option.some (Jvm.ClassFile.FieldType.object RX11)) E) {r : Option Nat} {w' : Wd} (k : Int64 → Int32 → Wd → Option (Option Nat × Wd)) (hk : ∀ (v0_2 : Int64) (v2_2 : Int32) (w : Wd) (H : Heap) (locs : List Loc) (ls : Array Slot), HQ E K z w s H locs → lv_has ls 3 [(0, .long v0_2), (2, .int v2_2)] → k v0_2 v2_2 w = some (r, w') → W p l e ({ frames := 0, cells := 0, slots := 0, locals := 0 } : Room) s m args below meth c H locs 0 0 (MQ below (QT E K z w' r) args s 0 0 (hA E)) (F0 m 35 ls [])) : ∀ (n : Nat) (v0_2 : Int64) (v2_2 : Int32) (w : Wd) (H : Heap) (locs : List Loc) (ls : Array Slot), HQ E K z w s H locs → lv_has ls 3 [(0, .long v0_2), (2, .int v2_2)] → f_X11_ofWord_L2 K k n v0_2 v2_2 w = some (r, w') → W p l e ({ frames := 0, cells := 0, slots := 0, locals := 0 } : Room) s m args below meth c H locs 0 0 (MQ below (QT E K z w' r) args s 0 0 (hA E)) (F0 m 2 ls []) := by
  obtain ⟨hx, hb, hml, hown, hts, hKs, hT, hb0, hlocks, hret⟩ := id C
  intro n
  induction n with
  | zero =>
    intro v0_2 v2_2 w H locs ls hH hl hf
    cases hf
  | succ n ih =>
    intro v0_2 v2_2 w H locs ls hH hl hf
    rw [f_X11_ofWord_L2] at hf
    refine lv_iload_n hx hb dX11_ofWord_2 rfl (lv_at hl 1 rfl) ?_
    refine hw_all hx hb hts hown hT hH m4_159 dX11_ofWord_3 ?_
    refine hw_alllen hx hb hT hH dX11_ofWord_6 ?_
    refine lv_icmp_ge (tgt := 35) hx hb dX11_ofWord_7 (by decide) (fun c2 => ?_) (fun c2 => ?_)
    · replace hf := (if_pos c2).symm.trans hf
      exact hk v0_2 v2_2 _ _ _ _ hH (lv_sub hl [0, 1] rfl) hf
    · replace hf := (if_neg c2).symm.trans hf
      refine hw_all hx hb hts hown hT hH m4_159 dX11_ofWord_10 ?_
      refine lv_iload_n hx hb dX11_ofWord_13 rfl (lv_at hl 1 rfl) ?_
      obtain ⟨j3, hj3, hf⟩ := bnd hf
      refine hw_allat hx hb hT hH hj3 dX11_ofWord_14 ?_
      refine hw_packed hx hb (ixa_lt hj3) hts hown hT hH m7_38 dX11_ofWord_15 ?_
      refine lv_lload_n hx hb dX11_ofWord_18 rfl (lv_at hl 0 rfl) ?_
      refine W.lcmp hx hb dX11_ofWord_19 ?_
      refine lv_if_ne (tgt := 29) hx hb dX11_ofWord_20 (by decide) (fun c4 => ?_) (fun c4 => ?_)
      · replace hf := (if_neg c4).symm.trans hf
        refine lv_iinc (v := (v2_2 + 1)) (lv' := [(2, .int ((v2_2 + 1))), (0, .long v0_2)]) hx hb dX11_ofWord_29 hl (k := 1) rfl rfl (by decide) rfl (fun ls hl => ?_)
        refine lv_goto (tgt := 2) hx hb dX11_ofWord_32 (by decide) ?_
        exact ih v0_2 (v2_2 + 1) _ _ _ _ hH (lv_sub hl [1, 0] rfl) hf
      · replace hf := (if_pos c4).symm.trans hf
        refine hw_all hx hb hts hown hT hH m4_159 dX11_ofWord_23 ?_
        refine lv_iload_n hx hb dX11_ofWord_26 rfl (lv_at hl 1 rfl) ?_
        obtain ⟨j5, hj5, hf⟩ := bnd hf
        refine hw_allat hx hb hT hH hj5 dX11_ofWord_27 ?_
        exact hw_tret hx hb hret (by simp) hf hH hlocks dX11_ofWord_28
set_option maxHeartbeats 4000000 in
set_option maxRecDepth 100000 in
theorem k_X11_ofWord (l : Launch) (E : Ev) (K : Kd) (z : Nat) (a_0 : Int64) (w : Wd) {r : Option Nat} {w' : Wd} (hf : f_X11_ofWord K a_0 w = some (r, w')) : Met l yX11_ofWord (Cond.code yX11_ofWord cX11_ofWord 3 (Option.some (Jvm.ClassFile.FieldType.object RX11)) :: bt) ({ frames := 0, cells := 0, slots := 0, locals := 0 } : Room) (va_Pc [.long a_0] (HB E K w z)) (QT E K z w' r) 0 0 (hA E) := by
  refine Met.ofW (cc := cX11_ofWord) (maxL := 3) (ret := (Option.some (Jvm.ClassFile.FieldType.object RX11))) (by decide) rfl ?_
  intro p e s m args below meth c s₁ B hml hv
  obtain ⟨rfl, hz, hP, hKs, hT, hb0⟩ := hv
  have C : CX p l e s m _ meth c cX11_ofWord 3 RX11 (Option.some (Jvm.ClassFile.FieldType.object RX11)) E := ⟨B.exec, B.bytes, hml, findClass_of_methodNamed B.named, fun w h => atoms_spec (ws := Cond.code yX11_ofWord cX11_ofWord 3 (Option.some (Jvm.ClassFile.FieldType.object RX11)) :: bt) B.pre w (List.mem_cons_of_mem _ h), hKs, hT, by rw [hz]; exact hb0, B.notSynchronized, B.returns⟩
  have hH : HQ E K z w s s.heap [] := ⟨hP, va_S.rf, hz⟩
  obtain ⟨hx, hb, hml, hown, hts, hKs, hT, hb0, hlocks, hret⟩ := id C
  have hl := lv_entry [.long a_0] (n := 3) (by simp [lg_len_nil, lg_len_i, lg_len_j, lg_len_q, lg_len_f, lg_len_d, lg_len_r])
  rw [lg_entry_eq]
  generalize (lg_sl [.long a_0] ++ List.replicate (3 - (lg_sl [.long a_0]).length) Slot.unset).toArray = ls at hl ⊢
  replace hl : lv_has ls 3 [(0, .long a_0)] := by simpa only [lv_args, cat_q, cat_i, cat_j, reduceIte, Nat.reduceEqDiff, Nat.reduceAdd, Nat.zero_add] using hl
  generalize s.heap = H at hH ⊢
  unfold f_X11_ofWord at hf
  refine lv_iconst (v := 0) hx hb dX11_ofWord_0 (by decide) ?_
  refine lv_istore_n (i := 2) (lv' := [(2, .int 0), (0, .long a_0)]) hx hb dX11_ofWord_1 rfl hl (by decide) rfl (fun ls hl => ?_)
  refine l_X11_ofWord_L2  C _ (fun v0_2 v2_2 w1 H locs ls hH hl hf => ?_) fu a_0 0 w _ _ _ hH (lv_sub hl [1, 0] rfl) hf
  refine hw_tok hx hb 16 (by decide) hts hown hT hH m4_161 dX11_ofWord_35 ?_
  exact hw_tret hx hb hret (by simp) hf hH hlocks dX11_ofWord_38
end
