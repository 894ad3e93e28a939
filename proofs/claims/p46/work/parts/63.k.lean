section
variable {p : Program} {l : Launch} {e : Env} {s : State} {m : MethodId} {args : Array Value} {below : List Frame} {meth : Method} {c : Code} {E : Ev} {K : Kd} {z : Nat}

theorem dJ4_append_bf812_0 : decode cJ4_append_bf812 0 = .ok (.aload_n 0, 1) := by decide +kernel
theorem dJ4_append_bf812_1 : decode cJ4_append_bf812 1 = .ok (.iload_n 1, 1) := by decide +kernel
theorem dJ4_append_bf812_2 : decode cJ4_append_bf812 2 = .ok (.invokespecial 53, 3) := by decide +kernel
theorem dJ4_append_bf812_5 : decode cJ4_append_bf812 5 = .ok (.pop, 1) := by decide +kernel
theorem dJ4_append_bf812_6 : decode cJ4_append_bf812 6 = .ok (.aload_n 0, 1) := by decide +kernel
theorem dJ4_append_bf812_7 : decode cJ4_append_bf812 7 = .ok (.areturn, 1) := by decide +kernel
theorem hd_J4_append_bf812 : yJ4_append_bf812.cls = RJ4 ∧ yJ4_append_bf812.cls ≠ "java/lang/invoke/MethodHandle" ∧ yJ4_append_bf812.cls ≠ "java/lang/invoke/VarHandle" ∧ (parseMethodDescriptor yJ4_append_bf812.desc).map (fun d => d.parameters.length) = some 1 := by decide +kernel
theorem hs_J4_append_bf812 : yJ4_append_bf812.cls ≠ "java/lang/invoke/MethodHandle" ∧ yJ4_append_bf812.cls ≠ "java/lang/invoke/VarHandle" ∧ (parseMethodDescriptor yJ4_append_bf812.desc).map (fun d => d.parameters.length) = some 1 := by decide +kernel
set_option maxHeartbeats 4000000 in
set_option maxRecDepth 100000 in
theorem k_J4_append_bf812 (l : Launch) (E : Ev) (K : Kd) (n : Nat) (o : Nat) (a_1 : Int32) (w : Wd) {K' : Kd} {n' : Nat} {r : Option Nat} {w' : Wd} (hf : f_J4_append_bf812 K n o a_1 w = some (K', n', r, w')) : Met l yJ4_append_bf812 (Cond.code yJ4_append_bf812 cJ4_append_bf812 2 (Option.some (Jvm.ClassFile.FieldType.object RJ4)) :: bt) ({ frames := 5, cells := 1, slots := 1200, locals := 127 } : Room) (va_Pc [rv E (some o), .int a_1] (HB E K w (E.2.1 + n))) (QR E K' (E.2.1 + n') w' r) 1 1200 (hA E) := by
  refine Met.ofW (cc := cJ4_append_bf812) (maxL := 2) (ret := (Option.some (Jvm.ClassFile.FieldType.object RJ4))) (by decide) rfl ?_
  intro p e s m args below meth c s₁ B hml hv
  obtain ⟨rfl, hz, hP, hKs, hT, hb0⟩ := hv
  have C : CX p l e s m _ meth c cJ4_append_bf812 2 RJ4 (Option.some (Jvm.ClassFile.FieldType.object RJ4)) E := ⟨B.exec, B.bytes, hml, findClass_of_methodNamed B.named, fun w h => atoms_spec (ws := Cond.code yJ4_append_bf812 cJ4_append_bf812 2 (Option.some (Jvm.ClassFile.FieldType.object RJ4)) :: bt) B.pre w (List.mem_cons_of_mem _ h), hKs, hT, by rw [hz]; exact hb0, B.notSynchronized, B.returns⟩
  have hH : HQ E K (E.2.1 + n) w s s.heap [] := ⟨hP, va_S.rf, hz⟩
  obtain ⟨hx, hb, hml, hown, hts, hKs, hT, hb0, hlocks, hret⟩ := id C
  have hl := lv_entry [rv E (some o), .int a_1] (n := 2) (by simp [lg_len_nil, lg_len_i, lg_len_j, lg_len_q, lg_len_f, lg_len_d, lg_len_r])
  rw [lg_entry_eq]
  generalize (lg_sl [rv E (some o), .int a_1] ++ List.replicate (2 - (lg_sl [rv E (some o), .int a_1]).length) Slot.unset).toArray = ls at hl ⊢
  replace hl : lv_has ls 2 [(0, rv E (some o)), (1, .int a_1)] := by simpa only [lv_args, cat_q, cat_i, cat_j, reduceIte, Nat.reduceEqDiff, Nat.reduceAdd, Nat.zero_add] using hl
  generalize s.heap = H at hH ⊢
  unfold f_J4_append_bf812 at hf
  refine hl_aload_n hx hb dJ4_append_bf812_0 rfl (lv_at hl 0 rfl) ?_
  refine lv_iload_n hx hb dJ4_append_bf812_1 rfl (lv_at hl 1 rfl) ?_
  obtain ⟨a1, ha1, hf⟩ := bnd hf
  replace ha1 := chk_some ha1
  obtain ⟨q2, hq2, hf⟩ := bnd hf
  refine hcAq hH (hrSU (As := [.int a_1]) (rest := []) ha1.1 (hKs.1.1 12 _ rfl).2 ⟨hx, hb, hml, hown, hts⟩ (k_J5_append_c97b9 l E K n a1 a_1 w  hq2) (va_cwSU _ hts (gSU m5_209 m7_18 m5_94 m5_210 m1_16 m5_211) rfl rfl rfl ⟨by decide, hs_J5_append_c97b9.2.2⟩ ⟨Nat.le_of_ble_eq_true rfl, Nat.le_of_ble_eq_true rfl⟩) ⟨HB.blind, hH.1.recv hKs ha1.2 rfl rfl, HB.preN hKs hT hb0 hH⟩ rfl hl.1 rfl rc0 dJ4_append_bf812_2 ⟨Nat.le_of_ble_eq_true rfl, Nat.le_of_ble_eq_true rfl⟩) (fun H locs hH => ?_)
  refine lv_pop hx hb dJ4_append_bf812_5 rv_cat ?_
  refine hl_aload_n hx hb dJ4_append_bf812_6 rfl (lv_at hl 0 rfl) ?_
  exact hw_aqret hx hb (Nat.le_of_ble_eq_true rfl) (Nat.le_of_ble_eq_true rfl) hret (by simp) hf hH hlocks dJ4_append_bf812_7

theorem dJ0_init_db425_0 : decode cJ0_init_db425 0 = .ok (.aload_n 0, 1) := by decide +kernel
theorem dJ0_init_db425_1 : decode cJ0_init_db425 1 = .ok (.invokespecial 1, 3) := by decide +kernel
theorem dJ0_init_db425_4 : decode cJ0_init_db425 4 = .ok (.aload_n 1, 1) := by decide +kernel
theorem dJ0_init_db425_5 : decode cJ0_init_db425 5 = .ok (.invokevirtual 552, 3) := by decide +kernel
theorem dJ0_init_db425_8 : decode cJ0_init_db425 8 = .ok (.astore_n 3, 1) := by decide +kernel
theorem dJ0_init_db425_9 : decode cJ0_init_db425 9 = .ok (.aload_n 1, 1) := by decide +kernel
theorem dJ0_init_db425_10 : decode cJ0_init_db425 10 = .ok (.invokevirtual 549, 3) := by decide +kernel
theorem dJ0_init_db425_13 : decode cJ0_init_db425 13 = .ok (.istore 4, 2) := by decide +kernel
theorem dJ0_init_db425_15 : decode cJ0_init_db425 15 = .ok (.aload_n 1, 1) := by decide +kernel
theorem dJ0_init_db425_16 : decode cJ0_init_db425 16 = .ok (.invokevirtual 1047, 3) := by decide +kernel
theorem dJ0_init_db425_19 : decode cJ0_init_db425 19 = .ok (.ifCond .eq 22, 3) := by decide +kernel
theorem dJ0_init_db425_22 : decode cJ0_init_db425 22 = .ok (.aload_n 0, 1) := by decide +kernel
theorem dJ0_init_db425_23 : decode cJ0_init_db425 23 = .ok (.iconst 0, 1) := by decide +kernel
theorem dJ0_init_db425_24 : decode cJ0_init_db425 24 = .ok (.putfield 15, 3) := by decide +kernel
theorem dJ0_init_db425_27 : decode cJ0_init_db425 27 = .ok (.aload_n 0, 1) := by decide +kernel
theorem dJ0_init_db425_28 : decode cJ0_init_db425 28 = .ok (.aload_n 3, 1) := by decide +kernel
theorem dJ0_init_db425_29 : decode cJ0_init_db425 29 = .ok (.iconst 0, 1) := by decide +kernel
theorem dJ0_init_db425_30 : decode cJ0_init_db425 30 = .ok (.iload 4, 2) := by decide +kernel
theorem dJ0_init_db425_32 : decode cJ0_init_db425 32 = .ok (.invokestatic 54, 3) := by decide +kernel
theorem dJ0_init_db425_35 : decode cJ0_init_db425 35 = .ok (.putfield 9, 3) := by decide +kernel
theorem dJ0_init_db425_38 : decode cJ0_init_db425 38 = .ok (.goto 59, 3) := by decide +kernel
theorem dJ0_init_db425_97 : decode cJ0_init_db425 97 = .ok (.return_, 1) := by decide +kernel
theorem hd_J0_init_db425 : yJ0_init_db425.cls = RJ0 ∧ yJ0_init_db425.cls ≠ "java/lang/invoke/MethodHandle" ∧ yJ0_init_db425.cls ≠ "java/lang/invoke/VarHandle" ∧ (parseMethodDescriptor yJ0_init_db425.desc).map (fun d => d.parameters.length) = some 2 := by decide +kernel
theorem hs_J0_init_db425 : yJ0_init_db425.cls ≠ "java/lang/invoke/MethodHandle" ∧ yJ0_init_db425.cls ≠ "java/lang/invoke/VarHandle" ∧ (parseMethodDescriptor yJ0_init_db425.desc).map (fun d => d.parameters.length) = some 2 := by decide +kernel
set_option maxHeartbeats 4000000 in
set_option maxRecDepth 100000 in
theorem k_J0_init_db425 (l : Launch) (E : Ev) (K : Kd) (n : Nat) (o : Nat) (a_1 : Option Nat) (a_2 : Option Nat) (w : Wd) {K' : Kd} {n' : Nat} {w' : Wd} (hf : f_J0_init_db425 K n o a_1 a_2 w = some (K', n', w')) : Met l yJ0_init_db425 (Cond.code yJ0_init_db425 cJ0_init_db425 5 (Option.none : Option Jvm.ClassFile.FieldType) :: bt) ({ frames := 3, cells := 1, slots := 1200, locals := 106 } : Room) (va_Pc [rv E (some o), rv E a_1, rv E a_2] (HB E K w (E.2.1 + n))) (QV E K' (E.2.1 + n') w') 1 1200 (hA E) := by
  refine Met.ofW (cc := cJ0_init_db425) (maxL := 5) (ret := (Option.none : Option Jvm.ClassFile.FieldType)) (by decide) rfl ?_
  intro p e s m args below meth c s₁ B hml hv
  have hn2 : meth.name = "<init>" := (name_of_methodNamed B.named B.method).1
  obtain ⟨rfl, hz, hP, hKs, hT, hb0⟩ := hv
  have C : CX p l e s m _ meth c cJ0_init_db425 5 RJ0 (Option.none : Option Jvm.ClassFile.FieldType) E := ⟨B.exec, B.bytes, hml, findClass_of_methodNamed B.named, fun w h => atoms_spec (ws := Cond.code yJ0_init_db425 cJ0_init_db425 5 (Option.none : Option Jvm.ClassFile.FieldType) :: bt) B.pre w (List.mem_cons_of_mem _ h), hKs, hT, by rw [hz]; exact hb0, B.notSynchronized, B.returns⟩
  have hH : HQ E K (E.2.1 + n) w s s.heap [] := ⟨hP, va_S.rf, hz⟩
  obtain ⟨hx, hb, hml, hown, hts, hKs, hT, hb0, hlocks, hret⟩ := id C
  have hl := lv_entry [rv E (some o), rv E a_1, rv E a_2] (n := 5) (by simp [lg_len_nil, lg_len_i, lg_len_j, lg_len_q, lg_len_f, lg_len_d, lg_len_r])
  rw [lg_entry_eq]
  generalize (lg_sl [rv E (some o), rv E a_1, rv E a_2] ++ List.replicate (5 - (lg_sl [rv E (some o), rv E a_1, rv E a_2]).length) Slot.unset).toArray = ls at hl ⊢
  replace hl : lv_has ls 5 [(0, rv E (some o)), (1, rv E a_1), (2, rv E a_2)] := by simpa only [lv_args, cat_q, cat_i, cat_j, reduceIte, Nat.reduceEqDiff, Nat.reduceAdd, Nat.zero_add] using hl
  generalize s.heap = H at hH ⊢
  unfold f_J0_init_db425 at hf
  refine hl_aload_n hx hb dJ0_init_db425_0 rfl (lv_at hl 0 rfl) ?_
  refine hw_obj hx hb hml hl.1 hown hts m6_15 m1_40 m1_41 dJ0_init_db425_1 (Nat.le_of_ble_eq_true rfl) (Nat.le_of_ble_eq_true rfl) ?_
  refine hl_aload_n hx hb dJ0_init_db425_4 rfl (lv_at hl 1 rfl) ?_
  obtain ⟨a1, ha1, hf⟩ := bnd hf
  replace ha1 := chk_some ha1
  obtain ⟨q2, hq2, hf⟩ := bnd hf
  refine hcG_q hH (hrU (As := []) (rest := []) ha1.1 ⟨hx, hb, hml, hown, hts⟩ (k_J5_getValue_6d5f1 l E K H.size a1 w ha1.2 hq2) (va_cwU _ hts (gU m6_16 m6_18 m6_17 m6_19 m1_16 m6_20) rfl rfl rfl rfl hs_J5_getValue_6d5f1 ⟨Nat.le_of_ble_eq_true rfl, Nat.le_of_ble_eq_true rfl⟩) ⟨HB.blind, hH.1.recv hKs ha1.2 rfl rfl, HB.pre hKs hT hb0 hH⟩ rfl hl.1 rfl rc0 dJ0_init_db425_5 ⟨Nat.le_of_ble_eq_true rfl, Nat.le_of_ble_eq_true rfl⟩) (fun H locs hH => ?_)
  refine hl_astore_n (i := 3) (lv' := [(3, rv E q2.1), (0, rv E (some o)), (1, rv E a_1), (2, rv E a_2)]) hx hb dJ0_init_db425_8 rfl hl (by decide) (by simp [List.filter_cons, cat_q, cat_i, cat_j, imax, imin]) (fun ls hl => ?_)
  refine hl_aload_n hx hb dJ0_init_db425_9 rfl (lv_at hl 2 rfl) ?_
  obtain ⟨q3, hq3, hf⟩ := bnd hf
  refine hcG_i hH (hrU (As := []) (rest := []) ha1.1 ⟨hx, hb, hml, hown, hts⟩ (k_J4_length_8abf5 l E K H.size a1 q2.2 ha1.2 hq3) (va_cwO (x := yJ5_length_8abf5) _ hts (gO m6_21 m6_23 m6_22 m6_25 m6_24 m1_17 m6_26) rfl rfl rfl m6_28 hs_J5_length_8abf5 ⟨Nat.le_of_ble_eq_true rfl, Nat.le_of_ble_eq_true rfl⟩) ⟨HB.blind, hH.1.recv hKs ha1.2 rfl rfl, HB.pre hKs hT hb0 hH⟩ rfl hl.1 rfl rc0 dJ0_init_db425_10 ⟨Nat.le_of_ble_eq_true rfl, Nat.le_of_ble_eq_true rfl⟩) (fun H locs hH => ?_)
  refine lv_istore (i := 4) (lv' := [(4, .int (q3.1)), (3, rv E q2.1), (0, rv E (some o)), (1, rv E a_1), (2, rv E a_2)]) hx hb dJ0_init_db425_13 hl (by decide) (by simp [List.filter_cons, cat_q, cat_i, cat_j, imax, imin]) (fun ls hl => ?_)
  refine hl_aload_n hx hb dJ0_init_db425_15 rfl (lv_at hl 3 rfl) ?_
  obtain ⟨q4, hq4, hf⟩ := bnd hf
  refine hcG_i hH (hrU (As := []) (rest := []) ha1.1 ⟨hx, hb, hml, hown, hts⟩ (k_J5_isLatin1_aae02 l E K H.size a1 q3.2 ha1.2 hq4) (va_cwU _ hts (gU m6_29 m5_138 m5_137 m5_139 m1_16 m5_140) rfl rfl rfl rfl hs_J5_isLatin1_aae02 ⟨Nat.le_of_ble_eq_true rfl, Nat.le_of_ble_eq_true rfl⟩) ⟨HB.blind, hH.1.recv hKs ha1.2 rfl rfl, HB.pre hKs hT hb0 hH⟩ rfl hl.1 rfl rc0 dJ0_init_db425_16 ⟨Nat.le_of_ble_eq_true rfl, Nat.le_of_ble_eq_true rfl⟩) (fun H locs hH => ?_)
  refine lv_if_eq (tgt := 41) hx hb dJ0_init_db425_19 (by decide) (fun c5 => ?_) (fun c5 => ?_)
  · replace hf := (if_pos c5).symm.trans hf
    cases hf
  · replace hf := (if_neg c5).symm.trans hf
    refine hl_aload_n hx hb dJ0_init_db425_22 rfl (lv_at hl 2 rfl) ?_
    refine lv_iconst (v := 0) hx hb dJ0_init_db425_23 (by decide) ?_
    obtain ⟨a6, ha6, hf⟩ := bnd hf
    replace ha6 := chk_some ha6
    obtain ⟨w7, hw7, hf⟩ := bnd hf
    replace hw7 := Option.some.inj hw7
    refine pf20_1 hx hb hts hown hKs hH ha6.1 ha6.2 hn2 m6_69 dJ0_init_db425_24 (fun H locs hH => ?_)
    rw [hw7] at hH
    refine hl_aload_n hx hb dJ0_init_db425_27 rfl (lv_at hl 2 rfl) ?_
    refine hl_aload_n hx hb dJ0_init_db425_28 rfl (lv_at hl 1 rfl) ?_
    refine lv_iconst (v := 0) hx hb dJ0_init_db425_29 (by decide) ?_
    refine lv_iload hx hb dJ0_init_db425_30 (lv_at hl 0 rfl) ?_
    obtain ⟨q8, hq8, hf⟩ := bnd hf
    refine hcAq hH (va_runS (As := [rv E q2.1, .int 0, .int (q3.1)]) (rest := [rv E (some o)]) ⟨hx, hb, hml, hown, hts⟩ (k_J7_copyOfRange_39247 l E K n q2.1 0 q3.1 w7  hq8) (va_cwS _ hts (gS m6_30 m6_31 m1_7 m6_32) rfl rfl rfl hs_J7_copyOfRange_39247 ⟨Nat.le_of_ble_eq_true rfl, Nat.le_of_ble_eq_true rfl⟩) ⟨HB.blind, HB.preN hKs hT hb0 hH⟩ rfl rfl hl.1 rfl (lv_room (rcV rc0)) dJ0_init_db425_32 ⟨Nat.le_of_ble_eq_true rfl, Nat.le_of_ble_eq_true rfl⟩) (fun H locs hH => ?_)
    obtain ⟨a9, ha9, hf⟩ := bnd hf
    replace ha9 := chk_some ha9
    obtain ⟨w10, hw10, hf⟩ := bnd hf
    replace hw10 := Option.some.inj hw10
    refine pf20_0 (v := q8.2.2.1) hx hb hts hown hKs hH ha9.1 ha9.2 hn2 m6_68 dJ0_init_db425_35 (fun H locs hH => ?_)
    rw [hw10] at hH
    refine lv_goto (tgt := 97) hx hb dJ0_init_db425_38 (by decide) ?_
    exact hw_aret hx hb (Nat.le_of_ble_eq_true rfl) (Nat.le_of_ble_eq_true rfl) hret hf hH hlocks dJ0_init_db425_97

theorem dJ0_init_81219_0 : decode cJ0_init_81219 0 = .ok (.aload_n 0, 1) := by decide +kernel
theorem dJ0_init_81219_1 : decode cJ0_init_81219 1 = .ok (.aload_n 1, 1) := by decide +kernel
theorem dJ0_init_81219_2 : decode cJ0_init_81219 2 = .ok (.aconst_null, 1) := by decide +kernel
theorem dJ0_init_81219_3 : decode cJ0_init_81219 3 = .ok (.invokespecial 489, 3) := by decide +kernel
theorem dJ0_init_81219_6 : decode cJ0_init_81219 6 = .ok (.return_, 1) := by decide +kernel
theorem hd_J0_init_81219 : yJ0_init_81219.cls = RJ0 ∧ yJ0_init_81219.cls ≠ "java/lang/invoke/MethodHandle" ∧ yJ0_init_81219.cls ≠ "java/lang/invoke/VarHandle" ∧ (parseMethodDescriptor yJ0_init_81219.desc).map (fun d => d.parameters.length) = some 1 := by decide +kernel
theorem hs_J0_init_81219 : yJ0_init_81219.cls ≠ "java/lang/invoke/MethodHandle" ∧ yJ0_init_81219.cls ≠ "java/lang/invoke/VarHandle" ∧ (parseMethodDescriptor yJ0_init_81219.desc).map (fun d => d.parameters.length) = some 1 := by decide +kernel
set_option maxHeartbeats 4000000 in
set_option maxRecDepth 100000 in
theorem k_J0_init_81219 (l : Launch) (E : Ev) (K : Kd) (n : Nat) (o : Nat) (a_1 : Option Nat) (w : Wd) {K' : Kd} {n' : Nat} {w' : Wd} (hf : f_J0_init_81219 K n o a_1 w = some (K', n', w')) : Met l yJ0_init_81219 (Cond.code yJ0_init_81219 cJ0_init_81219 2 (Option.none : Option Jvm.ClassFile.FieldType) :: bt) ({ frames := 4, cells := 1, slots := 1200, locals := 130 } : Room) (va_Pc [rv E (some o), rv E a_1] (HB E K w (E.2.1 + n))) (QV E K' (E.2.1 + n') w') 1 1200 (hA E) := by
  refine Met.ofW (cc := cJ0_init_81219) (maxL := 2) (ret := (Option.none : Option Jvm.ClassFile.FieldType)) (by decide) rfl ?_
  intro p e s m args below meth c s₁ B hml hv
  have hn2 : meth.name = "<init>" := (name_of_methodNamed B.named B.method).1
  obtain ⟨rfl, hz, hP, hKs, hT, hb0⟩ := hv
  have C : CX p l e s m _ meth c cJ0_init_81219 2 RJ0 (Option.none : Option Jvm.ClassFile.FieldType) E := ⟨B.exec, B.bytes, hml, findClass_of_methodNamed B.named, fun w h => atoms_spec (ws := Cond.code yJ0_init_81219 cJ0_init_81219 2 (Option.none : Option Jvm.ClassFile.FieldType) :: bt) B.pre w (List.mem_cons_of_mem _ h), hKs, hT, by rw [hz]; exact hb0, B.notSynchronized, B.returns⟩
  have hH : HQ E K (E.2.1 + n) w s s.heap [] := ⟨hP, va_S.rf, hz⟩
  obtain ⟨hx, hb, hml, hown, hts, hKs, hT, hb0, hlocks, hret⟩ := id C
  have hl := lv_entry [rv E (some o), rv E a_1] (n := 2) (by simp [lg_len_nil, lg_len_i, lg_len_j, lg_len_q, lg_len_f, lg_len_d, lg_len_r])
  rw [lg_entry_eq]
  generalize (lg_sl [rv E (some o), rv E a_1] ++ List.replicate (2 - (lg_sl [rv E (some o), rv E a_1]).length) Slot.unset).toArray = ls at hl ⊢
  replace hl : lv_has ls 2 [(0, rv E (some o)), (1, rv E a_1)] := by simpa only [lv_args, cat_q, cat_i, cat_j, reduceIte, Nat.reduceEqDiff, Nat.reduceAdd, Nat.zero_add] using hl
  generalize s.heap = H at hH ⊢
  unfold f_J0_init_81219 at hf
  refine hl_aload_n hx hb dJ0_init_81219_0 rfl (lv_at hl 0 rfl) ?_
  refine hl_aload_n hx hb dJ0_init_81219_1 rfl (lv_at hl 1 rfl) ?_
  refine lv_null hx hb dJ0_init_81219_2 ?_
  obtain ⟨q1, hq1, hf⟩ := bnd hf
  refine hcA hH (hrI (As := [rv E a_1, rv E none]) (rest := []) rfl ⟨hx, hb, hml, hown, hts⟩ (k_J0_init_db425 l E K n o a_1 none w  hq1) (cwI _ hts (gC m6_14) rfl rfl rfl (hts _ m1_18) (hts _ m6_12) (hts _ m6_13) rfl hs_J0_init_db425 ⟨Nat.le_of_ble_eq_true rfl, Nat.le_of_ble_eq_true rfl⟩) ⟨HB.blind, HB.preN hKs hT hb0 hH⟩ rfl hl.1 rfl rc0 dJ0_init_81219_3 ⟨Nat.le_of_ble_eq_true rfl, Nat.le_of_ble_eq_true rfl⟩) (fun H locs hH => ?_)
  exact hw_aret hx hb (Nat.le_of_ble_eq_true rfl) (Nat.le_of_ble_eq_true rfl) hret hf hH hlocks dJ0_init_81219_6

theorem dJ4_toString_0e30d_0 : decode cJ4_toString_0e30d 0 = .ok (.new 18, 3) := by decide +kernel
theorem dJ4_toString_0e30d_3 : decode cJ4_toString_0e30d 3 = .ok (.dup, 1) := by decide +kernel
theorem dJ4_toString_0e30d_4 : decode cJ4_toString_0e30d 4 = .ok (.aload_n 0, 1) := by decide +kernel
theorem dJ4_toString_0e30d_5 : decode cJ4_toString_0e30d 5 = .ok (.invokespecial 137, 3) := by decide +kernel
theorem dJ4_toString_0e30d_8 : decode cJ4_toString_0e30d 8 = .ok (.areturn, 1) := by decide +kernel
theorem hd_J4_toString_0e30d : yJ4_toString_0e30d.cls = RJ4 ∧ yJ4_toString_0e30d.cls ≠ "java/lang/invoke/MethodHandle" ∧ yJ4_toString_0e30d.cls ≠ "java/lang/invoke/VarHandle" ∧ (parseMethodDescriptor yJ4_toString_0e30d.desc).map (fun d => d.parameters.length) = some 0 := by decide +kernel
theorem hs_J4_toString_0e30d : yJ4_toString_0e30d.cls ≠ "java/lang/invoke/MethodHandle" ∧ yJ4_toString_0e30d.cls ≠ "java/lang/invoke/VarHandle" ∧ (parseMethodDescriptor yJ4_toString_0e30d.desc).map (fun d => d.parameters.length) = some 0 := by decide +kernel
set_option maxHeartbeats 4000000 in
set_option maxRecDepth 100000 in
theorem k_J4_toString_0e30d (l : Launch) (E : Ev) (K : Kd) (n : Nat) (o : Nat) (w : Wd) {K' : Kd} {n' : Nat} {r : Option Nat} {w' : Wd} (hf : f_J4_toString_0e30d K n o w = some (K', n', r, w')) : Met l yJ4_toString_0e30d (Cond.code yJ4_toString_0e30d cJ4_toString_0e30d 1 (Option.some (Jvm.ClassFile.FieldType.object RJ0)) :: bt) ({ frames := 5, cells := 2, slots := 1204, locals := 151 } : Room) (va_Pc [rv E (some o)] (HB E K w (E.2.1 + n))) (QR E K' (E.2.1 + n') w' r) 2 1204 (hA E) := by
  refine Met.ofW (cc := cJ4_toString_0e30d) (maxL := 1) (ret := (Option.some (Jvm.ClassFile.FieldType.object RJ0))) (by decide) rfl ?_
  intro p e s m args below meth c s₁ B hml hv
  obtain ⟨rfl, hz, hP, hKs, hT, hb0⟩ := hv
  have C : CX p l e s m _ meth c cJ4_toString_0e30d 1 RJ4 (Option.some (Jvm.ClassFile.FieldType.object RJ0)) E := ⟨B.exec, B.bytes, hml, findClass_of_methodNamed B.named, fun w h => atoms_spec (ws := Cond.code yJ4_toString_0e30d cJ4_toString_0e30d 1 (Option.some (Jvm.ClassFile.FieldType.object RJ0)) :: bt) B.pre w (List.mem_cons_of_mem _ h), hKs, hT, by rw [hz]; exact hb0, B.notSynchronized, B.returns⟩
  have hH : HQ E K (E.2.1 + n) w s s.heap [] := ⟨hP, va_S.rf, hz⟩
  obtain ⟨hx, hb, hml, hown, hts, hKs, hT, hb0, hlocks, hret⟩ := id C
  have hl := lv_entry [rv E (some o)] (n := 1) (by simp [lg_len_nil, lg_len_i, lg_len_j, lg_len_q, lg_len_f, lg_len_d, lg_len_r])
  rw [lg_entry_eq]
  generalize (lg_sl [rv E (some o)] ++ List.replicate (1 - (lg_sl [rv E (some o)]).length) Slot.unset).toArray = ls at hl ⊢
  replace hl : lv_has ls 1 [(0, rv E (some o))] := by simpa only [lv_args, cat_q, cat_i, cat_j, reduceIte, Nat.reduceEqDiff, Nat.reduceAdd, Nat.zero_add] using hl
  generalize s.heap = H at hH ⊢
  unfold f_J4_toString_0e30d at hf
  refine hw_new (ci := 11) (C := RJ0) (T := TX20) (N := 4) hx hb hts iX20 tyX20 tyX20_ok hown m6_7 (hts _ m6_8) m1_18 hKs hb0 hH rfl rfl (fun j hj => dfX20 j hj) (Nat.le_of_ble_eq_true rfl) (Nat.le_of_ble_eq_true rfl) dJ4_toString_0e30d_0 (fun H hH => ?_)
  obtain ⟨K1, hK1, hf⟩ := bnd hf
  replace hK1 := Option.some.inj hK1
  obtain ⟨w2, hw2, hf⟩ := bnd hf
  replace hw2 := Option.some.inj hw2
  rw [hK1, hw2] at hH
  refine lv_dup hx hb dJ4_toString_0e30d_3 rv_cat ?_
  refine hl_aload_n hx hb dJ4_toString_0e30d_4 rfl (lv_at hl 0 rfl) ?_
  obtain ⟨q3, hq3, hf⟩ := bnd hf
  refine hcA hH (hrI (As := [rv E (some o)]) (rest := [rv E (some n)]) rfl ⟨hx, hb, hml, hown, hts⟩ (k_J0_init_81219 l E K1 (n + 1) n (some o) w2  hq3) (cwI _ hts (gC m6_11) rfl rfl rfl (hts _ m1_18) (hts _ m6_9) (hts _ m6_10) rfl hs_J0_init_81219 ⟨Nat.le_of_ble_eq_true rfl, Nat.le_of_ble_eq_true rfl⟩) ⟨HB.blind, HB.preN hKs hT hb0 hH⟩ rfl hl.1 rfl (rcV rc0) dJ4_toString_0e30d_5 ⟨Nat.le_of_ble_eq_true rfl, Nat.le_of_ble_eq_true rfl⟩) (fun H locs hH => ?_)
  exact hw_aqret hx hb (Nat.le_of_ble_eq_true rfl) (Nat.le_of_ble_eq_true rfl) hret (by simp) hf hH hlocks dJ4_toString_0e30d_8

theorem dNX12_requireDay_0 : decode cX12_requireDay 0 = .ok (.iload_n 1, 1) := by decide +kernel
theorem dNX12_requireDay_1 : decode cX12_requireDay 1 = .ok (.ifCond .lt 10, 3) := by decide +kernel
theorem dNX12_requireDay_4 : decode cX12_requireDay 4 = .ok (.iload_n 1, 1) := by decide +kernel
theorem dNX12_requireDay_5 : decode cX12_requireDay 5 = .ok (.sipush 600, 3) := by decide +kernel
theorem dNX12_requireDay_8 : decode cX12_requireDay 8 = .ok (.if_icmp .lt 11, 3) := by decide +kernel
theorem dNX12_requireDay_19 : decode cX12_requireDay 19 = .ok (.return_, 1) := by decide +kernel
theorem hd_NX12_requireDay : yX12_requireDay.cls = RX12 ∧ yX12_requireDay.cls ≠ "java/lang/invoke/MethodHandle" ∧ yX12_requireDay.cls ≠ "java/lang/invoke/VarHandle" ∧ (parseMethodDescriptor yX12_requireDay.desc).map (fun d => d.parameters.length) = some 1 := by decide +kernel
theorem hs_NX12_requireDay : yX12_requireDay.cls ≠ "java/lang/invoke/MethodHandle" ∧ yX12_requireDay.cls ≠ "java/lang/invoke/VarHandle" ∧ (parseMethodDescriptor yX12_requireDay.desc).map (fun d => d.parameters.length) = some 1 := by decide +kernel
set_option maxHeartbeats 4000000 in
set_option maxRecDepth 100000 in
theorem k_NX12_requireDay (l : Launch) (E : Ev) (K : Kd) (z : Nat) (o : Nat) (a_1 : Int32) (w : Wd) (ho : K o = some (10, 0)) {w' : Wd} (hf : f_NX12_requireDay K o a_1 w = some w') : Met l yX12_requireDay (Cond.code yX12_requireDay cX12_requireDay 2 (Option.none : Option Jvm.ClassFile.FieldType) :: bt) ({ frames := 0, cells := 0, slots := 0, locals := 0 } : Room) (va_Pc [rv E (some o), .int a_1] (HB E K w z)) (QV E K z w') 0 0 (hA E) := by
  refine Met.ofW (cc := cX12_requireDay) (maxL := 2) (ret := (Option.none : Option Jvm.ClassFile.FieldType)) (by decide) rfl ?_
  intro p e s m args below meth c s₁ B hml hv
  obtain ⟨rfl, hz, hP, hKs, hT, hb0⟩ := hv
  have C : CX p l e s m _ meth c cX12_requireDay 2 RX12 (Option.none : Option Jvm.ClassFile.FieldType) E := ⟨B.exec, B.bytes, hml, findClass_of_methodNamed B.named, fun w h => atoms_spec (ws := Cond.code yX12_requireDay cX12_requireDay 2 (Option.none : Option Jvm.ClassFile.FieldType) :: bt) B.pre w (List.mem_cons_of_mem _ h), hKs, hT, by rw [hz]; exact hb0, B.notSynchronized, B.returns⟩
  have hH : HQ E K z w s s.heap [] := ⟨hP, va_S.rf, hz⟩
  obtain ⟨hx, hb, hml, hown, hts, hKs, hT, hb0, hlocks, hret⟩ := id C
  have hl := lv_entry [rv E (some o), .int a_1] (n := 2) (by simp [lg_len_nil, lg_len_i, lg_len_j, lg_len_q, lg_len_f, lg_len_d, lg_len_r])
  rw [lg_entry_eq]
  generalize (lg_sl [rv E (some o), .int a_1] ++ List.replicate (2 - (lg_sl [rv E (some o), .int a_1]).length) Slot.unset).toArray = ls at hl ⊢
  replace hl : lv_has ls 2 [(0, rv E (some o)), (1, .int a_1)] := by simpa only [lv_args, cat_q, cat_i, cat_j, reduceIte, Nat.reduceEqDiff, Nat.reduceAdd, Nat.zero_add] using hl
  generalize s.heap = H at hH ⊢
  unfold f_NX12_requireDay at hf
  refine lv_iload_n hx hb dNX12_requireDay_0 rfl (lv_at hl 1 rfl) ?_
  refine lv_if_lt (tgt := 11) hx hb dNX12_requireDay_1 (by decide) (fun c1 => ?_) (fun c1 => ?_)
  · replace hf := (if_pos c1).symm.trans hf
    cases hf
  · replace hf := (if_neg c1).symm.trans hf
    refine lv_iload_n hx hb dNX12_requireDay_4 rfl (lv_at hl 1 rfl) ?_
    refine lv_sipush (v := 600) hx hb dNX12_requireDay_5 (by decide) ?_
    refine lv_icmp_lt (tgt := 19) hx hb dNX12_requireDay_8 (by decide) (fun c2 => ?_) (fun c2 => ?_)
    · replace hf := (if_pos c2).symm.trans hf
      exact hw_vret hx hb hret hf hH hlocks dNX12_requireDay_19
    · replace hf := (if_neg c2).symm.trans hf
      cases hf

theorem dNX12_requireExisting_0 : decode cX12_requireExisting 0 = .ok (.iload_n 2, 1) := by decide +kernel
theorem dNX12_requireExisting_1 : decode cX12_requireExisting 1 = .ok (.ifCond .lt 18, 3) := by decide +kernel
theorem dNX12_requireExisting_4 : decode cX12_requireExisting 4 = .ok (.iload_n 2, 1) := by decide +kernel
theorem dNX12_requireExisting_5 : decode cX12_requireExisting 5 = .ok (.aload_n 0, 1) := by decide +kernel
theorem dNX12_requireExisting_6 : decode cX12_requireExisting 6 = .ok (.getfield 35, 3) := by decide +kernel
theorem dNX12_requireExisting_9 : decode cX12_requireExisting 9 = .ok (.getfield 87, 3) := by decide +kernel
theorem dNX12_requireExisting_12 : decode cX12_requireExisting 12 = .ok (.iload_n 1, 1) := by decide +kernel
theorem dNX12_requireExisting_13 : decode cX12_requireExisting 13 = .ok (.invokevirtual 105, 3) := by decide +kernel
theorem dNX12_requireExisting_16 : decode cX12_requireExisting 16 = .ok (.if_icmp .lt 11, 3) := by decide +kernel
theorem dNX12_requireExisting_27 : decode cX12_requireExisting 27 = .ok (.return_, 1) := by decide +kernel
theorem hd_NX12_requireExisting : yX12_requireExisting.cls = RX12 ∧ yX12_requireExisting.cls ≠ "java/lang/invoke/MethodHandle" ∧ yX12_requireExisting.cls ≠ "java/lang/invoke/VarHandle" ∧ (parseMethodDescriptor yX12_requireExisting.desc).map (fun d => d.parameters.length) = some 2 := by decide +kernel
theorem hs_NX12_requireExisting : yX12_requireExisting.cls ≠ "java/lang/invoke/MethodHandle" ∧ yX12_requireExisting.cls ≠ "java/lang/invoke/VarHandle" ∧ (parseMethodDescriptor yX12_requireExisting.desc).map (fun d => d.parameters.length) = some 2 := by decide +kernel
set_option maxHeartbeats 4000000 in
set_option maxRecDepth 100000 in
theorem k_NX12_requireExisting (l : Launch) (E : Ev) (K : Kd) (z : Nat) (o : Nat) (a_1 : Int32) (a_2 : Int32) (w : Wd) (ho : K o = some (10, 0)) {w' : Wd} (hf : f_NX12_requireExisting K o a_1 a_2 w = some w') : Met l yX12_requireExisting (Cond.code yX12_requireExisting cX12_requireExisting 3 (Option.none : Option Jvm.ClassFile.FieldType) :: bt) ({ frames := 1, cells := 0, slots := 0, locals := 21 } : Room) (va_Pc [rv E (some o), .int a_1, .int a_2] (HB E K w z)) (QV E K z w') 0 0 (hA E) := by
  refine Met.ofW (cc := cX12_requireExisting) (maxL := 3) (ret := (Option.none : Option Jvm.ClassFile.FieldType)) (by decide) rfl ?_
  intro p e s m args below meth c s₁ B hml hv
  obtain ⟨rfl, hz, hP, hKs, hT, hb0⟩ := hv
  have C : CX p l e s m _ meth c cX12_requireExisting 3 RX12 (Option.none : Option Jvm.ClassFile.FieldType) E := ⟨B.exec, B.bytes, hml, findClass_of_methodNamed B.named, fun w h => atoms_spec (ws := Cond.code yX12_requireExisting cX12_requireExisting 3 (Option.none : Option Jvm.ClassFile.FieldType) :: bt) B.pre w (List.mem_cons_of_mem _ h), hKs, hT, by rw [hz]; exact hb0, B.notSynchronized, B.returns⟩
  have hH : HQ E K z w s s.heap [] := ⟨hP, va_S.rf, hz⟩
  obtain ⟨hx, hb, hml, hown, hts, hKs, hT, hb0, hlocks, hret⟩ := id C
  have hl := lv_entry [rv E (some o), .int a_1, .int a_2] (n := 3) (by simp [lg_len_nil, lg_len_i, lg_len_j, lg_len_q, lg_len_f, lg_len_d, lg_len_r])
  rw [lg_entry_eq]
  generalize (lg_sl [rv E (some o), .int a_1, .int a_2] ++ List.replicate (3 - (lg_sl [rv E (some o), .int a_1, .int a_2]).length) Slot.unset).toArray = ls at hl ⊢
  replace hl : lv_has ls 3 [(0, rv E (some o)), (1, .int a_1), (2, .int a_2)] := by simpa only [lv_args, cat_q, cat_i, cat_j, reduceIte, Nat.reduceEqDiff, Nat.reduceAdd, Nat.zero_add] using hl
  generalize s.heap = H at hH ⊢
  unfold f_NX12_requireExisting at hf
  refine lv_iload_n hx hb dNX12_requireExisting_0 rfl (lv_at hl 2 rfl) ?_
  refine lv_if_lt (tgt := 19) hx hb dNX12_requireExisting_1 (by decide) (fun c1 => ?_) (fun c1 => ?_)
  · replace hf := (if_pos c1).symm.trans hf
    cases hf
  · replace hf := (if_neg c1).symm.trans hf
    refine lv_iload_n hx hb dNX12_requireExisting_4 rfl (lv_at hl 2 rfl) ?_
    refine hl_aload_n hx hb dNX12_requireExisting_5 rfl (lv_at hl 0 rfl) ?_
    refine g12_5 hx hb hts hown hKs hH rfl ho m2_214 dNX12_requireExisting_6 ?_
    obtain ⟨a2, ha2, hf⟩ := bnd hf
    replace ha2 := chk_some ha2
    refine gn10_0 hx hb hts hown hKs hH ha2.1 ha2.2 m2_115 dNX12_requireExisting_9 ?_
    refine lv_iload_n hx hb dNX12_requireExisting_12 rfl (lv_at hl 1 rfl) ?_
    obtain ⟨a3, ha3, hf⟩ := bnd hf
    replace ha3 := chk_some ha3
    obtain ⟨q4, hq4, hf⟩ := bnd hf
    refine hcV_i hx hb hml hown hts hKs hT hb0 hH (As := [.int a_1]) (rest := [.int a_2]) (k_X9_size l E K H.size a3 a_1 w ha3.2 hq4) (gV m3_21 m3_22 m3_23 m1_2 m3_24) hd_X9_size ⟨Nat.le_of_ble_eq_true rfl, Nat.le_of_ble_eq_true rfl, rfl, rfl⟩ ha3.1 ha3.2 rfl rfl rfl hl.1 rfl (rcI rc0) rfl dNX12_requireExisting_13 ⟨Nat.zero_le _, Nat.zero_le _⟩ (fun H locs hH => ?_)
    refine lv_icmp_lt (tgt := 27) hx hb dNX12_requireExisting_16 (by decide) (fun c5 => ?_) (fun c5 => ?_)
    · replace hf := (if_pos c5).symm.trans hf
      exact hw_vret hx hb hret hf hH hlocks dNX12_requireExisting_27
    · replace hf := (if_neg c5).symm.trans hf
      cases hf

theorem dNX12_requirePassable_0 : decode cX12_requirePassable 0 = .ok (.iload_n 1, 1) := by decide +kernel
theorem dNX12_requirePassable_1 : decode cX12_requirePassable 1 = .ok (.iconst 1, 1) := by decide +kernel
theorem dNX12_requirePassable_2 : decode cX12_requirePassable 2 = .ok (.if_icmp .lt 24, 3) := by decide +kernel
theorem dNX12_requirePassable_5 : decode cX12_requirePassable 5 = .ok (.iload_n 1, 1) := by decide +kernel
theorem dNX12_requirePassable_6 : decode cX12_requirePassable 6 = .ok (.bipush 99, 2) := by decide +kernel
theorem dNX12_requirePassable_8 : decode cX12_requirePassable 8 = .ok (.if_icmp .gt 18, 3) := by decide +kernel
theorem dNX12_requirePassable_11 : decode cX12_requirePassable 11 = .ok (.aload_n 0, 1) := by decide +kernel
theorem dNX12_requirePassable_12 : decode cX12_requirePassable 12 = .ok (.getfield 35, 3) := by decide +kernel
theorem dNX12_requirePassable_15 : decode cX12_requirePassable 15 = .ok (.getfield 124, 3) := by decide +kernel
theorem dNX12_requirePassable_18 : decode cX12_requirePassable 18 = .ok (.iload_n 1, 1) := by decide +kernel
theorem dNX12_requirePassable_19 : decode cX12_requirePassable 19 = .ok (.iadd, 1) := by decide +kernel
theorem dNX12_requirePassable_20 : decode cX12_requirePassable 20 = .ok (.sipush 600, 3) := by decide +kernel
theorem dNX12_requirePassable_23 : decode cX12_requirePassable 23 = .ok (.if_icmp .lt 11, 3) := by decide +kernel
theorem dNX12_requirePassable_34 : decode cX12_requirePassable 34 = .ok (.return_, 1) := by decide +kernel
theorem hd_NX12_requirePassable : yX12_requirePassable.cls = RX12 ∧ yX12_requirePassable.cls ≠ "java/lang/invoke/MethodHandle" ∧ yX12_requirePassable.cls ≠ "java/lang/invoke/VarHandle" ∧ (parseMethodDescriptor yX12_requirePassable.desc).map (fun d => d.parameters.length) = some 1 := by decide +kernel
theorem hs_NX12_requirePassable : yX12_requirePassable.cls ≠ "java/lang/invoke/MethodHandle" ∧ yX12_requirePassable.cls ≠ "java/lang/invoke/VarHandle" ∧ (parseMethodDescriptor yX12_requirePassable.desc).map (fun d => d.parameters.length) = some 1 := by decide +kernel
set_option maxHeartbeats 4000000 in
set_option maxRecDepth 100000 in
theorem k_NX12_requirePassable (l : Launch) (E : Ev) (K : Kd) (z : Nat) (o : Nat) (a_1 : Int32) (w : Wd) (ho : K o = some (10, 0)) {w' : Wd} (hf : f_NX12_requirePassable K o a_1 w = some w') : Met l yX12_requirePassable (Cond.code yX12_requirePassable cX12_requirePassable 2 (Option.none : Option Jvm.ClassFile.FieldType) :: bt) ({ frames := 0, cells := 0, slots := 0, locals := 0 } : Room) (va_Pc [rv E (some o), .int a_1] (HB E K w z)) (QV E K z w') 0 0 (hA E) := by
  refine Met.ofW (cc := cX12_requirePassable) (maxL := 2) (ret := (Option.none : Option Jvm.ClassFile.FieldType)) (by decide) rfl ?_
  intro p e s m args below meth c s₁ B hml hv
  obtain ⟨rfl, hz, hP, hKs, hT, hb0⟩ := hv
  have C : CX p l e s m _ meth c cX12_requirePassable 2 RX12 (Option.none : Option Jvm.ClassFile.FieldType) E := ⟨B.exec, B.bytes, hml, findClass_of_methodNamed B.named, fun w h => atoms_spec (ws := Cond.code yX12_requirePassable cX12_requirePassable 2 (Option.none : Option Jvm.ClassFile.FieldType) :: bt) B.pre w (List.mem_cons_of_mem _ h), hKs, hT, by rw [hz]; exact hb0, B.notSynchronized, B.returns⟩
  have hH : HQ E K z w s s.heap [] := ⟨hP, va_S.rf, hz⟩
  obtain ⟨hx, hb, hml, hown, hts, hKs, hT, hb0, hlocks, hret⟩ := id C
  have hl := lv_entry [rv E (some o), .int a_1] (n := 2) (by simp [lg_len_nil, lg_len_i, lg_len_j, lg_len_q, lg_len_f, lg_len_d, lg_len_r])
  rw [lg_entry_eq]
  generalize (lg_sl [rv E (some o), .int a_1] ++ List.replicate (2 - (lg_sl [rv E (some o), .int a_1]).length) Slot.unset).toArray = ls at hl ⊢
  replace hl : lv_has ls 2 [(0, rv E (some o)), (1, .int a_1)] := by simpa only [lv_args, cat_q, cat_i, cat_j, reduceIte, Nat.reduceEqDiff, Nat.reduceAdd, Nat.zero_add] using hl
  generalize s.heap = H at hH ⊢
  unfold f_NX12_requirePassable at hf
  refine lv_iload_n hx hb dNX12_requirePassable_0 rfl (lv_at hl 1 rfl) ?_
  refine lv_iconst (v := 1) hx hb dNX12_requirePassable_1 (by decide) ?_
  refine lv_icmp_lt (tgt := 26) hx hb dNX12_requirePassable_2 (by decide) (fun c1 => ?_) (fun c1 => ?_)
  · replace hf := (if_pos c1).symm.trans hf
    cases hf
  · replace hf := (if_neg c1).symm.trans hf
    refine lv_iload_n hx hb dNX12_requirePassable_5 rfl (lv_at hl 1 rfl) ?_
    refine lv_bipush (v := 99) hx hb dNX12_requirePassable_6 (by decide) ?_
    refine lv_icmp_gt (tgt := 26) hx hb dNX12_requirePassable_8 (by decide) (fun c2 => ?_) (fun c2 => ?_)
    · replace hf := (if_pos c2).symm.trans hf
      cases hf
    · replace hf := (if_neg c2).symm.trans hf
      refine hl_aload_n hx hb dNX12_requirePassable_11 rfl (lv_at hl 0 rfl) ?_
      refine g12_5 hx hb hts hown hKs hH rfl ho m2_214 dNX12_requirePassable_12 ?_
      obtain ⟨a3, ha3, hf⟩ := bnd hf
      replace ha3 := chk_some ha3
      refine gn10_1 hx hb hts hown hKs hH ha3.1 ha3.2 m2_118 dNX12_requirePassable_15 ?_
      refine lv_iload_n hx hb dNX12_requirePassable_18 rfl (lv_at hl 1 rfl) ?_
      refine lv_iadd hx hb dNX12_requirePassable_19 ?_
      refine lv_sipush (v := 600) hx hb dNX12_requirePassable_20 (by decide) ?_
      refine lv_icmp_lt (tgt := 34) hx hb dNX12_requirePassable_23 (by decide) (fun c4 => ?_) (fun c4 => ?_)
      · replace hf := (if_pos c4).symm.trans hf
        exact hw_vret hx hb hret hf hH hlocks dNX12_requirePassable_34
      · replace hf := (if_neg c4).symm.trans hf
        cases hf

theorem dNX12_requireSlot_0 : decode cX12_requireSlot 0 = .ok (.iload_n 1, 1) := by decide +kernel
theorem dNX12_requireSlot_1 : decode cX12_requireSlot 1 = .ok (.ifCond .lt 9, 3) := by decide +kernel
theorem dNX12_requireSlot_4 : decode cX12_requireSlot 4 = .ok (.iload_n 1, 1) := by decide +kernel
theorem dNX12_requireSlot_5 : decode cX12_requireSlot 5 = .ok (.bipush 8, 2) := by decide +kernel
theorem dNX12_requireSlot_7 : decode cX12_requireSlot 7 = .ok (.if_icmp .lt 11, 3) := by decide +kernel
theorem dNX12_requireSlot_18 : decode cX12_requireSlot 18 = .ok (.return_, 1) := by decide +kernel
theorem hd_NX12_requireSlot : yX12_requireSlot.cls = RX12 ∧ yX12_requireSlot.cls ≠ "java/lang/invoke/MethodHandle" ∧ yX12_requireSlot.cls ≠ "java/lang/invoke/VarHandle" ∧ (parseMethodDescriptor yX12_requireSlot.desc).map (fun d => d.parameters.length) = some 1 := by decide +kernel
theorem hs_NX12_requireSlot : yX12_requireSlot.cls ≠ "java/lang/invoke/MethodHandle" ∧ yX12_requireSlot.cls ≠ "java/lang/invoke/VarHandle" ∧ (parseMethodDescriptor yX12_requireSlot.desc).map (fun d => d.parameters.length) = some 1 := by decide +kernel
set_option maxHeartbeats 4000000 in
set_option maxRecDepth 100000 in
theorem k_NX12_requireSlot (l : Launch) (E : Ev) (K : Kd) (z : Nat) (o : Nat) (a_1 : Int32) (w : Wd) (ho : K o = some (10, 0)) {w' : Wd} (hf : f_NX12_requireSlot K o a_1 w = some w') : Met l yX12_requireSlot (Cond.code yX12_requireSlot cX12_requireSlot 2 (Option.none : Option Jvm.ClassFile.FieldType) :: bt) ({ frames := 0, cells := 0, slots := 0, locals := 0 } : Room) (va_Pc [rv E (some o), .int a_1] (HB E K w z)) (QV E K z w') 0 0 (hA E) := by
  refine Met.ofW (cc := cX12_requireSlot) (maxL := 2) (ret := (Option.none : Option Jvm.ClassFile.FieldType)) (by decide) rfl ?_
  intro p e s m args below meth c s₁ B hml hv
  obtain ⟨rfl, hz, hP, hKs, hT, hb0⟩ := hv
  have C : CX p l e s m _ meth c cX12_requireSlot 2 RX12 (Option.none : Option Jvm.ClassFile.FieldType) E := ⟨B.exec, B.bytes, hml, findClass_of_methodNamed B.named, fun w h => atoms_spec (ws := Cond.code yX12_requireSlot cX12_requireSlot 2 (Option.none : Option Jvm.ClassFile.FieldType) :: bt) B.pre w (List.mem_cons_of_mem _ h), hKs, hT, by rw [hz]; exact hb0, B.notSynchronized, B.returns⟩
  have hH : HQ E K z w s s.heap [] := ⟨hP, va_S.rf, hz⟩
  obtain ⟨hx, hb, hml, hown, hts, hKs, hT, hb0, hlocks, hret⟩ := id C
  have hl := lv_entry [rv E (some o), .int a_1] (n := 2) (by simp [lg_len_nil, lg_len_i, lg_len_j, lg_len_q, lg_len_f, lg_len_d, lg_len_r])
  rw [lg_entry_eq]
  generalize (lg_sl [rv E (some o), .int a_1] ++ List.replicate (2 - (lg_sl [rv E (some o), .int a_1]).length) Slot.unset).toArray = ls at hl ⊢
  replace hl : lv_has ls 2 [(0, rv E (some o)), (1, .int a_1)] := by simpa only [lv_args, cat_q, cat_i, cat_j, reduceIte, Nat.reduceEqDiff, Nat.reduceAdd, Nat.zero_add] using hl
  generalize s.heap = H at hH ⊢
  unfold f_NX12_requireSlot at hf
  refine lv_iload_n hx hb dNX12_requireSlot_0 rfl (lv_at hl 1 rfl) ?_
  refine lv_if_lt (tgt := 10) hx hb dNX12_requireSlot_1 (by decide) (fun c1 => ?_) (fun c1 => ?_)
  · replace hf := (if_pos c1).symm.trans hf
    cases hf
  · replace hf := (if_neg c1).symm.trans hf
    refine lv_iload_n hx hb dNX12_requireSlot_4 rfl (lv_at hl 1 rfl) ?_
    refine lv_bipush (v := 8) hx hb dNX12_requireSlot_5 (by decide) ?_
    refine lv_icmp_lt (tgt := 18) hx hb dNX12_requireSlot_7 (by decide) (fun c2 => ?_) (fun c2 => ?_)
    · replace hf := (if_pos c2).symm.trans hf
      exact hw_vret hx hb hret hf hH hlocks dNX12_requireSlot_18
    · replace hf := (if_neg c2).symm.trans hf
      cases hf

theorem dNX12_requireUnfinished_0 : decode cX12_requireUnfinished 0 = .ok (.aload_n 0, 1) := by decide +kernel
theorem dNX12_requireUnfinished_1 : decode cX12_requireUnfinished 1 = .ok (.getfield 35, 3) := by decide +kernel
theorem dNX12_requireUnfinished_4 : decode cX12_requireUnfinished 4 = .ok (.getfield 213, 3) := by decide +kernel
theorem dNX12_requireUnfinished_7 : decode cX12_requireUnfinished 7 = .ok (.iload_n 1, 1) := by decide +kernel
theorem dNX12_requireUnfinished_8 : decode cX12_requireUnfinished 8 = .ok (.aaload, 1) := by decide +kernel
theorem dNX12_requireUnfinished_9 : decode cX12_requireUnfinished 9 = .ok (.getfield 236, 3) := by decide +kernel
theorem dNX12_requireUnfinished_12 : decode cX12_requireUnfinished 12 = .ok (.istore_n 2, 1) := by decide +kernel
theorem dNX12_requireUnfinished_13 : decode cX12_requireUnfinished 13 = .ok (.iload_n 2, 1) := by decide +kernel
theorem dNX12_requireUnfinished_14 : decode cX12_requireUnfinished 14 = .ok (.ifCond .eq 16, 3) := by decide +kernel
theorem dNX12_requireUnfinished_17 : decode cX12_requireUnfinished 17 = .ok (.iload_n 2, 1) := by decide +kernel
theorem dNX12_requireUnfinished_18 : decode cX12_requireUnfinished 18 = .ok (.iconst 1, 1) := by decide +kernel
theorem dNX12_requireUnfinished_19 : decode cX12_requireUnfinished 19 = .ok (.if_icmp .eq 11, 3) := by decide +kernel
theorem dNX12_requireUnfinished_30 : decode cX12_requireUnfinished 30 = .ok (.return_, 1) := by decide +kernel
theorem hd_NX12_requireUnfinished : yX12_requireUnfinished.cls = RX12 ∧ yX12_requireUnfinished.cls ≠ "java/lang/invoke/MethodHandle" ∧ yX12_requireUnfinished.cls ≠ "java/lang/invoke/VarHandle" ∧ (parseMethodDescriptor yX12_requireUnfinished.desc).map (fun d => d.parameters.length) = some 1 := by decide +kernel
theorem hs_NX12_requireUnfinished : yX12_requireUnfinished.cls ≠ "java/lang/invoke/MethodHandle" ∧ yX12_requireUnfinished.cls ≠ "java/lang/invoke/VarHandle" ∧ (parseMethodDescriptor yX12_requireUnfinished.desc).map (fun d => d.parameters.length) = some 1 := by decide +kernel
set_option maxHeartbeats 4000000 in
set_option maxRecDepth 100000 in
theorem k_NX12_requireUnfinished (l : Launch) (E : Ev) (K : Kd) (z : Nat) (o : Nat) (a_1 : Int32) (w : Wd) (ho : K o = some (10, 0)) {w' : Wd} (hf : f_NX12_requireUnfinished K o a_1 w = some w') : Met l yX12_requireUnfinished (Cond.code yX12_requireUnfinished cX12_requireUnfinished 3 (Option.none : Option Jvm.ClassFile.FieldType) :: bt) ({ frames := 0, cells := 0, slots := 0, locals := 0 } : Room) (va_Pc [rv E (some o), .int a_1] (HB E K w z)) (QV E K z w') 0 0 (hA E) := by
  refine Met.ofW (cc := cX12_requireUnfinished) (maxL := 3) (ret := (Option.none : Option Jvm.ClassFile.FieldType)) (by decide) rfl ?_
  intro p e s m args below meth c s₁ B hml hv
  obtain ⟨rfl, hz, hP, hKs, hT, hb0⟩ := hv
  have C : CX p l e s m _ meth c cX12_requireUnfinished 3 RX12 (Option.none : Option Jvm.ClassFile.FieldType) E := ⟨B.exec, B.bytes, hml, findClass_of_methodNamed B.named, fun w h => atoms_spec (ws := Cond.code yX12_requireUnfinished cX12_requireUnfinished 3 (Option.none : Option Jvm.ClassFile.FieldType) :: bt) B.pre w (List.mem_cons_of_mem _ h), hKs, hT, by rw [hz]; exact hb0, B.notSynchronized, B.returns⟩
  have hH : HQ E K z w s s.heap [] := ⟨hP, va_S.rf, hz⟩
  obtain ⟨hx, hb, hml, hown, hts, hKs, hT, hb0, hlocks, hret⟩ := id C
  have hl := lv_entry [rv E (some o), .int a_1] (n := 3) (by simp [lg_len_nil, lg_len_i, lg_len_j, lg_len_q, lg_len_f, lg_len_d, lg_len_r])
  rw [lg_entry_eq]
  generalize (lg_sl [rv E (some o), .int a_1] ++ List.replicate (3 - (lg_sl [rv E (some o), .int a_1]).length) Slot.unset).toArray = ls at hl ⊢
  replace hl : lv_has ls 3 [(0, rv E (some o)), (1, .int a_1)] := by simpa only [lv_args, cat_q, cat_i, cat_j, reduceIte, Nat.reduceEqDiff, Nat.reduceAdd, Nat.zero_add] using hl
  generalize s.heap = H at hH ⊢
  unfold f_NX12_requireUnfinished at hf
  refine hl_aload_n hx hb dNX12_requireUnfinished_0 rfl (lv_at hl 0 rfl) ?_
  refine g12_5 hx hb hts hown hKs hH rfl ho m2_214 dNX12_requireUnfinished_1 ?_
  obtain ⟨a1, ha1, hf⟩ := bnd hf
  replace ha1 := chk_some ha1
  refine gn10_5 hx hb hts hown hKs hH ha1.1 ha1.2 m2_127 dNX12_requireUnfinished_4 ?_
  refine lv_iload_n hx hb dNX12_requireUnfinished_7 rfl (lv_at hl 1 rfl) ?_
  obtain ⟨a2, ha2, hf⟩ := bnd hf
  replace ha2 := cha_some ha2
  obtain ⟨j3, hj3, hf⟩ := bnd hf
  refine hw_aald27 hx hb hKs hH ha2.1 ha2.2 hj3 dNX12_requireUnfinished_8 ?_
  obtain ⟨a4, ha4, hf⟩ := bnd hf
  replace ha4 := chk_some ha4
  refine gn7_0 hx hb hts hown hKs hH ha4.1 ha4.2 m2_65 dNX12_requireUnfinished_9 ?_
  refine lv_istore_n (i := 2) (lv' := [(2, .int ((wI w 700 a4))), (0, rv E (some o)), (1, .int a_1)]) hx hb dNX12_requireUnfinished_12 rfl hl (by decide) rfl (fun ls hl => ?_)
  refine lv_iload_n hx hb dNX12_requireUnfinished_13 rfl (lv_at hl 0 rfl) ?_
  refine lv_if_eq (tgt := 30) hx hb dNX12_requireUnfinished_14 (by decide) (fun c5 => ?_) (fun c5 => ?_)
  · replace hf := (if_pos c5).symm.trans hf
    exact hw_vret hx hb hret hf hH hlocks dNX12_requireUnfinished_30
  · replace hf := (if_neg c5).symm.trans hf
    refine lv_iload_n hx hb dNX12_requireUnfinished_17 rfl (lv_at hl 0 rfl) ?_
    refine lv_iconst (v := 1) hx hb dNX12_requireUnfinished_18 (by decide) ?_
    refine lv_icmp_eq (tgt := 30) hx hb dNX12_requireUnfinished_19 (by decide) (fun c6 => ?_) (fun c6 => ?_)
    · replace hf := (if_pos c6).symm.trans hf
      exact hw_vret hx hb hret hf hH hlocks dNX12_requireUnfinished_30
    · replace hf := (if_neg c6).symm.trans hf
      cases hf

theorem dNX12_restoreState_0 : decode cX12_restoreState 0 = .ok (.aload_n 0, 1) := by decide +kernel
theorem dNX12_restoreState_1 : decode cX12_restoreState 1 = .ok (.getfield 98, 3) := by decide +kernel
theorem dNX12_restoreState_4 : decode cX12_restoreState 4 = .ok (.ifCond .ne 11, 3) := by decide +kernel
theorem dNX12_restoreState_15 : decode cX12_restoreState 15 = .ok (.aload_n 0, 1) := by decide +kernel
theorem dNX12_restoreState_16 : decode cX12_restoreState 16 = .ok (.getfield 35, 3) := by decide +kernel
theorem dNX12_restoreState_19 : decode cX12_restoreState 19 = .ok (.aload_n 0, 1) := by decide +kernel
theorem dNX12_restoreState_20 : decode cX12_restoreState 20 = .ok (.getfield 39, 3) := by decide +kernel
theorem dNX12_restoreState_23 : decode cX12_restoreState 23 = .ok (.invokevirtual 362, 3) := by decide +kernel
theorem dNX12_restoreState_26 : decode cX12_restoreState 26 = .ok (.aload_n 0, 1) := by decide +kernel
theorem dNX12_restoreState_27 : decode cX12_restoreState 27 = .ok (.iconst 0, 1) := by decide +kernel
theorem dNX12_restoreState_28 : decode cX12_restoreState 28 = .ok (.putfield 102, 3) := by decide +kernel
theorem dNX12_restoreState_31 : decode cX12_restoreState 31 = .ok (.aload_n 0, 1) := by decide +kernel
theorem dNX12_restoreState_32 : decode cX12_restoreState 32 = .ok (.getfield 35, 3) := by decide +kernel
theorem dNX12_restoreState_35 : decode cX12_restoreState 35 = .ok (.getfield 124, 3) := by decide +kernel
theorem dNX12_restoreState_38 : decode cX12_restoreState 38 = .ok (.ireturn, 1) := by decide +kernel
theorem hd_NX12_restoreState : yX12_restoreState.cls = RX12 ∧ yX12_restoreState.cls ≠ "java/lang/invoke/MethodHandle" ∧ yX12_restoreState.cls ≠ "java/lang/invoke/VarHandle" ∧ (parseMethodDescriptor yX12_restoreState.desc).map (fun d => d.parameters.length) = some 0 := by decide +kernel
theorem hs_NX12_restoreState : yX12_restoreState.cls ≠ "java/lang/invoke/MethodHandle" ∧ yX12_restoreState.cls ≠ "java/lang/invoke/VarHandle" ∧ (parseMethodDescriptor yX12_restoreState.desc).map (fun d => d.parameters.length) = some 0 := by decide +kernel
set_option maxHeartbeats 4000000 in
set_option maxRecDepth 100000 in
theorem k_NX12_restoreState (l : Launch) (E : Ev) (K : Kd) (z : Nat) (o : Nat) (w : Wd) (ho : K o = some (10, 0)) {r : Int32} {w' : Wd} (hf : f_NX12_restoreState K o w = some (r, w')) : Met l yX12_restoreState (Cond.code yX12_restoreState cX12_restoreState 1 (Option.some Jvm.ClassFile.FieldType.int) :: bt) ({ frames := 3, cells := 0, slots := 0, locals := 103 } : Room) (va_Pc [rv E (some o)] (HB E K w z)) (QI E K z w' r) 0 0 (hA E) := by
  refine Met.ofW (cc := cX12_restoreState) (maxL := 1) (ret := (Option.some Jvm.ClassFile.FieldType.int)) (by decide) rfl ?_
  intro p e s m args below meth c s₁ B hml hv
  obtain ⟨rfl, hz, hP, hKs, hT, hb0⟩ := hv
  have C : CX p l e s m _ meth c cX12_restoreState 1 RX12 (Option.some Jvm.ClassFile.FieldType.int) E := ⟨B.exec, B.bytes, hml, findClass_of_methodNamed B.named, fun w h => atoms_spec (ws := Cond.code yX12_restoreState cX12_restoreState 1 (Option.some Jvm.ClassFile.FieldType.int) :: bt) B.pre w (List.mem_cons_of_mem _ h), hKs, hT, by rw [hz]; exact hb0, B.notSynchronized, B.returns⟩
  have hH : HQ E K z w s s.heap [] := ⟨hP, va_S.rf, hz⟩
  obtain ⟨hx, hb, hml, hown, hts, hKs, hT, hb0, hlocks, hret⟩ := id C
  have hl := lv_entry [rv E (some o)] (n := 1) (by simp [lg_len_nil, lg_len_i, lg_len_j, lg_len_q, lg_len_f, lg_len_d, lg_len_r])
  rw [lg_entry_eq]
  generalize (lg_sl [rv E (some o)] ++ List.replicate (1 - (lg_sl [rv E (some o)]).length) Slot.unset).toArray = ls at hl ⊢
  replace hl : lv_has ls 1 [(0, rv E (some o))] := by simpa only [lv_args, cat_q, cat_i, cat_j, reduceIte, Nat.reduceEqDiff, Nat.reduceAdd, Nat.zero_add] using hl
  generalize s.heap = H at hH ⊢
  unfold f_NX12_restoreState at hf
  refine hl_aload_n hx hb dNX12_restoreState_0 rfl (lv_at hl 0 rfl) ?_
  refine g12_7 hx hb hts hown hKs hH rfl ho m2_216 dNX12_restoreState_1 ?_
  refine lv_if_ne (tgt := 15) hx hb dNX12_restoreState_4 (by decide) (fun c1 => ?_) (fun c1 => ?_)
  · replace hf := (if_neg c1).symm.trans hf
    refine hl_aload_n hx hb dNX12_restoreState_15 rfl (lv_at hl 0 rfl) ?_
    refine g12_5 hx hb hts hown hKs hH rfl ho m2_214 dNX12_restoreState_16 ?_
    refine hl_aload_n hx hb dNX12_restoreState_19 rfl (lv_at hl 0 rfl) ?_
    refine g12_6 hx hb hts hown hKs hH rfl ho m2_215 dNX12_restoreState_20 ?_
    obtain ⟨a2, ha2, hf⟩ := bnd hf
    replace ha2 := chk_some ha2
    obtain ⟨q3, hq3, hf⟩ := bnd hf
    refine hcV_v hx hb hml hown hts hKs hT hb0 hH (As := [rv E (wR w 1206 o)]) (rest := []) (k_X10_copyFrom l E K H.size a2 (wR w 1206 o) w ha2.2 hq3) (gV m3_123 m3_124 m3_125 m1_12 m3_126) hd_X10_copyFrom ⟨Nat.le_of_ble_eq_true rfl, Nat.le_of_ble_eq_true rfl, rfl, rfl⟩ ha2.1 ha2.2 rfl rfl rfl hl.1 rfl rc0 rfl dNX12_restoreState_23 ⟨Nat.zero_le _, Nat.zero_le _⟩ (fun H locs hH => ?_)
    refine hl_aload_n hx hb dNX12_restoreState_26 rfl (lv_at hl 0 rfl) ?_
    refine lv_iconst (v := 0) hx hb dNX12_restoreState_27 (by decide) ?_
    obtain ⟨w4, hw4, hf⟩ := bnd hf
    replace hw4 := Option.some.inj hw4
    refine p12_10 (v := 0) hx hb hts hown hKs hH rfl ho m2_219 dNX12_restoreState_28 (fun H locs hH => ?_)
    rw [hw4] at hH
    refine hl_aload_n hx hb dNX12_restoreState_31 rfl (lv_at hl 0 rfl) ?_
    refine g12_5 hx hb hts hown hKs hH rfl ho m2_214 dNX12_restoreState_32 ?_
    obtain ⟨a5, ha5, hf⟩ := bnd hf
    replace ha5 := chk_some ha5
    refine gn10_1 hx hb hts hown hKs hH ha5.1 ha5.2 m2_118 dNX12_restoreState_35 ?_
    exact hw_iret hx hb hret hf hH hlocks dNX12_restoreState_38
  · replace hf := (if_pos c1).symm.trans hf
    cases hf

theorem dNX12_undo_0 : decode cX12_undo 0 = .ok (.aload_n 0, 1) := by decide +kernel
theorem dNX12_undo_1 : decode cX12_undo 1 = .ok (.getfield 102, 3) := by decide +kernel
theorem dNX12_undo_4 : decode cX12_undo 4 = .ok (.ifCond .le 15, 3) := by decide +kernel
theorem dNX12_undo_7 : decode cX12_undo 7 = .ok (.aload_n 0, 1) := by decide +kernel
theorem dNX12_undo_8 : decode cX12_undo 8 = .ok (.getfield 102, 3) := by decide +kernel
theorem dNX12_undo_11 : decode cX12_undo 11 = .ok (.aload_n 0, 1) := by decide +kernel
theorem dNX12_undo_12 : decode cX12_undo 12 = .ok (.getfield 45, 3) := by decide +kernel
theorem dNX12_undo_15 : decode cX12_undo 15 = .ok (.arraylength, 1) := by decide +kernel
theorem dNX12_undo_16 : decode cX12_undo 16 = .ok (.if_icmp .le 11, 3) := by decide +kernel
theorem dNX12_undo_27 : decode cX12_undo 27 = .ok (.aload_n 0, 1) := by decide +kernel
theorem dNX12_undo_28 : decode cX12_undo 28 = .ok (.dup, 1) := by decide +kernel
theorem dNX12_undo_29 : decode cX12_undo 29 = .ok (.getfield 102, 3) := by decide +kernel
theorem dNX12_undo_32 : decode cX12_undo 32 = .ok (.iconst 1, 1) := by decide +kernel
theorem dNX12_undo_33 : decode cX12_undo 33 = .ok (.isub, 1) := by decide +kernel
theorem dNX12_undo_34 : decode cX12_undo 34 = .ok (.putfield 102, 3) := by decide +kernel
theorem dNX12_undo_37 : decode cX12_undo 37 = .ok (.aload_n 0, 1) := by decide +kernel
theorem dNX12_undo_38 : decode cX12_undo 38 = .ok (.getfield 35, 3) := by decide +kernel
theorem dNX12_undo_41 : decode cX12_undo 41 = .ok (.aload_n 0, 1) := by decide +kernel
theorem dNX12_undo_42 : decode cX12_undo 42 = .ok (.getfield 45, 3) := by decide +kernel
theorem dNX12_undo_45 : decode cX12_undo 45 = .ok (.aload_n 0, 1) := by decide +kernel
theorem dNX12_undo_46 : decode cX12_undo 46 = .ok (.getfield 102, 3) := by decide +kernel
theorem dNX12_undo_49 : decode cX12_undo 49 = .ok (.aaload, 1) := by decide +kernel
theorem dNX12_undo_50 : decode cX12_undo 50 = .ok (.invokevirtual 362, 3) := by decide +kernel
theorem dNX12_undo_53 : decode cX12_undo 53 = .ok (.aload_n 0, 1) := by decide +kernel
theorem dNX12_undo_54 : decode cX12_undo 54 = .ok (.getfield 102, 3) := by decide +kernel
theorem dNX12_undo_57 : decode cX12_undo 57 = .ok (.ireturn, 1) := by decide +kernel
theorem hd_NX12_undo : yX12_undo.cls = RX12 ∧ yX12_undo.cls ≠ "java/lang/invoke/MethodHandle" ∧ yX12_undo.cls ≠ "java/lang/invoke/VarHandle" ∧ (parseMethodDescriptor yX12_undo.desc).map (fun d => d.parameters.length) = some 0 := by decide +kernel
theorem hs_NX12_undo : yX12_undo.cls ≠ "java/lang/invoke/MethodHandle" ∧ yX12_undo.cls ≠ "java/lang/invoke/VarHandle" ∧ (parseMethodDescriptor yX12_undo.desc).map (fun d => d.parameters.length) = some 0 := by decide +kernel
set_option maxHeartbeats 4000000 in
set_option maxRecDepth 100000 in
theorem k_NX12_undo (l : Launch) (E : Ev) (K : Kd) (z : Nat) (o : Nat) (w : Wd) (ho : K o = some (10, 0)) {r : Int32} {w' : Wd} (hf : f_NX12_undo K o w = some (r, w')) : Met l yX12_undo (Cond.code yX12_undo cX12_undo 1 (Option.some Jvm.ClassFile.FieldType.int) :: bt) ({ frames := 3, cells := 0, slots := 0, locals := 103 } : Room) (va_Pc [rv E (some o)] (HB E K w z)) (QI E K z w' r) 0 0 (hA E) := by
  refine Met.ofW (cc := cX12_undo) (maxL := 1) (ret := (Option.some Jvm.ClassFile.FieldType.int)) (by decide) rfl ?_
  intro p e s m args below meth c s₁ B hml hv
  obtain ⟨rfl, hz, hP, hKs, hT, hb0⟩ := hv
  have C : CX p l e s m _ meth c cX12_undo 1 RX12 (Option.some Jvm.ClassFile.FieldType.int) E := ⟨B.exec, B.bytes, hml, findClass_of_methodNamed B.named, fun w h => atoms_spec (ws := Cond.code yX12_undo cX12_undo 1 (Option.some Jvm.ClassFile.FieldType.int) :: bt) B.pre w (List.mem_cons_of_mem _ h), hKs, hT, by rw [hz]; exact hb0, B.notSynchronized, B.returns⟩
  have hH : HQ E K z w s s.heap [] := ⟨hP, va_S.rf, hz⟩
  obtain ⟨hx, hb, hml, hown, hts, hKs, hT, hb0, hlocks, hret⟩ := id C
  have hl := lv_entry [rv E (some o)] (n := 1) (by simp [lg_len_nil, lg_len_i, lg_len_j, lg_len_q, lg_len_f, lg_len_d, lg_len_r])
  rw [lg_entry_eq]
  generalize (lg_sl [rv E (some o)] ++ List.replicate (1 - (lg_sl [rv E (some o)]).length) Slot.unset).toArray = ls at hl ⊢
  replace hl : lv_has ls 1 [(0, rv E (some o))] := by simpa only [lv_args, cat_q, cat_i, cat_j, reduceIte, Nat.reduceEqDiff, Nat.reduceAdd, Nat.zero_add] using hl
  generalize s.heap = H at hH ⊢
  unfold f_NX12_undo at hf
  refine hl_aload_n hx hb dNX12_undo_0 rfl (lv_at hl 0 rfl) ?_
  refine g12_10 hx hb hts hown hKs hH rfl ho m2_219 dNX12_undo_1 ?_
  refine lv_if_le (tgt := 19) hx hb dNX12_undo_4 (by decide) (fun c1 => ?_) (fun c1 => ?_)
  · replace hf := (if_pos c1).symm.trans hf
    cases hf
  · replace hf := (if_neg c1).symm.trans hf
    refine hl_aload_n hx hb dNX12_undo_7 rfl (lv_at hl 0 rfl) ?_
    refine g12_10 hx hb hts hown hKs hH rfl ho m2_219 dNX12_undo_8 ?_
    refine hl_aload_n hx hb dNX12_undo_11 rfl (lv_at hl 0 rfl) ?_
    refine g12_9 hx hb hts hown hKs hH rfl ho m2_218 dNX12_undo_12 ?_
    obtain ⟨a2, ha2, hf⟩ := bnd hf
    replace ha2 := cha_some ha2
    refine hw_alen28 hx hb hKs hH ha2.1 ha2.2 dNX12_undo_15 ?_
    refine lv_icmp_le (tgt := 27) hx hb dNX12_undo_16 (by decide) (fun c3 => ?_) (fun c3 => ?_)
    · replace hf := (if_pos c3).symm.trans hf
      refine hl_aload_n hx hb dNX12_undo_27 rfl (lv_at hl 0 rfl) ?_
      refine lv_dup hx hb dNX12_undo_28 rv_cat ?_
      refine g12_10 hx hb hts hown hKs hH rfl ho m2_219 dNX12_undo_29 ?_
      refine lv_iconst (v := 1) hx hb dNX12_undo_32 (by decide) ?_
      refine lv_isub hx hb dNX12_undo_33 ?_
      obtain ⟨w4, hw4, hf⟩ := bnd hf
      replace hw4 := Option.some.inj hw4
      refine p12_10 (v := ((wI w 1210 o) - 1)) hx hb hts hown hKs hH rfl ho m2_219 dNX12_undo_34 (fun H locs hH => ?_)
      rw [hw4] at hH
      refine hl_aload_n hx hb dNX12_undo_37 rfl (lv_at hl 0 rfl) ?_
      refine g12_5 hx hb hts hown hKs hH rfl ho m2_214 dNX12_undo_38 ?_
      refine hl_aload_n hx hb dNX12_undo_41 rfl (lv_at hl 0 rfl) ?_
      refine g12_9 hx hb hts hown hKs hH rfl ho m2_218 dNX12_undo_42 ?_
      refine hl_aload_n hx hb dNX12_undo_45 rfl (lv_at hl 0 rfl) ?_
      refine g12_10 hx hb hts hown hKs hH rfl ho m2_219 dNX12_undo_46 ?_
      obtain ⟨a5, ha5, hf⟩ := bnd hf
      replace ha5 := cha_some ha5
      obtain ⟨j6, hj6, hf⟩ := bnd hf
      refine hw_aald28 hx hb hKs hH ha5.1 ha5.2 hj6 dNX12_undo_49 ?_
      obtain ⟨a7, ha7, hf⟩ := bnd hf
      replace ha7 := chk_some ha7
      obtain ⟨q8, hq8, hf⟩ := bnd hf
      refine hcV_v hx hb hml hown hts hKs hT hb0 hH (As := [rv E (aR w4 a5.1 j6)]) (rest := []) (k_X10_copyFrom l E K H.size a7 (aR w4 a5.1 j6) w4 ha7.2 hq8) (gV m3_123 m3_124 m3_125 m1_12 m3_126) hd_X10_copyFrom ⟨Nat.le_of_ble_eq_true rfl, Nat.le_of_ble_eq_true rfl, rfl, rfl⟩ ha7.1 ha7.2 rfl rfl rfl hl.1 rfl rc0 rfl dNX12_undo_50 ⟨Nat.zero_le _, Nat.zero_le _⟩ (fun H locs hH => ?_)
      refine hl_aload_n hx hb dNX12_undo_53 rfl (lv_at hl 0 rfl) ?_
      refine g12_10 hx hb hts hown hKs hH rfl ho m2_219 dNX12_undo_54 ?_
      exact hw_iret hx hb hret hf hH hlocks dNX12_undo_57
    · replace hf := (if_neg c3).symm.trans hf
      cases hf

theorem dX12_feed_0 : decode cX12_feed 0 = .ok (.aload_n 0, 1) := by decide +kernel
theorem dX12_feed_1 : decode cX12_feed 1 = .ok (.getfield 70, 3) := by decide +kernel
theorem dX12_feed_4 : decode cX12_feed 4 = .ok (.bipush 20, 2) := by decide +kernel
theorem dX12_feed_6 : decode cX12_feed 6 = .ok (.iadd, 1) := by decide +kernel
theorem dX12_feed_7 : decode cX12_feed 7 = .ok (.sipush 900, 3) := by decide +kernel
theorem dX12_feed_10 : decode cX12_feed 10 = .ok (.if_icmp .le 5, 3) := by decide +kernel
theorem dX12_feed_13 : decode cX12_feed 13 = .ok (.iconst (-1), 1) := by decide +kernel
theorem dX12_feed_14 : decode cX12_feed 14 = .ok (.ireturn, 1) := by decide +kernel
theorem dX12_feed_15 : decode cX12_feed 15 = .ok (.aload_n 0, 1) := by decide +kernel
theorem dX12_feed_16 : decode cX12_feed 16 = .ok (.iload_n 1, 1) := by decide +kernel
theorem dX12_feed_17 : decode cX12_feed 17 = .ok (.invokevirtual 73, 3) := by decide +kernel
theorem dX12_feed_20 : decode cX12_feed 20 = .ok (.aload_n 0, 1) := by decide +kernel
theorem dX12_feed_21 : decode cX12_feed 21 = .ok (.iload_n 2, 1) := by decide +kernel
theorem dX12_feed_22 : decode cX12_feed 22 = .ok (.invokevirtual 73, 3) := by decide +kernel
theorem dX12_feed_25 : decode cX12_feed 25 = .ok (.aload_n 0, 1) := by decide +kernel
theorem dX12_feed_26 : decode cX12_feed 26 = .ok (.iload_n 3, 1) := by decide +kernel
theorem dX12_feed_27 : decode cX12_feed 27 = .ok (.invokevirtual 73, 3) := by decide +kernel
theorem dX12_feed_30 : decode cX12_feed 30 = .ok (.aload_n 0, 1) := by decide +kernel
theorem dX12_feed_31 : decode cX12_feed 31 = .ok (.iload 4, 2) := by decide +kernel
theorem dX12_feed_33 : decode cX12_feed 33 = .ok (.invokevirtual 73, 3) := by decide +kernel
theorem dX12_feed_36 : decode cX12_feed 36 = .ok (.aload_n 0, 1) := by decide +kernel
theorem dX12_feed_37 : decode cX12_feed 37 = .ok (.iload 5, 2) := by decide +kernel
theorem dX12_feed_39 : decode cX12_feed 39 = .ok (.invokevirtual 73, 3) := by decide +kernel
theorem dX12_feed_42 : decode cX12_feed 42 = .ok (.aload_n 0, 1) := by decide +kernel
theorem dX12_feed_43 : decode cX12_feed 43 = .ok (.getfield 70, 3) := by decide +kernel
theorem dX12_feed_46 : decode cX12_feed 46 = .ok (.ireturn, 1) := by decide +kernel
theorem hd_X12_feed : yX12_feed.cls = RX12 ∧ yX12_feed.cls ≠ "java/lang/invoke/MethodHandle" ∧ yX12_feed.cls ≠ "java/lang/invoke/VarHandle" ∧ (parseMethodDescriptor yX12_feed.desc).map (fun d => d.parameters.length) = some 5 := by decide +kernel
theorem hs_X12_feed : yX12_feed.cls ≠ "java/lang/invoke/MethodHandle" ∧ yX12_feed.cls ≠ "java/lang/invoke/VarHandle" ∧ (parseMethodDescriptor yX12_feed.desc).map (fun d => d.parameters.length) = some 5 := by decide +kernel
set_option maxHeartbeats 4000000 in
set_option maxRecDepth 100000 in
theorem k_X12_feed (l : Launch) (E : Ev) (K : Kd) (z : Nat) (o : Nat) (a_1 : Int32) (a_2 : Int32) (a_3 : Int32) (a_4 : Int32) (a_5 : Int32) (w : Wd) (ho : K o = some (10, 0)) {r : Int32} {w' : Wd} (hf : f_X12_feed K o a_1 a_2 a_3 a_4 a_5 w = some (r, w')) : Met l yX12_feed (Cond.code yX12_feed cX12_feed 6 (Option.some Jvm.ClassFile.FieldType.int) :: bt) ({ frames := 1, cells := 0, slots := 0, locals := 22 } : Room) (va_Pc [rv E (some o), .int a_1, .int a_2, .int a_3, .int a_4, .int a_5] (HB E K w z)) (QI E K z w' r) 0 0 (hA E) := by
  refine Met.ofW (cc := cX12_feed) (maxL := 6) (ret := (Option.some Jvm.ClassFile.FieldType.int)) (by decide) rfl ?_
  intro p e s m args below meth c s₁ B hml hv
  obtain ⟨rfl, hz, hP, hKs, hT, hb0⟩ := hv
  have C : CX p l e s m _ meth c cX12_feed 6 RX12 (Option.some Jvm.ClassFile.FieldType.int) E := ⟨B.exec, B.bytes, hml, findClass_of_methodNamed B.named, fun w h => atoms_spec (ws := Cond.code yX12_feed cX12_feed 6 (Option.some Jvm.ClassFile.FieldType.int) :: bt) B.pre w (List.mem_cons_of_mem _ h), hKs, hT, by rw [hz]; exact hb0, B.notSynchronized, B.returns⟩
  have hH : HQ E K z w s s.heap [] := ⟨hP, va_S.rf, hz⟩
  obtain ⟨hx, hb, hml, hown, hts, hKs, hT, hb0, hlocks, hret⟩ := id C
  have hl := lv_entry [rv E (some o), .int a_1, .int a_2, .int a_3, .int a_4, .int a_5] (n := 6) (by simp [lg_len_nil, lg_len_i, lg_len_j, lg_len_q, lg_len_f, lg_len_d, lg_len_r])
  rw [lg_entry_eq]
  generalize (lg_sl [rv E (some o), .int a_1, .int a_2, .int a_3, .int a_4, .int a_5] ++ List.replicate (6 - (lg_sl [rv E (some o), .int a_1, .int a_2, .int a_3, .int a_4, .int a_5]).length) Slot.unset).toArray = ls at hl ⊢
  replace hl : lv_has ls 6 [(0, rv E (some o)), (1, .int a_1), (2, .int a_2), (3, .int a_3), (4, .int a_4), (5, .int a_5)] := by simpa only [lv_args, cat_q, cat_i, cat_j, reduceIte, Nat.reduceEqDiff, Nat.reduceAdd, Nat.zero_add] using hl
  generalize s.heap = H at hH ⊢
  unfold f_X12_feed at hf
  refine hl_aload_n hx hb dX12_feed_0 rfl (lv_at hl 0 rfl) ?_
  refine g12_1 hx hb hts hown hKs hH rfl ho m2_210 dX12_feed_1 ?_
  refine lv_bipush (v := 20) hx hb dX12_feed_4 (by decide) ?_
  refine lv_iadd hx hb dX12_feed_6 ?_
  refine lv_sipush (v := 900) hx hb dX12_feed_7 (by decide) ?_
  refine lv_icmp_le (tgt := 15) hx hb dX12_feed_10 (by decide) (fun c1 => ?_) (fun c1 => ?_)
  · replace hf := (if_pos c1).symm.trans hf
    refine hl_aload_n hx hb dX12_feed_15 rfl (lv_at hl 0 rfl) ?_
    refine lv_iload_n hx hb dX12_feed_16 rfl (lv_at hl 1 rfl) ?_
    obtain ⟨q2, hq2, hf⟩ := bnd hf
    refine hcV_v hx hb hml hown hts hKs hT hb0 hH (As := [.int a_1]) (rest := []) (k_X12_append l E K H.size o a_1 w ho hq2) (gV m4_125 m4_127 ms_10 m1_1 m4_128) hd_X12_append ⟨Nat.le_of_ble_eq_true rfl, Nat.le_of_ble_eq_true rfl, rfl, rfl⟩ rfl ho rfl rfl rfl hl.1 rfl rc0 rfl dX12_feed_17 ⟨Nat.zero_le _, Nat.zero_le _⟩ (fun H locs hH => ?_)
    refine hl_aload_n hx hb dX12_feed_20 rfl (lv_at hl 0 rfl) ?_
    refine lv_iload_n hx hb dX12_feed_21 rfl (lv_at hl 2 rfl) ?_
    obtain ⟨q3, hq3, hf⟩ := bnd hf
    refine hcV_v hx hb hml hown hts hKs hT hb0 hH (As := [.int a_2]) (rest := []) (k_X12_append l E K H.size o a_2 q2 ho hq3) (gV m4_125 m4_127 ms_10 m1_1 m4_128) hd_X12_append ⟨Nat.le_of_ble_eq_true rfl, Nat.le_of_ble_eq_true rfl, rfl, rfl⟩ rfl ho rfl rfl rfl hl.1 rfl rc0 rfl dX12_feed_22 ⟨Nat.zero_le _, Nat.zero_le _⟩ (fun H locs hH => ?_)
    refine hl_aload_n hx hb dX12_feed_25 rfl (lv_at hl 0 rfl) ?_
    refine lv_iload_n hx hb dX12_feed_26 rfl (lv_at hl 3 rfl) ?_
    obtain ⟨q4, hq4, hf⟩ := bnd hf
    refine hcV_v hx hb hml hown hts hKs hT hb0 hH (As := [.int a_3]) (rest := []) (k_X12_append l E K H.size o a_3 q3 ho hq4) (gV m4_125 m4_127 ms_10 m1_1 m4_128) hd_X12_append ⟨Nat.le_of_ble_eq_true rfl, Nat.le_of_ble_eq_true rfl, rfl, rfl⟩ rfl ho rfl rfl rfl hl.1 rfl rc0 rfl dX12_feed_27 ⟨Nat.zero_le _, Nat.zero_le _⟩ (fun H locs hH => ?_)
    refine hl_aload_n hx hb dX12_feed_30 rfl (lv_at hl 0 rfl) ?_
    refine lv_iload hx hb dX12_feed_31 (lv_at hl 4 rfl) ?_
    obtain ⟨q5, hq5, hf⟩ := bnd hf
    refine hcV_v hx hb hml hown hts hKs hT hb0 hH (As := [.int a_4]) (rest := []) (k_X12_append l E K H.size o a_4 q4 ho hq5) (gV m4_125 m4_127 ms_10 m1_1 m4_128) hd_X12_append ⟨Nat.le_of_ble_eq_true rfl, Nat.le_of_ble_eq_true rfl, rfl, rfl⟩ rfl ho rfl rfl rfl hl.1 rfl rc0 rfl dX12_feed_33 ⟨Nat.zero_le _, Nat.zero_le _⟩ (fun H locs hH => ?_)
    refine hl_aload_n hx hb dX12_feed_36 rfl (lv_at hl 0 rfl) ?_
    refine lv_iload hx hb dX12_feed_37 (lv_at hl 5 rfl) ?_
    obtain ⟨q6, hq6, hf⟩ := bnd hf
    refine hcV_v hx hb hml hown hts hKs hT hb0 hH (As := [.int a_5]) (rest := []) (k_X12_append l E K H.size o a_5 q5 ho hq6) (gV m4_125 m4_127 ms_10 m1_1 m4_128) hd_X12_append ⟨Nat.le_of_ble_eq_true rfl, Nat.le_of_ble_eq_true rfl, rfl, rfl⟩ rfl ho rfl rfl rfl hl.1 rfl rc0 rfl dX12_feed_39 ⟨Nat.zero_le _, Nat.zero_le _⟩ (fun H locs hH => ?_)
    refine hl_aload_n hx hb dX12_feed_42 rfl (lv_at hl 0 rfl) ?_
    refine g12_1 hx hb hts hown hKs hH rfl ho m2_210 dX12_feed_43 ?_
    exact hw_iret hx hb hret hf hH hlocks dX12_feed_46
  · replace hf := (if_neg c1).symm.trans hf
    refine lv_iconst (v := (-1)) hx hb dX12_feed_13 (by decide) ?_
    exact hw_iret hx hb hret hf hH hlocks dX12_feed_14

theorem dX12_remember_0 : decode cX12_remember 0 = .ok (.aload_n 0, 1) := by decide +kernel
theorem dX12_remember_1 : decode cX12_remember 1 = .ok (.getfield 102, 3) := by decide +kernel
theorem dX12_remember_4 : decode cX12_remember 4 = .ok (.bipush 8, 2) := by decide +kernel
theorem dX12_remember_6 : decode cX12_remember 6 = .ok (.if_icmp .lt 60, 3) := by decide +kernel
theorem dX12_remember_9 : decode cX12_remember 9 = .ok (.aload_n 0, 1) := by decide +kernel
theorem dX12_remember_10 : decode cX12_remember 10 = .ok (.getfield 45, 3) := by decide +kernel
theorem dX12_remember_13 : decode cX12_remember 13 = .ok (.iconst 0, 1) := by decide +kernel
theorem dX12_remember_14 : decode cX12_remember 14 = .ok (.aaload, 1) := by decide +kernel
theorem dX12_remember_15 : decode cX12_remember 15 = .ok (.astore_n 1, 1) := by decide +kernel
theorem dX12_remember_16 : decode cX12_remember 16 = .ok (.iconst 1, 1) := by decide +kernel
theorem dX12_remember_17 : decode cX12_remember 17 = .ok (.istore_n 2, 1) := by decide +kernel
theorem dX12_remember_18 : decode cX12_remember 18 = .ok (.iload_n 2, 1) := by decide +kernel
theorem dX12_remember_19 : decode cX12_remember 19 = .ok (.aload_n 0, 1) := by decide +kernel
theorem dX12_remember_20 : decode cX12_remember 20 = .ok (.getfield 45, 3) := by decide +kernel
theorem dX12_remember_23 : decode cX12_remember 23 = .ok (.arraylength, 1) := by decide +kernel
theorem dX12_remember_24 : decode cX12_remember 24 = .ok (.if_icmp .ge 23, 3) := by decide +kernel
theorem dX12_remember_27 : decode cX12_remember 27 = .ok (.aload_n 0, 1) := by decide +kernel
theorem dX12_remember_28 : decode cX12_remember 28 = .ok (.getfield 45, 3) := by decide +kernel
theorem dX12_remember_31 : decode cX12_remember 31 = .ok (.iload_n 2, 1) := by decide +kernel
theorem dX12_remember_32 : decode cX12_remember 32 = .ok (.iconst 1, 1) := by decide +kernel
theorem dX12_remember_33 : decode cX12_remember 33 = .ok (.isub, 1) := by decide +kernel
theorem dX12_remember_34 : decode cX12_remember 34 = .ok (.aload_n 0, 1) := by decide +kernel
theorem dX12_remember_35 : decode cX12_remember 35 = .ok (.getfield 45, 3) := by decide +kernel
theorem dX12_remember_38 : decode cX12_remember 38 = .ok (.iload_n 2, 1) := by decide +kernel
theorem dX12_remember_39 : decode cX12_remember 39 = .ok (.aaload, 1) := by decide +kernel
theorem dX12_remember_40 : decode cX12_remember 40 = .ok (.aastore, 1) := by decide +kernel
theorem dX12_remember_41 : decode cX12_remember 41 = .ok (.iinc 2 1, 3) := by decide +kernel
theorem dX12_remember_44 : decode cX12_remember 44 = .ok (.goto (-26), 3) := by decide +kernel
theorem dX12_remember_47 : decode cX12_remember 47 = .ok (.aload_n 0, 1) := by decide +kernel
theorem dX12_remember_48 : decode cX12_remember 48 = .ok (.getfield 45, 3) := by decide +kernel
theorem dX12_remember_51 : decode cX12_remember 51 = .ok (.aload_n 0, 1) := by decide +kernel
theorem dX12_remember_52 : decode cX12_remember 52 = .ok (.getfield 45, 3) := by decide +kernel
theorem dX12_remember_55 : decode cX12_remember 55 = .ok (.arraylength, 1) := by decide +kernel
theorem dX12_remember_56 : decode cX12_remember 56 = .ok (.iconst 1, 1) := by decide +kernel
theorem dX12_remember_57 : decode cX12_remember 57 = .ok (.isub, 1) := by decide +kernel
theorem dX12_remember_58 : decode cX12_remember 58 = .ok (.aload_n 1, 1) := by decide +kernel
theorem dX12_remember_59 : decode cX12_remember 59 = .ok (.aastore, 1) := by decide +kernel
theorem dX12_remember_60 : decode cX12_remember 60 = .ok (.aload_n 0, 1) := by decide +kernel
theorem dX12_remember_61 : decode cX12_remember 61 = .ok (.bipush 7, 2) := by decide +kernel
theorem dX12_remember_63 : decode cX12_remember 63 = .ok (.putfield 102, 3) := by decide +kernel
theorem dX12_remember_66 : decode cX12_remember 66 = .ok (.aload_n 0, 1) := by decide +kernel
theorem dX12_remember_67 : decode cX12_remember 67 = .ok (.getfield 45, 3) := by decide +kernel
theorem dX12_remember_70 : decode cX12_remember 70 = .ok (.aload_n 0, 1) := by decide +kernel
theorem dX12_remember_71 : decode cX12_remember 71 = .ok (.getfield 102, 3) := by decide +kernel
theorem dX12_remember_74 : decode cX12_remember 74 = .ok (.aaload, 1) := by decide +kernel
theorem dX12_remember_75 : decode cX12_remember 75 = .ok (.aload_n 0, 1) := by decide +kernel
theorem dX12_remember_76 : decode cX12_remember 76 = .ok (.getfield 35, 3) := by decide +kernel
theorem dX12_remember_79 : decode cX12_remember 79 = .ok (.invokevirtual 362, 3) := by decide +kernel
theorem dX12_remember_82 : decode cX12_remember 82 = .ok (.aload_n 0, 1) := by decide +kernel
theorem dX12_remember_83 : decode cX12_remember 83 = .ok (.dup, 1) := by decide +kernel
theorem dX12_remember_84 : decode cX12_remember 84 = .ok (.getfield 102, 3) := by decide +kernel
theorem dX12_remember_87 : decode cX12_remember 87 = .ok (.iconst 1, 1) := by decide +kernel
theorem dX12_remember_88 : decode cX12_remember 88 = .ok (.iadd, 1) := by decide +kernel
theorem dX12_remember_89 : decode cX12_remember 89 = .ok (.putfield 102, 3) := by decide +kernel
theorem dX12_remember_92 : decode cX12_remember 92 = .ok (.return_, 1) := by decide +kernel
theorem hd_X12_remember : yX12_remember.cls = RX12 ∧ yX12_remember.cls ≠ "java/lang/invoke/MethodHandle" ∧ yX12_remember.cls ≠ "java/lang/invoke/VarHandle" ∧ (parseMethodDescriptor yX12_remember.desc).map (fun d => d.parameters.length) = some 0 := by decide +kernel
theorem hs_X12_remember : yX12_remember.cls ≠ "java/lang/invoke/MethodHandle" ∧ yX12_remember.cls ≠ "java/lang/invoke/VarHandle" ∧ (parseMethodDescriptor yX12_remember.desc).map (fun d => d.parameters.length) = some 0 := by decide +kernel
set_option maxHeartbeats 4000000 in
set_option maxRecDepth 100000 in
theorem l_X12_remember_L18 (C : CX p l e s m args meth c cX12_remember 3 RX12 (Option.none : Option Jvm.ClassFile.FieldType) E) {o : Nat} (ho : K o = some (10, 0)) {w' : Wd} (k : Option Nat → Int32 → Wd → Option Wd) (hk : ∀ (v1_18 : Option Nat) (v2_18 : Int32) (w : Wd) (H : Heap) (locs : List Loc) (ls : Array Slot), HQ E K z w s H locs → lv_has ls 3 [(1, rv E v1_18), (2, .int v2_18), (0, rv E (some o))] → k v1_18 v2_18 w = some w' → W p l e ({ frames := 3, cells := 0, slots := 0, locals := 103 } : Room) s m args below meth c H locs 0 0 (MQ below (QV E K z w') args s 0 0 (hA E)) (F0 m 47 ls [])) : ∀ (n : Nat) (v1_18 : Option Nat) (v2_18 : Int32) (w : Wd) (H : Heap) (locs : List Loc) (ls : Array Slot), HQ E K z w s H locs → lv_has ls 3 [(1, rv E v1_18), (2, .int v2_18), (0, rv E (some o))] → f_X12_remember_L18 K o k n v1_18 v2_18 w = some w' → W p l e ({ frames := 3, cells := 0, slots := 0, locals := 103 } : Room) s m args below meth c H locs 0 0 (MQ below (QV E K z w') args s 0 0 (hA E)) (F0 m 18 ls []) := by
  obtain ⟨hx, hb, hml, hown, hts, hKs, hT, hb0, hlocks, hret⟩ := id C
  intro n
  induction n with
  | zero =>
    intro v1_18 v2_18 w H locs ls hH hl hf
    cases hf
  | succ n ih =>
    intro v1_18 v2_18 w H locs ls hH hl hf
    rw [f_X12_remember_L18] at hf
    refine lv_iload_n hx hb dX12_remember_18 rfl (lv_at hl 1 rfl) ?_
    refine hl_aload_n hx hb dX12_remember_19 rfl (lv_at hl 2 rfl) ?_
    refine g12_9 hx hb hts hown hKs hH rfl ho m2_218 dX12_remember_20 ?_
    obtain ⟨a10, ha10, hf⟩ := bnd hf
    replace ha10 := cha_some ha10
    refine hw_alen28 hx hb hKs hH ha10.1 ha10.2 dX12_remember_23 ?_
    refine lv_icmp_ge (tgt := 47) hx hb dX12_remember_24 (by decide) (fun c11 => ?_) (fun c11 => ?_)
    · replace hf := (if_pos c11).symm.trans hf
      exact hk v1_18 v2_18 _ _ _ _ hH (lv_sub hl [0, 1, 2] rfl) hf
    · replace hf := (if_neg c11).symm.trans hf
      refine hl_aload_n hx hb dX12_remember_27 rfl (lv_at hl 2 rfl) ?_
      refine g12_9 hx hb hts hown hKs hH rfl ho m2_218 dX12_remember_28 ?_
      refine lv_iload_n hx hb dX12_remember_31 rfl (lv_at hl 1 rfl) ?_
      refine lv_iconst (v := 1) hx hb dX12_remember_32 (by decide) ?_
      refine lv_isub hx hb dX12_remember_33 ?_
      refine hl_aload_n hx hb dX12_remember_34 rfl (lv_at hl 2 rfl) ?_
      refine g12_9 hx hb hts hown hKs hH rfl ho m2_218 dX12_remember_35 ?_
      refine lv_iload_n hx hb dX12_remember_38 rfl (lv_at hl 1 rfl) ?_
      obtain ⟨j12, hj12, hf⟩ := bnd hf
      refine hw_aald28 hx hb hKs hH ha10.1 ha10.2 hj12 dX12_remember_39 ?_
      obtain ⟨j13, hj13, hf⟩ := bnd hf
      obtain ⟨a14, ha14, hf⟩ := bnd hf
      replace ha14 := chk_some ha14
      obtain ⟨w15, hw15, hf⟩ := bnd hf
      replace hw15 := Option.some.inj hw15
      refine hw_aast28 hx hb hKs hH ha10.1 ha10.2 ha14.1 ha14.2 hj13 dX12_remember_40 (fun H locs hH => ?_)
      rw [hw15] at hH
      refine lv_iinc (v := (v2_18 + 1)) (lv' := [(2, .int ((v2_18 + 1))), (1, rv E v1_18), (0, rv E (some o))]) hx hb dX12_remember_41 hl (k := 1) rfl rfl (by decide) (by simp [List.filter_cons, cat_q, cat_i, cat_j, imax, imin]) (fun ls hl => ?_)
      refine lv_goto (tgt := 18) hx hb dX12_remember_44 (by decide) ?_
      exact ih v1_18 (v2_18 + 1) _ _ _ _ hH (lv_sub hl [1, 0, 2] rfl) hf
set_option maxHeartbeats 4000000 in
set_option maxRecDepth 100000 in
theorem k_X12_remember (l : Launch) (E : Ev) (K : Kd) (z : Nat) (o : Nat) (w : Wd) (ho : K o = some (10, 0)) {w' : Wd} (hf : f_X12_remember K o w = some w') : Met l yX12_remember (Cond.code yX12_remember cX12_remember 3 (Option.none : Option Jvm.ClassFile.FieldType) :: bt) ({ frames := 3, cells := 0, slots := 0, locals := 103 } : Room) (va_Pc [rv E (some o)] (HB E K w z)) (QV E K z w') 0 0 (hA E) := by
  refine Met.ofW (cc := cX12_remember) (maxL := 3) (ret := (Option.none : Option Jvm.ClassFile.FieldType)) (by decide) rfl ?_
  intro p e s m args below meth c s₁ B hml hv
  obtain ⟨rfl, hz, hP, hKs, hT, hb0⟩ := hv
  have C : CX p l e s m _ meth c cX12_remember 3 RX12 (Option.none : Option Jvm.ClassFile.FieldType) E := ⟨B.exec, B.bytes, hml, findClass_of_methodNamed B.named, fun w h => atoms_spec (ws := Cond.code yX12_remember cX12_remember 3 (Option.none : Option Jvm.ClassFile.FieldType) :: bt) B.pre w (List.mem_cons_of_mem _ h), hKs, hT, by rw [hz]; exact hb0, B.notSynchronized, B.returns⟩
  have hH : HQ E K z w s s.heap [] := ⟨hP, va_S.rf, hz⟩
  obtain ⟨hx, hb, hml, hown, hts, hKs, hT, hb0, hlocks, hret⟩ := id C
  have hl := lv_entry [rv E (some o)] (n := 3) (by simp [lg_len_nil, lg_len_i, lg_len_j, lg_len_q, lg_len_f, lg_len_d, lg_len_r])
  rw [lg_entry_eq]
  generalize (lg_sl [rv E (some o)] ++ List.replicate (3 - (lg_sl [rv E (some o)]).length) Slot.unset).toArray = ls at hl ⊢
  replace hl : lv_has ls 3 [(0, rv E (some o))] := by simpa only [lv_args, cat_q, cat_i, cat_j, reduceIte, Nat.reduceEqDiff, Nat.reduceAdd, Nat.zero_add] using hl
  generalize s.heap = H at hH ⊢
  unfold f_X12_remember at hf
  refine hl_aload_n hx hb dX12_remember_0 rfl (lv_at hl 0 rfl) ?_
  refine g12_10 hx hb hts hown hKs hH rfl ho m2_219 dX12_remember_1 ?_
  refine lv_bipush (v := 8) hx hb dX12_remember_4 (by decide) ?_
  refine lv_icmp_lt (tgt := 66) hx hb dX12_remember_6 (by decide) (fun c1 => ?_) (fun c1 => ?_)
  · replace hf := (if_pos c1).symm.trans hf
    refine hl_aload_n hx hb dX12_remember_66 rfl (lv_at hl 0 rfl) ?_
    refine g12_9 hx hb hts hown hKs hH rfl ho m2_218 dX12_remember_67 ?_
    refine hl_aload_n hx hb dX12_remember_70 rfl (lv_at hl 0 rfl) ?_
    refine g12_10 hx hb hts hown hKs hH rfl ho m2_219 dX12_remember_71 ?_
    obtain ⟨a2, ha2, hf⟩ := bnd hf
    replace ha2 := cha_some ha2
    obtain ⟨j3, hj3, hf⟩ := bnd hf
    refine hw_aald28 hx hb hKs hH ha2.1 ha2.2 hj3 dX12_remember_74 ?_
    refine hl_aload_n hx hb dX12_remember_75 rfl (lv_at hl 0 rfl) ?_
    refine g12_5 hx hb hts hown hKs hH rfl ho m2_214 dX12_remember_76 ?_
    obtain ⟨a4, ha4, hf⟩ := bnd hf
    replace ha4 := chk_some ha4
    obtain ⟨q5, hq5, hf⟩ := bnd hf
    refine hcV_v hx hb hml hown hts hKs hT hb0 hH (As := [rv E (wR w 1205 o)]) (rest := []) (k_X10_copyFrom l E K H.size a4 (wR w 1205 o) w ha4.2 hq5) (gV m3_123 m3_124 m3_125 m1_12 m3_126) hd_X10_copyFrom ⟨Nat.le_of_ble_eq_true rfl, Nat.le_of_ble_eq_true rfl, rfl, rfl⟩ ha4.1 ha4.2 rfl rfl rfl hl.1 rfl rc0 rfl dX12_remember_79 ⟨Nat.zero_le _, Nat.zero_le _⟩ (fun H locs hH => ?_)
    refine hl_aload_n hx hb dX12_remember_82 rfl (lv_at hl 0 rfl) ?_
    refine lv_dup hx hb dX12_remember_83 rv_cat ?_
    refine g12_10 hx hb hts hown hKs hH rfl ho m2_219 dX12_remember_84 ?_
    refine lv_iconst (v := 1) hx hb dX12_remember_87 (by decide) ?_
    refine lv_iadd hx hb dX12_remember_88 ?_
    obtain ⟨w6, hw6, hf⟩ := bnd hf
    replace hw6 := Option.some.inj hw6
    refine p12_10 (v := ((wI q5 1210 o) + 1)) hx hb hts hown hKs hH rfl ho m2_219 dX12_remember_89 (fun H locs hH => ?_)
    rw [hw6] at hH
    exact hw_vret hx hb hret hf hH hlocks dX12_remember_92
  · replace hf := (if_neg c1).symm.trans hf
    refine hl_aload_n hx hb dX12_remember_9 rfl (lv_at hl 0 rfl) ?_
    refine g12_9 hx hb hts hown hKs hH rfl ho m2_218 dX12_remember_10 ?_
    refine lv_iconst (v := 0) hx hb dX12_remember_13 (by decide) ?_
    obtain ⟨a7, ha7, hf⟩ := bnd hf
    replace ha7 := cha_some ha7
    obtain ⟨j8, hj8, hf⟩ := bnd hf
    refine hw_aald28 hx hb hKs hH ha7.1 ha7.2 hj8 dX12_remember_14 ?_
    refine hl_astore_n (i := 1) (lv' := [(1, rv E (aR w a7.1 j8)), (0, rv E (some o))]) hx hb dX12_remember_15 rfl hl (by decide) rfl (fun ls hl => ?_)
    refine lv_iconst (v := 1) hx hb dX12_remember_16 (by decide) ?_
    refine lv_istore_n (i := 2) (lv' := [(2, .int 1), (1, rv E (aR w a7.1 j8)), (0, rv E (some o))]) hx hb dX12_remember_17 rfl hl (by decide) (by simp [List.filter_cons, cat_q, cat_i, cat_j, imax, imin]) (fun ls hl => ?_)
    refine l_X12_remember_L18  C ho _ (fun v1_18 v2_18 w9 H locs ls hH hl hf => ?_) fu (aR w a7.1 j8) 1 w _ _ _ hH (lv_sub hl [1, 0, 2] rfl) hf
    refine hl_aload_n hx hb dX12_remember_47 rfl (lv_at hl 2 rfl) ?_
    refine g12_9 hx hb hts hown hKs hH rfl ho m2_218 dX12_remember_48 ?_
    refine hl_aload_n hx hb dX12_remember_51 rfl (lv_at hl 2 rfl) ?_
    refine g12_9 hx hb hts hown hKs hH rfl ho m2_218 dX12_remember_52 ?_
    obtain ⟨a16, ha16, hf⟩ := bnd hf
    replace ha16 := cha_some ha16
    refine hw_alen28 hx hb hKs hH ha16.1 ha16.2 dX12_remember_55 ?_
    refine lv_iconst (v := 1) hx hb dX12_remember_56 (by decide) ?_
    refine lv_isub hx hb dX12_remember_57 ?_
    refine hl_aload_n hx hb dX12_remember_58 rfl (lv_at hl 0 rfl) ?_
    obtain ⟨j17, hj17, hf⟩ := bnd hf
    obtain ⟨a18, ha18, hf⟩ := bnd hf
    replace ha18 := chk_some ha18
    obtain ⟨w19, hw19, hf⟩ := bnd hf
    replace hw19 := Option.some.inj hw19
    refine hw_aast28 hx hb hKs hH ha16.1 ha16.2 ha18.1 ha18.2 hj17 dX12_remember_59 (fun H locs hH => ?_)
    rw [hw19] at hH
    refine hl_aload_n hx hb dX12_remember_60 rfl (lv_at hl 2 rfl) ?_
    refine lv_bipush (v := 7) hx hb dX12_remember_61 (by decide) ?_
    obtain ⟨w20, hw20, hf⟩ := bnd hf
    replace hw20 := Option.some.inj hw20
    refine p12_10 (v := 7) hx hb hts hown hKs hH rfl ho m2_219 dX12_remember_63 (fun H locs hH => ?_)
    rw [hw20] at hH
    refine hl_aload_n hx hb dX12_remember_66 rfl (lv_at hl 2 rfl) ?_
    refine g12_9 hx hb hts hown hKs hH rfl ho m2_218 dX12_remember_67 ?_
    refine hl_aload_n hx hb dX12_remember_70 rfl (lv_at hl 2 rfl) ?_
    refine g12_10 hx hb hts hown hKs hH rfl ho m2_219 dX12_remember_71 ?_
    obtain ⟨a21, ha21, hf⟩ := bnd hf
    replace ha21 := cha_some ha21
    obtain ⟨j22, hj22, hf⟩ := bnd hf
    refine hw_aald28 hx hb hKs hH ha21.1 ha21.2 hj22 dX12_remember_74 ?_
    refine hl_aload_n hx hb dX12_remember_75 rfl (lv_at hl 2 rfl) ?_
    refine g12_5 hx hb hts hown hKs hH rfl ho m2_214 dX12_remember_76 ?_
    obtain ⟨a23, ha23, hf⟩ := bnd hf
    replace ha23 := chk_some ha23
    obtain ⟨q24, hq24, hf⟩ := bnd hf
    refine hcV_v hx hb hml hown hts hKs hT hb0 hH (As := [rv E (wR w20 1205 o)]) (rest := []) (k_X10_copyFrom l E K H.size a23 (wR w20 1205 o) w20 ha23.2 hq24) (gV m3_123 m3_124 m3_125 m1_12 m3_126) hd_X10_copyFrom ⟨Nat.le_of_ble_eq_true rfl, Nat.le_of_ble_eq_true rfl, rfl, rfl⟩ ha23.1 ha23.2 rfl rfl rfl hl.1 rfl rc0 rfl dX12_remember_79 ⟨Nat.zero_le _, Nat.zero_le _⟩ (fun H locs hH => ?_)
    refine hl_aload_n hx hb dX12_remember_82 rfl (lv_at hl 2 rfl) ?_
    refine lv_dup hx hb dX12_remember_83 rv_cat ?_
    refine g12_10 hx hb hts hown hKs hH rfl ho m2_219 dX12_remember_84 ?_
    refine lv_iconst (v := 1) hx hb dX12_remember_87 (by decide) ?_
    refine lv_iadd hx hb dX12_remember_88 ?_
    obtain ⟨w25, hw25, hf⟩ := bnd hf
    replace hw25 := Option.some.inj hw25
    refine p12_10 (v := ((wI q24 1210 o) + 1)) hx hb hts hown hKs hH rfl ho m2_219 dX12_remember_89 (fun H locs hH => ?_)
    rw [hw25] at hH
    exact hw_vret hx hb hret hf hH hlocks dX12_remember_92

theorem dX12_saveState_0 : decode cX12_saveState 0 = .ok (.aload_n 0, 1) := by decide +kernel
theorem dX12_saveState_1 : decode cX12_saveState 1 = .ok (.getfield 39, 3) := by decide +kernel
theorem dX12_saveState_4 : decode cX12_saveState 4 = .ok (.aload_n 0, 1) := by decide +kernel
theorem dX12_saveState_5 : decode cX12_saveState 5 = .ok (.getfield 35, 3) := by decide +kernel
theorem dX12_saveState_8 : decode cX12_saveState 8 = .ok (.invokevirtual 362, 3) := by decide +kernel
theorem dX12_saveState_11 : decode cX12_saveState 11 = .ok (.aload_n 0, 1) := by decide +kernel
theorem dX12_saveState_12 : decode cX12_saveState 12 = .ok (.iconst 1, 1) := by decide +kernel
theorem dX12_saveState_13 : decode cX12_saveState 13 = .ok (.putfield 98, 3) := by decide +kernel
theorem dX12_saveState_16 : decode cX12_saveState 16 = .ok (.aload_n 0, 1) := by decide +kernel
theorem dX12_saveState_17 : decode cX12_saveState 17 = .ok (.getfield 35, 3) := by decide +kernel
theorem dX12_saveState_20 : decode cX12_saveState 20 = .ok (.getfield 124, 3) := by decide +kernel
theorem dX12_saveState_23 : decode cX12_saveState 23 = .ok (.ireturn, 1) := by decide +kernel
theorem hd_X12_saveState : yX12_saveState.cls = RX12 ∧ yX12_saveState.cls ≠ "java/lang/invoke/MethodHandle" ∧ yX12_saveState.cls ≠ "java/lang/invoke/VarHandle" ∧ (parseMethodDescriptor yX12_saveState.desc).map (fun d => d.parameters.length) = some 0 := by decide +kernel
theorem hs_X12_saveState : yX12_saveState.cls ≠ "java/lang/invoke/MethodHandle" ∧ yX12_saveState.cls ≠ "java/lang/invoke/VarHandle" ∧ (parseMethodDescriptor yX12_saveState.desc).map (fun d => d.parameters.length) = some 0 := by decide +kernel
set_option maxHeartbeats 4000000 in
set_option maxRecDepth 100000 in
theorem k_X12_saveState (l : Launch) (E : Ev) (K : Kd) (z : Nat) (o : Nat) (w : Wd) (ho : K o = some (10, 0)) {r : Int32} {w' : Wd} (hf : f_X12_saveState K o w = some (r, w')) : Met l yX12_saveState (Cond.code yX12_saveState cX12_saveState 1 (Option.some Jvm.ClassFile.FieldType.int) :: bt) ({ frames := 3, cells := 0, slots := 0, locals := 103 } : Room) (va_Pc [rv E (some o)] (HB E K w z)) (QI E K z w' r) 0 0 (hA E) := by
  refine Met.ofW (cc := cX12_saveState) (maxL := 1) (ret := (Option.some Jvm.ClassFile.FieldType.int)) (by decide) rfl ?_
  intro p e s m args below meth c s₁ B hml hv
  obtain ⟨rfl, hz, hP, hKs, hT, hb0⟩ := hv
  have C : CX p l e s m _ meth c cX12_saveState 1 RX12 (Option.some Jvm.ClassFile.FieldType.int) E := ⟨B.exec, B.bytes, hml, findClass_of_methodNamed B.named, fun w h => atoms_spec (ws := Cond.code yX12_saveState cX12_saveState 1 (Option.some Jvm.ClassFile.FieldType.int) :: bt) B.pre w (List.mem_cons_of_mem _ h), hKs, hT, by rw [hz]; exact hb0, B.notSynchronized, B.returns⟩
  have hH : HQ E K z w s s.heap [] := ⟨hP, va_S.rf, hz⟩
  obtain ⟨hx, hb, hml, hown, hts, hKs, hT, hb0, hlocks, hret⟩ := id C
  have hl := lv_entry [rv E (some o)] (n := 1) (by simp [lg_len_nil, lg_len_i, lg_len_j, lg_len_q, lg_len_f, lg_len_d, lg_len_r])
  rw [lg_entry_eq]
  generalize (lg_sl [rv E (some o)] ++ List.replicate (1 - (lg_sl [rv E (some o)]).length) Slot.unset).toArray = ls at hl ⊢
  replace hl : lv_has ls 1 [(0, rv E (some o))] := by simpa only [lv_args, cat_q, cat_i, cat_j, reduceIte, Nat.reduceEqDiff, Nat.reduceAdd, Nat.zero_add] using hl
  generalize s.heap = H at hH ⊢
  unfold f_X12_saveState at hf
  refine hl_aload_n hx hb dX12_saveState_0 rfl (lv_at hl 0 rfl) ?_
  refine g12_6 hx hb hts hown hKs hH rfl ho m2_215 dX12_saveState_1 ?_
  refine hl_aload_n hx hb dX12_saveState_4 rfl (lv_at hl 0 rfl) ?_
  refine g12_5 hx hb hts hown hKs hH rfl ho m2_214 dX12_saveState_5 ?_
  obtain ⟨a1, ha1, hf⟩ := bnd hf
  replace ha1 := chk_some ha1
  obtain ⟨q2, hq2, hf⟩ := bnd hf
  refine hcV_v hx hb hml hown hts hKs hT hb0 hH (As := [rv E (wR w 1205 o)]) (rest := []) (k_X10_copyFrom l E K H.size a1 (wR w 1205 o) w ha1.2 hq2) (gV m3_123 m3_124 m3_125 m1_12 m3_126) hd_X10_copyFrom ⟨Nat.le_of_ble_eq_true rfl, Nat.le_of_ble_eq_true rfl, rfl, rfl⟩ ha1.1 ha1.2 rfl rfl rfl hl.1 rfl rc0 rfl dX12_saveState_8 ⟨Nat.zero_le _, Nat.zero_le _⟩ (fun H locs hH => ?_)
  refine hl_aload_n hx hb dX12_saveState_11 rfl (lv_at hl 0 rfl) ?_
  refine lv_iconst (v := 1) hx hb dX12_saveState_12 (by decide) ?_
  obtain ⟨w3, hw3, hf⟩ := bnd hf
  replace hw3 := Option.some.inj hw3
  refine p12_7 (v := true) hx hb hts hown hKs hH rfl ho m2_216 dX12_saveState_13 (fun H locs hH => ?_)
  rw [hw3] at hH
  refine hl_aload_n hx hb dX12_saveState_16 rfl (lv_at hl 0 rfl) ?_
  refine g12_5 hx hb hts hown hKs hH rfl ho m2_214 dX12_saveState_17 ?_
  obtain ⟨a4, ha4, hf⟩ := bnd hf
  replace ha4 := chk_some ha4
  refine gn10_1 hx hb hts hown hKs hH ha4.1 ha4.2 m2_118 dX12_saveState_20 ?_
  exact hw_iret hx hb hret hf hH hlocks dX12_saveState_23

theorem dX12_requireExisting_0 : decode cX12_requireExisting 0 = .ok (.iload_n 2, 1) := by decide +kernel
theorem dX12_requireExisting_1 : decode cX12_requireExisting 1 = .ok (.ifCond .lt 18, 3) := by decide +kernel
theorem dX12_requireExisting_4 : decode cX12_requireExisting 4 = .ok (.iload_n 2, 1) := by decide +kernel
theorem dX12_requireExisting_5 : decode cX12_requireExisting 5 = .ok (.aload_n 0, 1) := by decide +kernel
theorem dX12_requireExisting_6 : decode cX12_requireExisting 6 = .ok (.getfield 35, 3) := by decide +kernel
theorem dX12_requireExisting_9 : decode cX12_requireExisting 9 = .ok (.getfield 87, 3) := by decide +kernel
theorem dX12_requireExisting_12 : decode cX12_requireExisting 12 = .ok (.iload_n 1, 1) := by decide +kernel
theorem dX12_requireExisting_13 : decode cX12_requireExisting 13 = .ok (.invokevirtual 105, 3) := by decide +kernel
theorem dX12_requireExisting_16 : decode cX12_requireExisting 16 = .ok (.if_icmp .lt 11, 3) := by decide +kernel
theorem dX12_requireExisting_19 : decode cX12_requireExisting 19 = .ok (.new 193, 3) := by decide +kernel
theorem dX12_requireExisting_22 : decode cX12_requireExisting 22 = .ok (.dup, 1) := by decide +kernel
theorem dX12_requireExisting_23 : decode cX12_requireExisting 23 = .ok (.invokespecial 195, 3) := by decide +kernel
theorem dX12_requireExisting_26 : decode cX12_requireExisting 26 = .ok (.athrow, 1) := by decide +kernel
theorem dX12_requireExisting_27 : decode cX12_requireExisting 27 = .ok (.return_, 1) := by decide +kernel
theorem hd_X12_requireExisting : yX12_requireExisting.cls = RX12 ∧ yX12_requireExisting.cls ≠ "java/lang/invoke/MethodHandle" ∧ yX12_requireExisting.cls ≠ "java/lang/invoke/VarHandle" ∧ (parseMethodDescriptor yX12_requireExisting.desc).map (fun d => d.parameters.length) = some 2 := by decide +kernel
theorem hs_X12_requireExisting : yX12_requireExisting.cls ≠ "java/lang/invoke/MethodHandle" ∧ yX12_requireExisting.cls ≠ "java/lang/invoke/VarHandle" ∧ (parseMethodDescriptor yX12_requireExisting.desc).map (fun d => d.parameters.length) = some 2 := by decide +kernel
set_option maxHeartbeats 4000000 in
set_option maxRecDepth 100000 in
theorem k_X12_requireExisting (l : Launch) (hls : l.stackTraces = false) (E : Ev) (K : Kd) (z : Nat) (o : Nat) (a_1 : Int32) (a_2 : Int32) (w : Wd) (ho : K o = some (10, 0)) {r : Unit ⊕ Nat} {w' : Wd} (hf : f_X12_requireExisting K o a_1 a_2 w = some (r, w')) : vx_Met l yX12_requireExisting (Cond.code yX12_requireExisting cX12_requireExisting 3 (Option.none : Option Jvm.ClassFile.FieldType) :: bt) ({ frames := 6, cells := 1, slots := 6, locals := 90 } : Room) (va_Pc [rv E (some o), .int a_1, .int a_2] (HB E K w z)) (XV E K z w' r) (XX E K w' r) 1 6 (hA E) := by
  refine vx_ofW (cc := cX12_requireExisting) (maxL := 3) (ret := (Option.none : Option Jvm.ClassFile.FieldType)) (by decide) rfl ?_
  intro p e s m args below meth c s₁ B hml hout hv
  obtain ⟨rfl, hz, hP, hKs, hT, hb0⟩ := hv
  have C : CX p l e s m _ meth c cX12_requireExisting 3 RX12 (Option.none : Option Jvm.ClassFile.FieldType) E := ⟨B.exec, B.bytes, hml, findClass_of_methodNamed B.named, fun w h => atoms_spec (ws := Cond.code yX12_requireExisting cX12_requireExisting 3 (Option.none : Option Jvm.ClassFile.FieldType) :: bt) B.pre w (List.mem_cons_of_mem _ h), hKs, hT, by rw [hz]; exact hb0, B.notSynchronized, B.returns⟩
  have hH : HQ E K z w s s.heap [] := ⟨hP, va_S.rf, hz⟩
  obtain ⟨hx, hb, hml, hown, hts, hKs, hT, hb0, hlocks, hret⟩ := id C
  have hl := lv_entry [rv E (some o), .int a_1, .int a_2] (n := 3) (by simp [lg_len_nil, lg_len_i, lg_len_j, lg_len_q, lg_len_f, lg_len_d, lg_len_r])
  rw [lg_entry_eq]
  generalize (lg_sl [rv E (some o), .int a_1, .int a_2] ++ List.replicate (3 - (lg_sl [rv E (some o), .int a_1, .int a_2]).length) Slot.unset).toArray = ls at hl ⊢
  replace hl : lv_has ls 3 [(0, rv E (some o)), (1, .int a_1), (2, .int a_2)] := by simpa only [lv_args, cat_q, cat_i, cat_j, reduceIte, Nat.reduceEqDiff, Nat.reduceAdd, Nat.zero_add] using hl
  generalize s.heap = H at hH ⊢
  unfold f_X12_requireExisting at hf
  refine lv_iload_n hx hb dX12_requireExisting_0 rfl (lv_at hl 2 rfl) ?_
  refine lv_if_lt (tgt := 19) hx hb dX12_requireExisting_1 (by decide) (fun c1 => ?_) (fun c1 => ?_)
  · replace hf := (if_pos c1).symm.trans hf
    exact hx_throw hx hb hls (code := 1) hml hl.1 hown hts hKs hT hb0 hH (by decide) rfl m6_95 m1_31 hat_RX12_195 dX12_requireExisting_19 dX12_requireExisting_22 dX12_requireExisting_23 dX12_requireExisting_26 hout (Nat.le_of_ble_eq_true rfl) rc0 (Nat.le_of_ble_eq_true rfl) (Nat.le_of_ble_eq_true rfl) (Nat.le_of_ble_eq_true rfl) hlocks hf (Nat.le_of_ble_eq_true rfl) (Nat.le_of_ble_eq_true rfl)
  · replace hf := (if_neg c1).symm.trans hf
    refine lv_iload_n hx hb dX12_requireExisting_4 rfl (lv_at hl 2 rfl) ?_
    refine hl_aload_n hx hb dX12_requireExisting_5 rfl (lv_at hl 0 rfl) ?_
    refine g12_5 hx hb hts hown hKs hH rfl ho m2_214 dX12_requireExisting_6 ?_
    obtain ⟨a2, ha2, hf⟩ := bnd hf
    replace ha2 := chk_some ha2
    refine gn10_0 hx hb hts hown hKs hH ha2.1 ha2.2 m2_115 dX12_requireExisting_9 ?_
    refine lv_iload_n hx hb dX12_requireExisting_12 rfl (lv_at hl 1 rfl) ?_
    obtain ⟨a3, ha3, hf⟩ := bnd hf
    replace ha3 := chk_some ha3
    obtain ⟨q4, hq4, hf⟩ := bnd hf
    refine hcV_i hx hb hml hown hts hKs hT hb0 hH (As := [.int a_1]) (rest := [.int a_2]) (k_X9_size l E K H.size a3 a_1 w ha3.2 hq4) (gV m3_21 m3_22 m3_23 m1_2 m3_24) hd_X9_size ⟨Nat.le_of_ble_eq_true rfl, Nat.le_of_ble_eq_true rfl, rfl, rfl⟩ ha3.1 ha3.2 rfl rfl rfl hl.1 rfl (rcI rc0) rfl dX12_requireExisting_13 ⟨Nat.le_of_ble_eq_true rfl, Nat.le_of_ble_eq_true rfl⟩ (fun H locs hH => ?_)
    refine lv_icmp_lt (tgt := 27) hx hb dX12_requireExisting_16 (by decide) (fun c5 => ?_) (fun c5 => ?_)
    · replace hf := (if_pos c5).symm.trans hf
      exact hx_vret hx hb (Nat.le_of_ble_eq_true rfl) (Nat.le_of_ble_eq_true rfl) hret hf hH hlocks dX12_requireExisting_27
    · replace hf := (if_neg c5).symm.trans hf
      exact hx_throw hx hb hls (code := 1) hml hl.1 hown hts hKs hT hb0 hH (by decide) rfl m6_95 m1_31 hat_RX12_195 dX12_requireExisting_19 dX12_requireExisting_22 dX12_requireExisting_23 dX12_requireExisting_26 hout (Nat.le_of_ble_eq_true rfl) rc0 (Nat.le_of_ble_eq_true rfl) (Nat.le_of_ble_eq_true rfl) (Nat.le_of_ble_eq_true rfl) hlocks hf (Nat.le_of_ble_eq_true rfl) (Nat.le_of_ble_eq_true rfl)

theorem dX2_clear_0 : decode cX2_clear 0 = .ok (.aload_n 0, 1) := by decide +kernel
theorem dX2_clear_1 : decode cX2_clear 1 = .ok (.getfield 9, 3) := by decide +kernel
theorem dX2_clear_4 : decode cX2_clear 4 = .ok (.iconst 0, 1) := by decide +kernel
theorem dX2_clear_5 : decode cX2_clear 5 = .ok (.invokestatic 23, 3) := by decide +kernel
theorem dX2_clear_8 : decode cX2_clear 8 = .ok (.aload_n 0, 1) := by decide +kernel
theorem dX2_clear_9 : decode cX2_clear 9 = .ok (.iconst 0, 1) := by decide +kernel
theorem dX2_clear_10 : decode cX2_clear 10 = .ok (.putfield 19, 3) := by decide +kernel
theorem dX2_clear_13 : decode cX2_clear 13 = .ok (.return_, 1) := by decide +kernel
theorem hd_X2_clear : yX2_clear.cls = RX2 ∧ yX2_clear.cls ≠ "java/lang/invoke/MethodHandle" ∧ yX2_clear.cls ≠ "java/lang/invoke/VarHandle" ∧ (parseMethodDescriptor yX2_clear.desc).map (fun d => d.parameters.length) = some 0 := by decide +kernel
theorem hs_X2_clear : yX2_clear.cls ≠ "java/lang/invoke/MethodHandle" ∧ yX2_clear.cls ≠ "java/lang/invoke/VarHandle" ∧ (parseMethodDescriptor yX2_clear.desc).map (fun d => d.parameters.length) = some 0 := by decide +kernel
set_option maxHeartbeats 4000000 in
set_option maxRecDepth 100000 in
theorem k_X2_clear (l : Launch) (E : Ev) (K : Kd) (z : Nat) (o : Nat) (w : Wd) (ho : K o = some (1, 0)) {w' : Wd} (hf : f_X2_clear K o w = some w') : Met l yX2_clear (Cond.code yX2_clear cX2_clear 1 (Option.none : Option Jvm.ClassFile.FieldType) :: bt) ({ frames := 1, cells := 0, slots := 0, locals := 23 } : Room) (va_Pc [rv E (some o)] (HB E K w z)) (QV E K z w') 0 0 (hA E) := by
  refine Met.ofW (cc := cX2_clear) (maxL := 1) (ret := (Option.none : Option Jvm.ClassFile.FieldType)) (by decide) rfl ?_
  intro p e s m args below meth c s₁ B hml hv
  obtain ⟨rfl, hz, hP, hKs, hT, hb0⟩ := hv
  have C : CX p l e s m _ meth c cX2_clear 1 RX2 (Option.none : Option Jvm.ClassFile.FieldType) E := ⟨B.exec, B.bytes, hml, findClass_of_methodNamed B.named, fun w h => atoms_spec (ws := Cond.code yX2_clear cX2_clear 1 (Option.none : Option Jvm.ClassFile.FieldType) :: bt) B.pre w (List.mem_cons_of_mem _ h), hKs, hT, by rw [hz]; exact hb0, B.notSynchronized, B.returns⟩
  have hH : HQ E K z w s s.heap [] := ⟨hP, va_S.rf, hz⟩
  obtain ⟨hx, hb, hml, hown, hts, hKs, hT, hb0, hlocks, hret⟩ := id C
  have hl := lv_entry [rv E (some o)] (n := 1) (by simp [lg_len_nil, lg_len_i, lg_len_j, lg_len_q, lg_len_f, lg_len_d, lg_len_r])
  rw [lg_entry_eq]
  generalize (lg_sl [rv E (some o)] ++ List.replicate (1 - (lg_sl [rv E (some o)]).length) Slot.unset).toArray = ls at hl ⊢
  replace hl : lv_has ls 1 [(0, rv E (some o))] := by simpa only [lv_args, cat_q, cat_i, cat_j, reduceIte, Nat.reduceEqDiff, Nat.reduceAdd, Nat.zero_add] using hl
  generalize s.heap = H at hH ⊢
  unfold f_X2_clear at hf
  refine hl_aload_n hx hb dX2_clear_0 rfl (lv_at hl 0 rfl) ?_
  refine g2_0 hx hb hts hown hKs hH rfl ho m1_58 dX2_clear_1 ?_
  refine lv_iconst (v := 0) hx hb dX2_clear_4 (by decide) ?_
  obtain ⟨q1, hq1, hf⟩ := bnd hf
  refine hcS_v hx hb hml hown hts hKs hT hb0 hH (As := [rv E (wR w 200 o), .int 0]) (rest := []) (k_J7_fill_53178 l E K H.size (wR w 200 o) 0 w hq1) (gS m1_150 m1_144 m1_7 m1_145) hs_J7_fill_53178 ⟨Nat.le_of_ble_eq_true rfl, Nat.le_of_ble_eq_true rfl, rfl, rfl⟩ hl.1 rfl rc0 rfl dX2_clear_5 ⟨Nat.zero_le _, Nat.zero_le _⟩ (fun H locs hH => ?_)
  refine hl_aload_n hx hb dX2_clear_8 rfl (lv_at hl 0 rfl) ?_
  refine lv_iconst (v := 0) hx hb dX2_clear_9 (by decide) ?_
  obtain ⟨w2, hw2, hf⟩ := bnd hf
  replace hw2 := Option.some.inj hw2
  refine p2_1 (v := 0) hx hb hts hown hKs hH rfl ho m1_59 dX2_clear_10 (fun H locs hH => ?_)
  rw [hw2] at hH
  exact hw_vret hx hb hret hf hH hlocks dX2_clear_13

theorem dX6_setFound_0 : decode cX6_setFound 0 = .ok (.aload_n 1, 1) := by decide +kernel
theorem dX6_setFound_1 : decode cX6_setFound 1 = .ok (.getfield 98, 3) := by decide +kernel
theorem dX6_setFound_4 : decode cX6_setFound 4 = .ok (.iload_n 2, 1) := by decide +kernel
theorem dX6_setFound_5 : decode cX6_setFound 5 = .ok (.aaload, 1) := by decide +kernel
theorem dX6_setFound_6 : decode cX6_setFound 6 = .ok (.aload_n 0, 1) := by decide +kernel
theorem dX6_setFound_7 : decode cX6_setFound 7 = .ok (.getfield 102, 3) := by decide +kernel
theorem dX6_setFound_10 : decode cX6_setFound 10 = .ok (.aload_n 0, 1) := by decide +kernel
theorem dX6_setFound_11 : decode cX6_setFound 11 = .ok (.getfield 103, 3) := by decide +kernel
theorem dX6_setFound_14 : decode cX6_setFound 14 = .ok (.aload_n 0, 1) := by decide +kernel
theorem dX6_setFound_15 : decode cX6_setFound 15 = .ok (.getfield 106, 3) := by decide +kernel
theorem dX6_setFound_18 : decode cX6_setFound 18 = .ok (.aload_n 0, 1) := by decide +kernel
theorem dX6_setFound_19 : decode cX6_setFound 19 = .ok (.getfield 109, 3) := by decide +kernel
theorem dX6_setFound_22 : decode cX6_setFound 22 = .ok (.invokevirtual 112, 3) := by decide +kernel
theorem dX6_setFound_25 : decode cX6_setFound 25 = .ok (.return_, 1) := by decide +kernel
theorem hd_X6_setFound : yX6_setFound.cls = RX6 ∧ yX6_setFound.cls ≠ "java/lang/invoke/MethodHandle" ∧ yX6_setFound.cls ≠ "java/lang/invoke/VarHandle" ∧ (parseMethodDescriptor yX6_setFound.desc).map (fun d => d.parameters.length) = some 2 := by decide +kernel
theorem hs_X6_setFound : yX6_setFound.cls ≠ "java/lang/invoke/MethodHandle" ∧ yX6_setFound.cls ≠ "java/lang/invoke/VarHandle" ∧ (parseMethodDescriptor yX6_setFound.desc).map (fun d => d.parameters.length) = some 2 := by decide +kernel
set_option maxHeartbeats 4000000 in
set_option maxRecDepth 100000 in
theorem k_X6_setFound (l : Launch) (E : Ev) (K : Kd) (z : Nat) (o : Nat) (a_1 : Option Nat) (a_2 : Int32) (w : Wd) (ho : K o = some (5, 0)) {w' : Wd} (hf : f_X6_setFound K o a_1 a_2 w = some w') : Met l yX6_setFound (Cond.code yX6_setFound cX6_setFound 3 (Option.none : Option Jvm.ClassFile.FieldType) :: bt) ({ frames := 1, cells := 0, slots := 0, locals := 24 } : Room) (va_Pc [rv E (some o), rv E a_1, .int a_2] (HB E K w z)) (QV E K z w') 0 0 (hA E) := by
  refine Met.ofW (cc := cX6_setFound) (maxL := 3) (ret := (Option.none : Option Jvm.ClassFile.FieldType)) (by decide) rfl ?_
  intro p e s m args below meth c s₁ B hml hv
  obtain ⟨rfl, hz, hP, hKs, hT, hb0⟩ := hv
  have C : CX p l e s m _ meth c cX6_setFound 3 RX6 (Option.none : Option Jvm.ClassFile.FieldType) E := ⟨B.exec, B.bytes, hml, findClass_of_methodNamed B.named, fun w h => atoms_spec (ws := Cond.code yX6_setFound cX6_setFound 3 (Option.none : Option Jvm.ClassFile.FieldType) :: bt) B.pre w (List.mem_cons_of_mem _ h), hKs, hT, by rw [hz]; exact hb0, B.notSynchronized, B.returns⟩
  have hH : HQ E K z w s s.heap [] := ⟨hP, va_S.rf, hz⟩
  obtain ⟨hx, hb, hml, hown, hts, hKs, hT, hb0, hlocks, hret⟩ := id C
  have hl := lv_entry [rv E (some o), rv E a_1, .int a_2] (n := 3) (by simp [lg_len_nil, lg_len_i, lg_len_j, lg_len_q, lg_len_f, lg_len_d, lg_len_r])
  rw [lg_entry_eq]
  generalize (lg_sl [rv E (some o), rv E a_1, .int a_2] ++ List.replicate (3 - (lg_sl [rv E (some o), rv E a_1, .int a_2]).length) Slot.unset).toArray = ls at hl ⊢
  replace hl : lv_has ls 3 [(0, rv E (some o)), (1, rv E a_1), (2, .int a_2)] := by simpa only [lv_args, cat_q, cat_i, cat_j, reduceIte, Nat.reduceEqDiff, Nat.reduceAdd, Nat.zero_add] using hl
  generalize s.heap = H at hH ⊢
  unfold f_X6_setFound at hf
  refine hl_aload_n hx hb dX6_setFound_0 rfl (lv_at hl 1 rfl) ?_
  obtain ⟨a1, ha1, hf⟩ := bnd hf
  replace ha1 := chk_some ha1
  refine gn10_5 hx hb hts hown hKs hH ha1.1 ha1.2 m2_126 dX6_setFound_1 ?_
  refine lv_iload_n hx hb dX6_setFound_4 rfl (lv_at hl 2 rfl) ?_
  obtain ⟨a2, ha2, hf⟩ := bnd hf
  replace ha2 := cha_some ha2
  obtain ⟨j3, hj3, hf⟩ := bnd hf
  refine hw_aald27 hx hb hKs hH ha2.1 ha2.2 hj3 dX6_setFound_5 ?_
  refine hl_aload_n hx hb dX6_setFound_6 rfl (lv_at hl 0 rfl) ?_
  refine g6_8 hx hb hts hown hKs hH rfl ho m2_156 dX6_setFound_7 ?_
  refine hl_aload_n hx hb dX6_setFound_10 rfl (lv_at hl 0 rfl) ?_
  refine g6_9 hx hb hts hown hKs hH rfl ho m2_158 dX6_setFound_11 ?_
  refine hl_aload_n hx hb dX6_setFound_14 rfl (lv_at hl 0 rfl) ?_
  refine g6_10 hx hb hts hown hKs hH rfl ho m2_160 dX6_setFound_15 ?_
  refine hl_aload_n hx hb dX6_setFound_18 rfl (lv_at hl 0 rfl) ?_
  refine g6_11 hx hb hts hown hKs hH rfl ho m2_162 dX6_setFound_19 ?_
  obtain ⟨a4, ha4, hf⟩ := bnd hf
  replace ha4 := chk_some ha4
  obtain ⟨q5, hq5, hf⟩ := bnd hf
  refine hcV_v hx hb hml hown hts hKs hT hb0 hH (As := [.int ((wI w 608 o)), .int ((wI w 609 o)), .int ((wI w 610 o)), .int ((wI w 611 o))]) (rest := []) (k_X7_setHearing l E K H.size a4 (wI w 608 o) (wI w 609 o) (wI w 610 o) (wI w 611 o) w ha4.2 hq5) (gV m4_16 m4_17 m4_18 m1_13 m4_19) hd_X7_setHearing ⟨Nat.le_of_ble_eq_true rfl, Nat.le_of_ble_eq_true rfl, rfl, rfl⟩ ha4.1 ha4.2 rfl rfl rfl hl.1 rfl rc0 rfl dX6_setFound_22 ⟨Nat.zero_le _, Nat.zero_le _⟩ (fun H locs hH => ?_)
  exact hw_vret hx hb hret hf hH hlocks dX6_setFound_25

theorem dX6_lastDay_0 : decode cX6_lastDay 0 = .ok (.aload_n 0, 1) := by decide +kernel
theorem dX6_lastDay_1 : decode cX6_lastDay 1 = .ok (.iload_n 1, 1) := by decide +kernel
theorem dX6_lastDay_2 : decode cX6_lastDay 2 = .ok (.invokevirtual 49, 3) := by decide +kernel
theorem dX6_lastDay_5 : decode cX6_lastDay 5 = .ok (.sipush 599, 3) := by decide +kernel
theorem dX6_lastDay_8 : decode cX6_lastDay 8 = .ok (.invokestatic 134, 3) := by decide +kernel
theorem dX6_lastDay_11 : decode cX6_lastDay 11 = .ok (.ireturn, 1) := by decide +kernel
theorem hs_X6_lastDay : yX6_lastDay.cls ≠ "java/lang/invoke/MethodHandle" ∧ yX6_lastDay.cls ≠ "java/lang/invoke/VarHandle" ∧ (parseMethodDescriptor yX6_lastDay.desc).map (fun d => d.parameters.length) = some 2 := by decide +kernel
set_option maxHeartbeats 4000000 in
set_option maxRecDepth 100000 in
theorem k_X6_lastDay (l : Launch) (E : Ev) (K : Kd) (z : Nat) (a_0 : Option Nat) (a_1 : Int32) (w : Wd) {r : Int32} {w' : Wd} (hf : f_X6_lastDay K a_0 a_1 w = some (r, w')) : Met l yX6_lastDay (Cond.code yX6_lastDay cX6_lastDay 2 (Option.some Jvm.ClassFile.FieldType.int) :: bt) ({ frames := 3, cells := 0, slots := 0, locals := 66 } : Room) (va_Pc [rv E a_0, .int a_1] (HB E K w z)) (QI E K z w' r) 0 0 (hA E) := by
  refine Met.ofW (cc := cX6_lastDay) (maxL := 2) (ret := (Option.some Jvm.ClassFile.FieldType.int)) (by decide) rfl ?_
  intro p e s m args below meth c s₁ B hml hv
  obtain ⟨rfl, hz, hP, hKs, hT, hb0⟩ := hv
  have C : CX p l e s m _ meth c cX6_lastDay 2 RX6 (Option.some Jvm.ClassFile.FieldType.int) E := ⟨B.exec, B.bytes, hml, findClass_of_methodNamed B.named, fun w h => atoms_spec (ws := Cond.code yX6_lastDay cX6_lastDay 2 (Option.some Jvm.ClassFile.FieldType.int) :: bt) B.pre w (List.mem_cons_of_mem _ h), hKs, hT, by rw [hz]; exact hb0, B.notSynchronized, B.returns⟩
  have hH : HQ E K z w s s.heap [] := ⟨hP, va_S.rf, hz⟩
  obtain ⟨hx, hb, hml, hown, hts, hKs, hT, hb0, hlocks, hret⟩ := id C
  have hl := lv_entry [rv E a_0, .int a_1] (n := 2) (by simp [lg_len_nil, lg_len_i, lg_len_j, lg_len_q, lg_len_f, lg_len_d, lg_len_r])
  rw [lg_entry_eq]
  generalize (lg_sl [rv E a_0, .int a_1] ++ List.replicate (2 - (lg_sl [rv E a_0, .int a_1]).length) Slot.unset).toArray = ls at hl ⊢
  replace hl : lv_has ls 2 [(0, rv E a_0), (1, .int a_1)] := by simpa only [lv_args, cat_q, cat_i, cat_j, reduceIte, Nat.reduceEqDiff, Nat.reduceAdd, Nat.zero_add] using hl
  generalize s.heap = H at hH ⊢
  unfold f_X6_lastDay at hf
  refine hl_aload_n hx hb dX6_lastDay_0 rfl (lv_at hl 0 rfl) ?_
  refine lv_iload_n hx hb dX6_lastDay_1 rfl (lv_at hl 1 rfl) ?_
  obtain ⟨a1, ha1, hf⟩ := bnd hf
  replace ha1 := chk_some ha1
  obtain ⟨q2, hq2, hf⟩ := bnd hf
  refine hcV_i hx hb hml hown hts hKs hT hb0 hH (As := [.int a_1]) (rest := []) (k_X10_limitDay l E K H.size a1 a_1 w ha1.2 hq2) (gV m3_198 m3_145 m3_146 m1_12 m3_147) hd_X10_limitDay ⟨Nat.le_of_ble_eq_true rfl, Nat.le_of_ble_eq_true rfl, rfl, rfl⟩ ha1.1 ha1.2 rfl rfl rfl hl.1 rfl rc0 rfl dX6_lastDay_2 ⟨Nat.zero_le _, Nat.zero_le _⟩ (fun H locs hH => ?_)
  refine lv_sipush (v := 599) hx hb dX6_lastDay_5 (by decide) ?_
  refine va_mmin hx hb (hml.trans hl.1.symm) hown (hts _ m3_199) (hts _ m3_200) (hts _ m1_5) (hts _ m3_201) (Nat.le_of_ble_eq_true rfl) (Nat.le_trans (Nat.add_le_add_right (show rc 8 [] from rc0) 13) (Nat.le_of_ble_eq_true rfl)) (Nat.le_of_ble_eq_true rfl) (Nat.le_of_ble_eq_true rfl) dX6_lastDay_8 ?_
  exact hw_iret hx hb hret hf hH hlocks dX6_lastDay_11

theorem dX6_findIn_0 : decode cX6_findIn 0 = .ok (.aload_n 0, 1) := by decide +kernel
theorem dX6_findIn_1 : decode cX6_findIn 1 = .ok (.aload_n 1, 1) := by decide +kernel
theorem dX6_findIn_2 : decode cX6_findIn 2 = .ok (.iconst 1, 1) := by decide +kernel
theorem dX6_findIn_3 : decode cX6_findIn 3 = .ok (.invokevirtual 141, 3) := by decide +kernel
theorem dX6_findIn_6 : decode cX6_findIn 6 = .ok (.iload_n 2, 1) := by decide +kernel
theorem dX6_findIn_7 : decode cX6_findIn 7 = .ok (.invokevirtual 144, 3) := by decide +kernel
theorem dX6_findIn_10 : decode cX6_findIn 10 = .ok (.istore_n 3, 1) := by decide +kernel
theorem dX6_findIn_11 : decode cX6_findIn 11 = .ok (.iconst 0, 1) := by decide +kernel
theorem dX6_findIn_12 : decode cX6_findIn 12 = .ok (.istore 4, 2) := by decide +kernel
theorem dX6_findIn_14 : decode cX6_findIn 14 = .ok (.iload 4, 2) := by decide +kernel
theorem dX6_findIn_16 : decode cX6_findIn 16 = .ok (.aload_n 1, 1) := by decide +kernel
theorem dX6_findIn_17 : decode cX6_findIn 17 = .ok (.iconst 0, 1) := by decide +kernel
theorem dX6_findIn_18 : decode cX6_findIn 18 = .ok (.invokevirtual 141, 3) := by decide +kernel
theorem dX6_findIn_21 : decode cX6_findIn 21 = .ok (.if_icmp .ge 49, 3) := by decide +kernel
theorem dX6_findIn_24 : decode cX6_findIn 24 = .ok (.iload_n 3, 1) := by decide +kernel
theorem dX6_findIn_25 : decode cX6_findIn 25 = .ok (.iconst (-1), 1) := by decide +kernel
theorem dX6_findIn_26 : decode cX6_findIn 26 = .ok (.if_icmp .eq 44, 3) := by decide +kernel
theorem dX6_findIn_29 : decode cX6_findIn 29 = .ok (.iload_n 2, 1) := by decide +kernel
theorem dX6_findIn_30 : decode cX6_findIn 30 = .ok (.aload_n 0, 1) := by decide +kernel
theorem dX6_findIn_31 : decode cX6_findIn 31 = .ok (.getfield 9, 3) := by decide +kernel
theorem dX6_findIn_34 : decode cX6_findIn 34 = .ok (.iload 4, 2) := by decide +kernel
theorem dX6_findIn_36 : decode cX6_findIn 36 = .ok (.iaload, 1) := by decide +kernel
theorem dX6_findIn_37 : decode cX6_findIn 37 = .ok (.aload_n 1, 1) := by decide +kernel
theorem dX6_findIn_38 : decode cX6_findIn 38 = .ok (.getfield 68, 3) := by decide +kernel
theorem dX6_findIn_41 : decode cX6_findIn 41 = .ok (.iload 4, 2) := by decide +kernel
theorem dX6_findIn_43 : decode cX6_findIn 43 = .ok (.iaload, 1) := by decide +kernel
theorem dX6_findIn_44 : decode cX6_findIn 44 = .ok (.iconst (-1), 1) := by decide +kernel
theorem dX6_findIn_45 : decode cX6_findIn 45 = .ok (.ixor, 1) := by decide +kernel
theorem dX6_findIn_46 : decode cX6_findIn 46 = .ok (.ior, 1) := by decide +kernel
theorem dX6_findIn_47 : decode cX6_findIn 47 = .ok (.iand, 1) := by decide +kernel
theorem dX6_findIn_48 : decode cX6_findIn 48 = .ok (.ifCond .ne 16, 3) := by decide +kernel
theorem dX6_findIn_51 : decode cX6_findIn 51 = .ok (.aload_n 0, 1) := by decide +kernel
theorem dX6_findIn_52 : decode cX6_findIn 52 = .ok (.iload 4, 2) := by decide +kernel
theorem dX6_findIn_54 : decode cX6_findIn 54 = .ok (.putfield 106, 3) := by decide +kernel
theorem dX6_findIn_57 : decode cX6_findIn 57 = .ok (.aload_n 0, 1) := by decide +kernel
theorem dX6_findIn_58 : decode cX6_findIn 58 = .ok (.iload_n 3, 1) := by decide +kernel
theorem dX6_findIn_59 : decode cX6_findIn 59 = .ok (.putfield 109, 3) := by decide +kernel
theorem dX6_findIn_62 : decode cX6_findIn 62 = .ok (.iconst 1, 1) := by decide +kernel
theorem dX6_findIn_63 : decode cX6_findIn 63 = .ok (.ireturn, 1) := by decide +kernel
theorem dX6_findIn_64 : decode cX6_findIn 64 = .ok (.iinc 4 1, 3) := by decide +kernel
theorem dX6_findIn_67 : decode cX6_findIn 67 = .ok (.goto (-53), 3) := by decide +kernel
theorem dX6_findIn_70 : decode cX6_findIn 70 = .ok (.iconst 0, 1) := by decide +kernel
theorem dX6_findIn_71 : decode cX6_findIn 71 = .ok (.ireturn, 1) := by decide +kernel
theorem hd_X6_findIn : yX6_findIn.cls = RX6 ∧ yX6_findIn.cls ≠ "java/lang/invoke/MethodHandle" ∧ yX6_findIn.cls ≠ "java/lang/invoke/VarHandle" ∧ (parseMethodDescriptor yX6_findIn.desc).map (fun d => d.parameters.length) = some 2 := by decide +kernel
theorem hs_X6_findIn : yX6_findIn.cls ≠ "java/lang/invoke/MethodHandle" ∧ yX6_findIn.cls ≠ "java/lang/invoke/VarHandle" ∧ (parseMethodDescriptor yX6_findIn.desc).map (fun d => d.parameters.length) = some 2 := by decide +kernel
set_option maxHeartbeats 4000000 in
set_option maxRecDepth 100000 in
theorem l_X6_findIn_L14 (C : CX p l e s m args meth c cX6_findIn 5 RX6 (Option.some Jvm.ClassFile.FieldType.boolean) E) {o : Nat} (ho : K o = some (5, 0)) {r : Bool} {w' : Wd} (k : Option Nat → Int32 → Int32 → Int32 → Wd → Option (Bool × Wd)) (hk : ∀ (v1_14 : Option Nat) (v2_14 : Int32) (v3_14 : Int32) (v4_14 : Int32) (w : Wd) (H : Heap) (locs : List Loc) (ls : Array Slot), HQ E K z w s H locs → lv_has ls 5 [(1, rv E v1_14), (2, .int v2_14), (3, .int v3_14), (4, .int v4_14), (0, rv E (some o))] → k v1_14 v2_14 v3_14 v4_14 w = some (r, w') → W p l e ({ frames := 2, cells := 0, slots := 0, locals := 46 } : Room) s m args below meth c H locs 0 0 (MQ below (QI E K z w' (b2i r)) args s 0 0 (hA E)) (F0 m 70 ls [])) : ∀ (n : Nat) (v1_14 : Option Nat) (v2_14 : Int32) (v3_14 : Int32) (v4_14 : Int32) (w : Wd) (H : Heap) (locs : List Loc) (ls : Array Slot), HQ E K z w s H locs → lv_has ls 5 [(1, rv E v1_14), (2, .int v2_14), (3, .int v3_14), (4, .int v4_14), (0, rv E (some o))] → f_X6_findIn_L14 K o k n v1_14 v2_14 v3_14 v4_14 w = some (r, w') → W p l e ({ frames := 2, cells := 0, slots := 0, locals := 46 } : Room) s m args below meth c H locs 0 0 (MQ below (QI E K z w' (b2i r)) args s 0 0 (hA E)) (F0 m 14 ls []) := by
  obtain ⟨hx, hb, hml, hown, hts, hKs, hT, hb0, hlocks, hret⟩ := id C
  intro n
  induction n with
  | zero =>
    intro v1_14 v2_14 v3_14 v4_14 w H locs ls hH hl hf
    cases hf
  | succ n ih =>
    intro v1_14 v2_14 v3_14 v4_14 w H locs ls hH hl hf
    rw [f_X6_findIn_L14] at hf
    refine lv_iload hx hb dX6_findIn_14 (lv_at hl 3 rfl) ?_
    refine hl_aload_n hx hb dX6_findIn_16 rfl (lv_at hl 0 rfl) ?_
    refine lv_iconst (v := 0) hx hb dX6_findIn_17 (by decide) ?_
    obtain ⟨a5, ha5, hf⟩ := bnd hf
    replace ha5 := chk_some ha5
    obtain ⟨q6, hq6, hf⟩ := bnd hf
    refine hcV_i hx hb hml hown hts hKs hT hb0 hH (As := [.int 0]) (rest := [.int v4_14]) (k_X9_size l E K H.size a5 0 w ha5.2 hq6) (gV m3_190 m3_22 m3_23 m1_2 m3_24) hd_X9_size ⟨Nat.le_of_ble_eq_true rfl, Nat.le_of_ble_eq_true rfl, rfl, rfl⟩ ha5.1 ha5.2 rfl rfl rfl hl.1 rfl (rcI rc0) rfl dX6_findIn_18 ⟨Nat.zero_le _, Nat.zero_le _⟩ (fun H locs hH => ?_)
    refine lv_icmp_ge (tgt := 70) hx hb dX6_findIn_21 (by decide) (fun c7 => ?_) (fun c7 => ?_)
    · replace hf := (if_pos c7).symm.trans hf
      exact hk v1_14 v2_14 v3_14 v4_14 _ _ _ _ hH (lv_sub hl [0, 1, 2, 3, 4] rfl) hf
    · replace hf := (if_neg c7).symm.trans hf
      refine lv_iload_n hx hb dX6_findIn_24 rfl (lv_at hl 2 rfl) ?_
      refine lv_iconst (v := (-1)) hx hb dX6_findIn_25 (by decide) ?_
      refine lv_icmp_eq (tgt := 70) hx hb dX6_findIn_26 (by decide) (fun c8 => ?_) (fun c8 => ?_)
      · replace hf := (if_pos c8).symm.trans hf
        exact hk v1_14 v2_14 v3_14 v4_14 _ _ _ _ hH (lv_sub hl [0, 1, 2, 3, 4] rfl) hf
      · replace hf := (if_neg c8).symm.trans hf
        refine lv_iload_n hx hb dX6_findIn_29 rfl (lv_at hl 1 rfl) ?_
        refine hl_aload_n hx hb dX6_findIn_30 rfl (lv_at hl 4 rfl) ?_
        refine g6_0 hx hb hts hown hKs hH rfl ho m2_148 dX6_findIn_31 ?_
        refine lv_iload hx hb dX6_findIn_34 (lv_at hl 3 rfl) ?_
        obtain ⟨a9, ha9, hf⟩ := bnd hf
        replace ha9 := cha_some ha9
        obtain ⟨j10, hj10, hf⟩ := bnd hf
        refine hw_iald hx hb hKs hH ha9.1 ha9.2 hj10 dX6_findIn_36 ?_
        refine hl_aload_n hx hb dX6_findIn_37 rfl (lv_at hl 0 rfl) ?_
        refine gn9_1 hx hb hts hown hKs hH ha5.1 ha5.2 m1_154 dX6_findIn_38 ?_
        refine lv_iload hx hb dX6_findIn_41 (lv_at hl 3 rfl) ?_
        obtain ⟨a11, ha11, hf⟩ := bnd hf
        replace ha11 := cha_some ha11
        obtain ⟨j12, hj12, hf⟩ := bnd hf
        refine hw_iald hx hb hKs hH ha11.1 ha11.2 hj12 dX6_findIn_43 ?_
        refine lv_iconst (v := (-1)) hx hb dX6_findIn_44 (by decide) ?_
        refine lv_ixor hx hb dX6_findIn_45 ?_
        refine lv_ior hx hb dX6_findIn_46 ?_
        refine lv_iand hx hb dX6_findIn_47 ?_
        refine lv_if_ne (tgt := 64) hx hb dX6_findIn_48 (by decide) (fun c13 => ?_) (fun c13 => ?_)
        · replace hf := (if_neg c13).symm.trans hf
          refine lv_iinc (v := (v4_14 + 1)) (lv' := [(4, .int ((v4_14 + 1))), (1, rv E v1_14), (2, .int v2_14), (3, .int v3_14), (0, rv E (some o))]) hx hb dX6_findIn_64 hl (k := 3) rfl rfl (by decide) rfl (fun ls hl => ?_)
          refine lv_goto (tgt := 14) hx hb dX6_findIn_67 (by decide) ?_
          exact ih v1_14 v2_14 v3_14 (v4_14 + 1) _ _ _ _ hH (lv_sub hl [1, 2, 3, 0, 4] rfl) hf
        · replace hf := (if_pos c13).symm.trans hf
          refine hl_aload_n hx hb dX6_findIn_51 rfl (lv_at hl 4 rfl) ?_
          refine lv_iload hx hb dX6_findIn_52 (lv_at hl 3 rfl) ?_
          obtain ⟨w14, hw14, hf⟩ := bnd hf
          replace hw14 := Option.some.inj hw14
          refine p6_10 (v := v4_14) hx hb hts hown hKs hH rfl ho m2_160 dX6_findIn_54 (fun H locs hH => ?_)
          rw [hw14] at hH
          refine hl_aload_n hx hb dX6_findIn_57 rfl (lv_at hl 4 rfl) ?_
          refine lv_iload_n hx hb dX6_findIn_58 rfl (lv_at hl 2 rfl) ?_
          obtain ⟨w15, hw15, hf⟩ := bnd hf
          replace hw15 := Option.some.inj hw15
          refine p6_11 (v := v3_14) hx hb hts hown hKs hH rfl ho m2_162 dX6_findIn_59 (fun H locs hH => ?_)
          rw [hw15] at hH
          refine lv_iconst (v := 1) hx hb dX6_findIn_62 (by decide) ?_
          exact hw_zret hx hb hret rfl hf hH hlocks dX6_findIn_63
set_option maxHeartbeats 4000000 in
set_option maxRecDepth 100000 in
theorem k_X6_findIn (l : Launch) (E : Ev) (K : Kd) (z : Nat) (o : Nat) (a_1 : Option Nat) (a_2 : Int32) (w : Wd) (ho : K o = some (5, 0)) {r : Bool} {w' : Wd} (hf : f_X6_findIn K o a_1 a_2 w = some (r, w')) : Met l yX6_findIn (Cond.code yX6_findIn cX6_findIn 5 (Option.some Jvm.ClassFile.FieldType.boolean) :: bt) ({ frames := 2, cells := 0, slots := 0, locals := 46 } : Room) (va_Pc [rv E (some o), rv E a_1, .int a_2] (HB E K w z)) (QI E K z w' (b2i r)) 0 0 (hA E) := by
  refine Met.ofW (cc := cX6_findIn) (maxL := 5) (ret := (Option.some Jvm.ClassFile.FieldType.boolean)) (by decide) rfl ?_
  intro p e s m args below meth c s₁ B hml hv
  obtain ⟨rfl, hz, hP, hKs, hT, hb0⟩ := hv
  have C : CX p l e s m _ meth c cX6_findIn 5 RX6 (Option.some Jvm.ClassFile.FieldType.boolean) E := ⟨B.exec, B.bytes, hml, findClass_of_methodNamed B.named, fun w h => atoms_spec (ws := Cond.code yX6_findIn cX6_findIn 5 (Option.some Jvm.ClassFile.FieldType.boolean) :: bt) B.pre w (List.mem_cons_of_mem _ h), hKs, hT, by rw [hz]; exact hb0, B.notSynchronized, B.returns⟩
  have hH : HQ E K z w s s.heap [] := ⟨hP, va_S.rf, hz⟩
  obtain ⟨hx, hb, hml, hown, hts, hKs, hT, hb0, hlocks, hret⟩ := id C
  have hl := lv_entry [rv E (some o), rv E a_1, .int a_2] (n := 5) (by simp [lg_len_nil, lg_len_i, lg_len_j, lg_len_q, lg_len_f, lg_len_d, lg_len_r])
  rw [lg_entry_eq]
  generalize (lg_sl [rv E (some o), rv E a_1, .int a_2] ++ List.replicate (5 - (lg_sl [rv E (some o), rv E a_1, .int a_2]).length) Slot.unset).toArray = ls at hl ⊢
  replace hl : lv_has ls 5 [(0, rv E (some o)), (1, rv E a_1), (2, .int a_2)] := by simpa only [lv_args, cat_q, cat_i, cat_j, reduceIte, Nat.reduceEqDiff, Nat.reduceAdd, Nat.zero_add] using hl
  generalize s.heap = H at hH ⊢
  unfold f_X6_findIn at hf
  refine hl_aload_n hx hb dX6_findIn_0 rfl (lv_at hl 0 rfl) ?_
  refine hl_aload_n hx hb dX6_findIn_1 rfl (lv_at hl 1 rfl) ?_
  refine lv_iconst (v := 1) hx hb dX6_findIn_2 (by decide) ?_
  obtain ⟨a1, ha1, hf⟩ := bnd hf
  replace ha1 := chk_some ha1
  obtain ⟨q2, hq2, hf⟩ := bnd hf
  refine hcV_i hx hb hml hown hts hKs hT hb0 hH (As := [.int 1]) (rest := [rv E (some o)]) (k_X9_size l E K H.size a1 1 w ha1.2 hq2) (gV m3_190 m3_22 m3_23 m1_2 m3_24) hd_X9_size ⟨Nat.le_of_ble_eq_true rfl, Nat.le_of_ble_eq_true rfl, rfl, rfl⟩ ha1.1 ha1.2 rfl rfl rfl hl.1 rfl (rcV rc0) rfl dX6_findIn_3 ⟨Nat.zero_le _, Nat.zero_le _⟩ (fun H locs hH => ?_)
  refine lv_iload_n hx hb dX6_findIn_6 rfl (lv_at hl 2 rfl) ?_
  obtain ⟨q3, hq3, hf⟩ := bnd hf
  refine hcV_i hx hb hml hown hts hKs hT hb0 hH (As := [.int (q2.1), .int a_2]) (rest := []) (k_X6_leastLoaded l E K H.size o q2.1 a_2 q2.2 ho hq3) (gV m4_7 m4_9 ms_8 m1_14 m4_10) hd_X6_leastLoaded ⟨Nat.le_of_ble_eq_true rfl, Nat.le_of_ble_eq_true rfl, rfl, rfl⟩ rfl ho rfl rfl rfl hl.1 rfl rc0 rfl dX6_findIn_7 ⟨Nat.zero_le _, Nat.zero_le _⟩ (fun H locs hH => ?_)
  refine lv_istore_n (i := 3) (lv' := [(3, .int (q3.1)), (0, rv E (some o)), (1, rv E a_1), (2, .int a_2)]) hx hb dX6_findIn_10 rfl hl (by decide) rfl (fun ls hl => ?_)
  refine lv_iconst (v := 0) hx hb dX6_findIn_11 (by decide) ?_
  refine lv_istore (i := 4) (lv' := [(4, .int 0), (3, .int (q3.1)), (0, rv E (some o)), (1, rv E a_1), (2, .int a_2)]) hx hb dX6_findIn_12 hl (by decide) rfl (fun ls hl => ?_)
  refine l_X6_findIn_L14  C ho _ (fun v1_14 v2_14 v3_14 v4_14 w4 H locs ls hH hl hf => ?_) fu a_1 a_2 q3.1 0 q3.2 _ _ _ hH (lv_sub hl [3, 4, 1, 0, 2] rfl) hf
  refine lv_iconst (v := 0) hx hb dX6_findIn_70 (by decide) ?_
  exact hw_zret hx hb hret rfl hf hH hlocks dX6_findIn_71

theorem dX6_lookAtOfficers_0 : decode cX6_lookAtOfficers 0 = .ok (.aload_n 0, 1) := by decide +kernel
theorem dX6_lookAtOfficers_1 : decode cX6_lookAtOfficers 1 = .ok (.aload_n 1, 1) := by decide +kernel
theorem dX6_lookAtOfficers_2 : decode cX6_lookAtOfficers 2 = .ok (.iload_n 2, 1) := by decide +kernel
theorem dX6_lookAtOfficers_3 : decode cX6_lookAtOfficers 3 = .ok (.invokevirtual 147, 3) := by decide +kernel
theorem dX6_lookAtOfficers_6 : decode cX6_lookAtOfficers 6 = .ok (.putfield 78, 3) := by decide +kernel
theorem dX6_lookAtOfficers_9 : decode cX6_lookAtOfficers 9 = .ok (.iconst 0, 1) := by decide +kernel
theorem dX6_lookAtOfficers_10 : decode cX6_lookAtOfficers 10 = .ok (.istore_n 3, 1) := by decide +kernel
theorem dX6_lookAtOfficers_11 : decode cX6_lookAtOfficers 11 = .ok (.iload_n 3, 1) := by decide +kernel
theorem dX6_lookAtOfficers_12 : decode cX6_lookAtOfficers 12 = .ok (.aload_n 1, 1) := by decide +kernel
theorem dX6_lookAtOfficers_13 : decode cX6_lookAtOfficers 13 = .ok (.getfield 24, 3) := by decide +kernel
theorem dX6_lookAtOfficers_16 : decode cX6_lookAtOfficers 16 = .ok (.iconst 1, 1) := by decide +kernel
theorem dX6_lookAtOfficers_17 : decode cX6_lookAtOfficers 17 = .ok (.invokevirtual 141, 3) := by decide +kernel
theorem dX6_lookAtOfficers_20 : decode cX6_lookAtOfficers 20 = .ok (.if_icmp .ge 20, 3) := by decide +kernel
theorem dX6_lookAtOfficers_23 : decode cX6_lookAtOfficers 23 = .ok (.aload_n 0, 1) := by decide +kernel
theorem dX6_lookAtOfficers_24 : decode cX6_lookAtOfficers 24 = .ok (.getfield 18, 3) := by decide +kernel
theorem dX6_lookAtOfficers_27 : decode cX6_lookAtOfficers 27 = .ok (.iload_n 3, 1) := by decide +kernel
theorem dX6_lookAtOfficers_28 : decode cX6_lookAtOfficers 28 = .ok (.aload_n 1, 1) := by decide +kernel
theorem dX6_lookAtOfficers_29 : decode cX6_lookAtOfficers 29 = .ok (.iload_n 3, 1) := by decide +kernel
theorem dX6_lookAtOfficers_30 : decode cX6_lookAtOfficers 30 = .ok (.invokevirtual 150, 3) := by decide +kernel
theorem dX6_lookAtOfficers_33 : decode cX6_lookAtOfficers 33 = .ok (.iastore, 1) := by decide +kernel
theorem dX6_lookAtOfficers_34 : decode cX6_lookAtOfficers 34 = .ok (.iinc 3 1, 3) := by decide +kernel
theorem dX6_lookAtOfficers_37 : decode cX6_lookAtOfficers 37 = .ok (.goto (-26), 3) := by decide +kernel
theorem dX6_lookAtOfficers_40 : decode cX6_lookAtOfficers 40 = .ok (.return_, 1) := by decide +kernel
theorem hd_X6_lookAtOfficers : yX6_lookAtOfficers.cls = RX6 ∧ yX6_lookAtOfficers.cls ≠ "java/lang/invoke/MethodHandle" ∧ yX6_lookAtOfficers.cls ≠ "java/lang/invoke/VarHandle" ∧ (parseMethodDescriptor yX6_lookAtOfficers.desc).map (fun d => d.parameters.length) = some 2 := by decide +kernel
theorem hs_X6_lookAtOfficers : yX6_lookAtOfficers.cls ≠ "java/lang/invoke/MethodHandle" ∧ yX6_lookAtOfficers.cls ≠ "java/lang/invoke/VarHandle" ∧ (parseMethodDescriptor yX6_lookAtOfficers.desc).map (fun d => d.parameters.length) = some 2 := by decide +kernel
set_option maxHeartbeats 4000000 in
set_option maxRecDepth 100000 in
theorem l_X6_lookAtOfficers_L11 (C : CX p l e s m args meth c cX6_lookAtOfficers 4 RX6 (Option.none : Option Jvm.ClassFile.FieldType) E) {o : Nat} (ho : K o = some (5, 0)) {w' : Wd} (k : Option Nat → Int32 → Int32 → Wd → Option Wd) (hk : ∀ (v1_11 : Option Nat) (v2_11 : Int32) (v3_11 : Int32) (w : Wd) (H : Heap) (locs : List Loc) (ls : Array Slot), HQ E K z w s H locs → lv_has ls 4 [(1, rv E v1_11), (2, .int v2_11), (3, .int v3_11), (0, rv E (some o))] → k v1_11 v2_11 v3_11 w = some w' → W p l e ({ frames := 2, cells := 0, slots := 0, locals := 45 } : Room) s m args below meth c H locs 0 0 (MQ below (QV E K z w') args s 0 0 (hA E)) (F0 m 40 ls [])) : ∀ (n : Nat) (v1_11 : Option Nat) (v2_11 : Int32) (v3_11 : Int32) (w : Wd) (H : Heap) (locs : List Loc) (ls : Array Slot), HQ E K z w s H locs → lv_has ls 4 [(1, rv E v1_11), (2, .int v2_11), (3, .int v3_11), (0, rv E (some o))] → f_X6_lookAtOfficers_L11 K o k n v1_11 v2_11 v3_11 w = some w' → W p l e ({ frames := 2, cells := 0, slots := 0, locals := 45 } : Room) s m args below meth c H locs 0 0 (MQ below (QV E K z w') args s 0 0 (hA E)) (F0 m 11 ls []) := by
  obtain ⟨hx, hb, hml, hown, hts, hKs, hT, hb0, hlocks, hret⟩ := id C
  intro n
  induction n with
  | zero =>
    intro v1_11 v2_11 v3_11 w H locs ls hH hl hf
    cases hf
  | succ n ih =>
    intro v1_11 v2_11 v3_11 w H locs ls hH hl hf
    rw [f_X6_lookAtOfficers_L11] at hf
    refine lv_iload_n hx hb dX6_lookAtOfficers_11 rfl (lv_at hl 2 rfl) ?_
    refine hl_aload_n hx hb dX6_lookAtOfficers_12 rfl (lv_at hl 0 rfl) ?_
    obtain ⟨a5, ha5, hf⟩ := bnd hf
    replace ha5 := chk_some ha5
    refine gn10_0 hx hb hts hown hKs hH ha5.1 ha5.2 m2_114 dX6_lookAtOfficers_13 ?_
    refine lv_iconst (v := 1) hx hb dX6_lookAtOfficers_16 (by decide) ?_
    obtain ⟨a6, ha6, hf⟩ := bnd hf
    replace ha6 := chk_some ha6
    obtain ⟨q7, hq7, hf⟩ := bnd hf
    refine hcV_i hx hb hml hown hts hKs hT hb0 hH (As := [.int 1]) (rest := [.int v3_11]) (k_X9_size l E K H.size a6 1 w ha6.2 hq7) (gV m3_190 m3_22 m3_23 m1_2 m3_24) hd_X9_size ⟨Nat.le_of_ble_eq_true rfl, Nat.le_of_ble_eq_true rfl, rfl, rfl⟩ ha6.1 ha6.2 rfl rfl rfl hl.1 rfl (rcI rc0) rfl dX6_lookAtOfficers_17 ⟨Nat.zero_le _, Nat.zero_le _⟩ (fun H locs hH => ?_)
    refine lv_icmp_ge (tgt := 40) hx hb dX6_lookAtOfficers_20 (by decide) (fun c8 => ?_) (fun c8 => ?_)
    · replace hf := (if_pos c8).symm.trans hf
      exact hk v1_11 v2_11 v3_11 _ _ _ _ hH (lv_sub hl [0, 1, 2, 3] rfl) hf
    · replace hf := (if_neg c8).symm.trans hf
      refine hl_aload_n hx hb dX6_lookAtOfficers_23 rfl (lv_at hl 3 rfl) ?_
      refine g6_2 hx hb hts hown hKs hH rfl ho m2_150 dX6_lookAtOfficers_24 ?_
      refine lv_iload_n hx hb dX6_lookAtOfficers_27 rfl (lv_at hl 2 rfl) ?_
      refine hl_aload_n hx hb dX6_lookAtOfficers_28 rfl (lv_at hl 0 rfl) ?_
      refine lv_iload_n hx hb dX6_lookAtOfficers_29 rfl (lv_at hl 2 rfl) ?_
      obtain ⟨q9, hq9, hf⟩ := bnd hf
      refine hcV_i hx hb hml hown hts hKs hT hb0 hH (As := [.int v3_11]) (rest := [.int v3_11, rv E (wR q7.2 602 o)]) (k_X10_loadOf l E K H.size a5 v3_11 q7.2 ha5.2 hq9) (gV m3_191 m3_192 m3_193 m1_12 m3_194) hd_X10_loadOf ⟨Nat.le_of_ble_eq_true rfl, Nat.le_of_ble_eq_true rfl, rfl, rfl⟩ ha5.1 ha5.2 rfl rfl rfl hl.1 rfl (rcI (rcV rc0)) rfl dX6_lookAtOfficers_30 ⟨Nat.zero_le _, Nat.zero_le _⟩ (fun H locs hH => ?_)
      obtain ⟨a10, ha10, hf⟩ := bnd hf
      replace ha10 := cha_some ha10
      obtain ⟨j11, hj11, hf⟩ := bnd hf
      obtain ⟨w12, hw12, hf⟩ := bnd hf
      replace hw12 := Option.some.inj hw12
      refine hw_iast (x := q9.1) hx hb hKs hH ha10.1 ha10.2 hj11 dX6_lookAtOfficers_33 (fun H locs hH => ?_)
      rw [hw12] at hH
      refine lv_iinc (v := (v3_11 + 1)) (lv' := [(3, .int ((v3_11 + 1))), (1, rv E v1_11), (2, .int v2_11), (0, rv E (some o))]) hx hb dX6_lookAtOfficers_34 hl (k := 2) rfl rfl (by decide) rfl (fun ls hl => ?_)
      refine lv_goto (tgt := 11) hx hb dX6_lookAtOfficers_37 (by decide) ?_
      exact ih v1_11 v2_11 (v3_11 + 1) _ _ _ _ hH (lv_sub hl [1, 2, 0, 3] rfl) hf
set_option maxHeartbeats 4000000 in
set_option maxRecDepth 100000 in
theorem k_X6_lookAtOfficers (l : Launch) (E : Ev) (K : Kd) (z : Nat) (o : Nat) (a_1 : Option Nat) (a_2 : Int32) (w : Wd) (ho : K o = some (5, 0)) {w' : Wd} (hf : f_X6_lookAtOfficers K o a_1 a_2 w = some w') : Met l yX6_lookAtOfficers (Cond.code yX6_lookAtOfficers cX6_lookAtOfficers 4 (Option.none : Option Jvm.ClassFile.FieldType) :: bt) ({ frames := 2, cells := 0, slots := 0, locals := 45 } : Room) (va_Pc [rv E (some o), rv E a_1, .int a_2] (HB E K w z)) (QV E K z w') 0 0 (hA E) := by
  refine Met.ofW (cc := cX6_lookAtOfficers) (maxL := 4) (ret := (Option.none : Option Jvm.ClassFile.FieldType)) (by decide) rfl ?_
  intro p e s m args below meth c s₁ B hml hv
  obtain ⟨rfl, hz, hP, hKs, hT, hb0⟩ := hv
  have C : CX p l e s m _ meth c cX6_lookAtOfficers 4 RX6 (Option.none : Option Jvm.ClassFile.FieldType) E := ⟨B.exec, B.bytes, hml, findClass_of_methodNamed B.named, fun w h => atoms_spec (ws := Cond.code yX6_lookAtOfficers cX6_lookAtOfficers 4 (Option.none : Option Jvm.ClassFile.FieldType) :: bt) B.pre w (List.mem_cons_of_mem _ h), hKs, hT, by rw [hz]; exact hb0, B.notSynchronized, B.returns⟩
  have hH : HQ E K z w s s.heap [] := ⟨hP, va_S.rf, hz⟩
  obtain ⟨hx, hb, hml, hown, hts, hKs, hT, hb0, hlocks, hret⟩ := id C
  have hl := lv_entry [rv E (some o), rv E a_1, .int a_2] (n := 4) (by simp [lg_len_nil, lg_len_i, lg_len_j, lg_len_q, lg_len_f, lg_len_d, lg_len_r])
  rw [lg_entry_eq]
  generalize (lg_sl [rv E (some o), rv E a_1, .int a_2] ++ List.replicate (4 - (lg_sl [rv E (some o), rv E a_1, .int a_2]).length) Slot.unset).toArray = ls at hl ⊢
  replace hl : lv_has ls 4 [(0, rv E (some o)), (1, rv E a_1), (2, .int a_2)] := by simpa only [lv_args, cat_q, cat_i, cat_j, reduceIte, Nat.reduceEqDiff, Nat.reduceAdd, Nat.zero_add] using hl
  generalize s.heap = H at hH ⊢
  unfold f_X6_lookAtOfficers at hf
  refine hl_aload_n hx hb dX6_lookAtOfficers_0 rfl (lv_at hl 0 rfl) ?_
  refine hl_aload_n hx hb dX6_lookAtOfficers_1 rfl (lv_at hl 1 rfl) ?_
  refine lv_iload_n hx hb dX6_lookAtOfficers_2 rfl (lv_at hl 2 rfl) ?_
  obtain ⟨a1, ha1, hf⟩ := bnd hf
  replace ha1 := chk_some ha1
  obtain ⟨q2, hq2, hf⟩ := bnd hf
  refine hcV_i hx hb hml hown hts hKs hT hb0 hH (As := [.int a_2]) (rest := [rv E (some o)]) (k_X10_barredOfficers l E K H.size a1 a_2 w ha1.2 hq2) (gV m3_183 m3_184 m3_185 m1_12 m3_186) hd_X10_barredOfficers ⟨Nat.le_of_ble_eq_true rfl, Nat.le_of_ble_eq_true rfl, rfl, rfl⟩ ha1.1 ha1.2 rfl rfl rfl hl.1 rfl (rcV rc0) rfl dX6_lookAtOfficers_3 ⟨Nat.zero_le _, Nat.zero_le _⟩ (fun H locs hH => ?_)
  obtain ⟨w3, hw3, hf⟩ := bnd hf
  replace hw3 := Option.some.inj hw3
  refine p6_4 (v := q2.1) hx hb hts hown hKs hH rfl ho m2_152 dX6_lookAtOfficers_6 (fun H locs hH => ?_)
  rw [hw3] at hH
  refine lv_iconst (v := 0) hx hb dX6_lookAtOfficers_9 (by decide) ?_
  refine lv_istore_n (i := 3) (lv' := [(3, .int 0), (0, rv E (some o)), (1, rv E a_1), (2, .int a_2)]) hx hb dX6_lookAtOfficers_10 rfl hl (by decide) rfl (fun ls hl => ?_)
  refine l_X6_lookAtOfficers_L11  C ho _ (fun v1_11 v2_11 v3_11 w4 H locs ls hH hl hf => ?_) fu a_1 a_2 0 w3 _ _ _ hH (lv_sub hl [2, 3, 0, 1] rfl) hf
  exact hw_vret hx hb hret hf hH hlocks dX6_lookAtOfficers_40

theorem dX6_lookAtDay_0 : decode cX6_lookAtDay 0 = .ok (.aload_n 1, 1) := by decide +kernel
theorem dX6_lookAtDay_1 : decode cX6_lookAtDay 1 = .ok (.getfield 24, 3) := by decide +kernel
theorem dX6_lookAtDay_4 : decode cX6_lookAtDay 4 = .ok (.astore 5, 2) := by decide +kernel
theorem dX6_lookAtDay_6 : decode cX6_lookAtDay 6 = .ok (.aload 5, 2) := by decide +kernel
theorem dX6_lookAtDay_8 : decode cX6_lookAtDay 8 = .ok (.getfield 30, 3) := by decide +kernel
theorem dX6_lookAtDay_11 : decode cX6_lookAtDay 11 = .ok (.iload_n 2, 1) := by decide +kernel
theorem dX6_lookAtDay_12 : decode cX6_lookAtDay 12 = .ok (.aaload, 1) := by decide +kernel
theorem dX6_lookAtDay_13 : decode cX6_lookAtDay 13 = .ok (.getfield 153, 3) := by decide +kernel
theorem dX6_lookAtDay_16 : decode cX6_lookAtDay 16 = .ok (.istore 6, 2) := by decide +kernel
theorem dX6_lookAtDay_18 : decode cX6_lookAtDay 18 = .ok (.aload_n 0, 1) := by decide +kernel
theorem dX6_lookAtDay_19 : decode cX6_lookAtDay 19 = .ok (.getfield 9, 3) := by decide +kernel
theorem dX6_lookAtDay_22 : decode cX6_lookAtDay 22 = .ok (.iconst 0, 1) := by decide +kernel
theorem dX6_lookAtDay_23 : decode cX6_lookAtDay 23 = .ok (.invokestatic 156, 3) := by decide +kernel
theorem dX6_lookAtDay_26 : decode cX6_lookAtDay 26 = .ok (.aload_n 0, 1) := by decide +kernel
theorem dX6_lookAtDay_27 : decode cX6_lookAtDay 27 = .ok (.getfield 15, 3) := by decide +kernel
theorem dX6_lookAtDay_30 : decode cX6_lookAtDay 30 = .ok (.iconst 0, 1) := by decide +kernel
theorem dX6_lookAtDay_31 : decode cX6_lookAtDay 31 = .ok (.invokestatic 156, 3) := by decide +kernel
theorem dX6_lookAtDay_34 : decode cX6_lookAtDay 34 = .ok (.aload_n 0, 1) := by decide +kernel
theorem dX6_lookAtDay_35 : decode cX6_lookAtDay 35 = .ok (.iconst 0, 1) := by decide +kernel
theorem dX6_lookAtDay_36 : decode cX6_lookAtDay 36 = .ok (.putfield 84, 3) := by decide +kernel
theorem dX6_lookAtDay_39 : decode cX6_lookAtDay 39 = .ok (.aload_n 0, 1) := by decide +kernel
theorem dX6_lookAtDay_40 : decode cX6_lookAtDay 40 = .ok (.iload 4, 2) := by decide +kernel
theorem dX6_lookAtDay_42 : decode cX6_lookAtDay 42 = .ok (.aload 5, 2) := by decide +kernel
theorem dX6_lookAtDay_44 : decode cX6_lookAtDay 44 = .ok (.iload_n 3, 1) := by decide +kernel
theorem dX6_lookAtDay_45 : decode cX6_lookAtDay 45 = .ok (.invokevirtual 162, 3) := by decide +kernel
theorem dX6_lookAtDay_48 : decode cX6_lookAtDay 48 = .ok (.ior, 1) := by decide +kernel
theorem dX6_lookAtDay_49 : decode cX6_lookAtDay 49 = .ok (.putfield 71, 3) := by decide +kernel
theorem dX6_lookAtDay_52 : decode cX6_lookAtDay 52 = .ok (.aload_n 0, 1) := by decide +kernel
theorem dX6_lookAtDay_53 : decode cX6_lookAtDay 53 = .ok (.aload_n 1, 1) := by decide +kernel
theorem dX6_lookAtDay_54 : decode cX6_lookAtDay 54 = .ok (.iload 6, 2) := by decide +kernel
theorem dX6_lookAtDay_56 : decode cX6_lookAtDay 56 = .ok (.iload_n 3, 1) := by decide +kernel
theorem dX6_lookAtDay_57 : decode cX6_lookAtDay 57 = .ok (.invokevirtual 165, 3) := by decide +kernel
theorem dX6_lookAtDay_60 : decode cX6_lookAtDay 60 = .ok (.putfield 81, 3) := by decide +kernel
theorem dX6_lookAtDay_63 : decode cX6_lookAtDay 63 = .ok (.iconst 0, 1) := by decide +kernel
theorem dX6_lookAtDay_64 : decode cX6_lookAtDay 64 = .ok (.istore 7, 2) := by decide +kernel
theorem dX6_lookAtDay_66 : decode cX6_lookAtDay 66 = .ok (.iload 7, 2) := by decide +kernel
theorem dX6_lookAtDay_68 : decode cX6_lookAtDay 68 = .ok (.aload 5, 2) := by decide +kernel
theorem dX6_lookAtDay_70 : decode cX6_lookAtDay 70 = .ok (.iconst 3, 1) := by decide +kernel
theorem dX6_lookAtDay_71 : decode cX6_lookAtDay 71 = .ok (.invokevirtual 141, 3) := by decide +kernel
theorem dX6_lookAtDay_74 : decode cX6_lookAtDay 74 = .ok (.if_icmp .ge 101, 3) := by decide +kernel
theorem dX6_lookAtDay_77 : decode cX6_lookAtDay 77 = .ok (.aload_n 1, 1) := by decide +kernel
theorem dX6_lookAtDay_78 : decode cX6_lookAtDay 78 = .ok (.getfield 98, 3) := by decide +kernel
theorem dX6_lookAtDay_81 : decode cX6_lookAtDay 81 = .ok (.iload 7, 2) := by decide +kernel
theorem dX6_lookAtDay_83 : decode cX6_lookAtDay 83 = .ok (.aaload, 1) := by decide +kernel
theorem dX6_lookAtDay_84 : decode cX6_lookAtDay 84 = .ok (.astore 8, 2) := by decide +kernel
theorem dX6_lookAtDay_86 : decode cX6_lookAtDay 86 = .ok (.iload 7, 2) := by decide +kernel
theorem dX6_lookAtDay_88 : decode cX6_lookAtDay 88 = .ok (.iload_n 2, 1) := by decide +kernel
theorem dX6_lookAtDay_89 : decode cX6_lookAtDay 89 = .ok (.if_icmp .eq 80, 3) := by decide +kernel
theorem dX6_lookAtDay_92 : decode cX6_lookAtDay 92 = .ok (.aload 8, 2) := by decide +kernel
theorem dX6_lookAtDay_94 : decode cX6_lookAtDay 94 = .ok (.iload_n 3, 1) := by decide +kernel
theorem dX6_lookAtDay_95 : decode cX6_lookAtDay 95 = .ok (.invokevirtual 168, 3) := by decide +kernel
theorem dX6_lookAtDay_98 : decode cX6_lookAtDay 98 = .ok (.ifCond .eq 71, 3) := by decide +kernel
theorem dX6_lookAtDay_101 : decode cX6_lookAtDay 101 = .ok (.aload_n 1, 1) := by decide +kernel
theorem dX6_lookAtDay_102 : decode cX6_lookAtDay 102 = .ok (.iload 7, 2) := by decide +kernel
theorem dX6_lookAtDay_104 : decode cX6_lookAtDay 104 = .ok (.invokevirtual 171, 3) := by decide +kernel
theorem dX6_lookAtDay_107 : decode cX6_lookAtDay 107 = .ok (.istore 9, 2) := by decide +kernel
theorem dX6_lookAtDay_109 : decode cX6_lookAtDay 109 = .ok (.aload_n 0, 1) := by decide +kernel
theorem dX6_lookAtDay_110 : decode cX6_lookAtDay 110 = .ok (.getfield 9, 3) := by decide +kernel
theorem dX6_lookAtDay_113 : decode cX6_lookAtDay 113 = .ok (.aload 8, 2) := by decide +kernel
theorem dX6_lookAtDay_115 : decode cX6_lookAtDay 115 = .ok (.getfield 174, 3) := by decide +kernel
theorem dX6_lookAtDay_118 : decode cX6_lookAtDay 118 = .ok (.iload 9, 2) := by decide +kernel
theorem dX6_lookAtDay_120 : decode cX6_lookAtDay 120 = .ok (.invokestatic 175, 3) := by decide +kernel
theorem dX6_lookAtDay_123 : decode cX6_lookAtDay 123 = .ok (.aload_n 0, 1) := by decide +kernel
theorem dX6_lookAtDay_124 : decode cX6_lookAtDay 124 = .ok (.getfield 15, 3) := by decide +kernel
theorem dX6_lookAtDay_127 : decode cX6_lookAtDay 127 = .ok (.aload 8, 2) := by decide +kernel
theorem dX6_lookAtDay_129 : decode cX6_lookAtDay 129 = .ok (.getfield 179, 3) := by decide +kernel
theorem dX6_lookAtDay_132 : decode cX6_lookAtDay 132 = .ok (.iload 9, 2) := by decide +kernel
theorem dX6_lookAtDay_134 : decode cX6_lookAtDay 134 = .ok (.invokestatic 175, 3) := by decide +kernel
theorem dX6_lookAtDay_137 : decode cX6_lookAtDay 137 = .ok (.aload_n 0, 1) := by decide +kernel
theorem dX6_lookAtDay_138 : decode cX6_lookAtDay 138 = .ok (.dup, 1) := by decide +kernel
theorem dX6_lookAtDay_139 : decode cX6_lookAtDay 139 = .ok (.getfield 84, 3) := by decide +kernel
theorem dX6_lookAtDay_142 : decode cX6_lookAtDay 142 = .ok (.iload 6, 2) := by decide +kernel
theorem dX6_lookAtDay_144 : decode cX6_lookAtDay 144 = .ok (.aload 5, 2) := by decide +kernel
theorem dX6_lookAtDay_146 : decode cX6_lookAtDay 146 = .ok (.getfield 30, 3) := by decide +kernel
theorem dX6_lookAtDay_149 : decode cX6_lookAtDay 149 = .ok (.iload 7, 2) := by decide +kernel
theorem dX6_lookAtDay_151 : decode cX6_lookAtDay 151 = .ok (.aaload, 1) := by decide +kernel
theorem dX6_lookAtDay_152 : decode cX6_lookAtDay 152 = .ok (.getfield 153, 3) := by decide +kernel
theorem dX6_lookAtDay_155 : decode cX6_lookAtDay 155 = .ok (.iand, 1) := by decide +kernel
theorem dX6_lookAtDay_156 : decode cX6_lookAtDay 156 = .ok (.ifCond .eq 8, 3) := by decide +kernel
theorem dX6_lookAtDay_159 : decode cX6_lookAtDay 159 = .ok (.iload 9, 2) := by decide +kernel
theorem dX6_lookAtDay_161 : decode cX6_lookAtDay 161 = .ok (.goto 4, 3) := by decide +kernel
theorem dX6_lookAtDay_164 : decode cX6_lookAtDay 164 = .ok (.iconst 0, 1) := by decide +kernel
theorem dX6_lookAtDay_165 : decode cX6_lookAtDay 165 = .ok (.ior, 1) := by decide +kernel
theorem dX6_lookAtDay_166 : decode cX6_lookAtDay 166 = .ok (.putfield 84, 3) := by decide +kernel
theorem dX6_lookAtDay_169 : decode cX6_lookAtDay 169 = .ok (.iinc 7 1, 3) := by decide +kernel
theorem dX6_lookAtDay_172 : decode cX6_lookAtDay 172 = .ok (.goto (-106), 3) := by decide +kernel
theorem dX6_lookAtDay_175 : decode cX6_lookAtDay 175 = .ok (.return_, 1) := by decide +kernel
theorem hd_X6_lookAtDay : yX6_lookAtDay.cls = RX6 ∧ yX6_lookAtDay.cls ≠ "java/lang/invoke/MethodHandle" ∧ yX6_lookAtDay.cls ≠ "java/lang/invoke/VarHandle" ∧ (parseMethodDescriptor yX6_lookAtDay.desc).map (fun d => d.parameters.length) = some 4 := by decide +kernel
theorem hs_X6_lookAtDay : yX6_lookAtDay.cls ≠ "java/lang/invoke/MethodHandle" ∧ yX6_lookAtDay.cls ≠ "java/lang/invoke/VarHandle" ∧ (parseMethodDescriptor yX6_lookAtDay.desc).map (fun d => d.parameters.length) = some 4 := by decide +kernel
set_option maxHeartbeats 4000000 in
set_option maxRecDepth 100000 in
theorem l_X6_lookAtDay_L66 (C : CX p l e s m args meth c cX6_lookAtDay 10 RX6 (Option.none : Option Jvm.ClassFile.FieldType) E) {o : Nat} (ho : K o = some (5, 0)) {w' : Wd} (k : Option Nat → Int32 → Int32 → Int32 → Option Nat → Int32 → Int32 → Wd → Option Wd) (hk : ∀ (v1_66 : Option Nat) (v2_66 : Int32) (v3_66 : Int32) (v4_66 : Int32) (v5_66 : Option Nat) (v6_66 : Int32) (v7_66 : Int32) (w : Wd) (H : Heap) (locs : List Loc) (ls : Array Slot), HQ E K z w s H locs → lv_has ls 10 [(1, rv E v1_66), (2, .int v2_66), (3, .int v3_66), (4, .int v4_66), (5, rv E v5_66), (6, .int v6_66), (7, .int v7_66), (0, rv E (some o))] → k v1_66 v2_66 v3_66 v4_66 v5_66 v6_66 v7_66 w = some w' → W p l e ({ frames := 2, cells := 0, slots := 0, locals := 47 } : Room) s m args below meth c H locs 0 0 (MQ below (QV E K z w') args s 0 0 (hA E)) (F0 m 175 ls [])) : ∀ (n : Nat) (v1_66 : Option Nat) (v2_66 : Int32) (v3_66 : Int32) (v4_66 : Int32) (v5_66 : Option Nat) (v6_66 : Int32) (v7_66 : Int32) (w : Wd) (H : Heap) (locs : List Loc) (ls : Array Slot), HQ E K z w s H locs → lv_has ls 10 [(1, rv E v1_66), (2, .int v2_66), (3, .int v3_66), (4, .int v4_66), (5, rv E v5_66), (6, .int v6_66), (7, .int v7_66), (0, rv E (some o))] → f_X6_lookAtDay_L66 K o k n v1_66 v2_66 v3_66 v4_66 v5_66 v6_66 v7_66 w = some w' → W p l e ({ frames := 2, cells := 0, slots := 0, locals := 47 } : Room) s m args below meth c H locs 0 0 (MQ below (QV E K z w') args s 0 0 (hA E)) (F0 m 66 ls []) := by
  obtain ⟨hx, hb, hml, hown, hts, hKs, hT, hb0, hlocks, hret⟩ := id C
  intro n
  induction n with
  | zero =>
    intro v1_66 v2_66 v3_66 v4_66 v5_66 v6_66 v7_66 w H locs ls hH hl hf
    cases hf
  | succ n ih =>
    intro v1_66 v2_66 v3_66 v4_66 v5_66 v6_66 v7_66 w H locs ls hH hl hf
    rw [f_X6_lookAtDay_L66] at hf
    refine lv_iload hx hb dX6_lookAtDay_66 (lv_at hl 6 rfl) ?_
    refine hl_aload hx hb dX6_lookAtDay_68 (lv_at hl 4 rfl) ?_
    refine lv_iconst (v := 3) hx hb dX6_lookAtDay_70 (by decide) ?_
    obtain ⟨a14, ha14, hf⟩ := bnd hf
    replace ha14 := chk_some ha14
    obtain ⟨q15, hq15, hf⟩ := bnd hf
    refine hcV_i hx hb hml hown hts hKs hT hb0 hH (As := [.int 3]) (rest := [.int v7_66]) (k_X9_size l E K H.size a14 3 w ha14.2 hq15) (gV m3_190 m3_22 m3_23 m1_2 m3_24) hd_X9_size ⟨Nat.le_of_ble_eq_true rfl, Nat.le_of_ble_eq_true rfl, rfl, rfl⟩ ha14.1 ha14.2 rfl rfl rfl hl.1 rfl (rcI rc0) rfl dX6_lookAtDay_71 ⟨Nat.zero_le _, Nat.zero_le _⟩ (fun H locs hH => ?_)
    refine lv_icmp_ge (tgt := 175) hx hb dX6_lookAtDay_74 (by decide) (fun c16 => ?_) (fun c16 => ?_)
    · replace hf := (if_pos c16).symm.trans hf
      exact hk v1_66 v2_66 v3_66 v4_66 v5_66 v6_66 v7_66 _ _ _ _ hH (lv_sub hl [0, 1, 2, 3, 4, 5, 6, 7] rfl) hf
    · replace hf := (if_neg c16).symm.trans hf
      refine hl_aload_n hx hb dX6_lookAtDay_77 rfl (lv_at hl 0 rfl) ?_
      obtain ⟨a17, ha17, hf⟩ := bnd hf
      replace ha17 := chk_some ha17
      refine gn10_5 hx hb hts hown hKs hH ha17.1 ha17.2 m2_126 dX6_lookAtDay_78 ?_
      refine lv_iload hx hb dX6_lookAtDay_81 (lv_at hl 6 rfl) ?_
      obtain ⟨a18, ha18, hf⟩ := bnd hf
      replace ha18 := cha_some ha18
      obtain ⟨j19, hj19, hf⟩ := bnd hf
      refine hw_aald27 hx hb hKs hH ha18.1 ha18.2 hj19 dX6_lookAtDay_83 ?_
      refine hl_astore (i := 8) (lv' := [(8, rv E (aR q15.2 a18.1 j19)), (1, rv E v1_66), (2, .int v2_66), (3, .int v3_66), (4, .int v4_66), (5, rv E v5_66), (6, .int v6_66), (7, .int v7_66), (0, rv E (some o))]) hx hb dX6_lookAtDay_84 hl (by decide) rfl (fun ls hl => ?_)
      refine lv_iload hx hb dX6_lookAtDay_86 (lv_at hl 7 rfl) ?_
      refine lv_iload_n hx hb dX6_lookAtDay_88 rfl (lv_at hl 2 rfl) ?_
      refine lv_icmp_eq (tgt := 169) hx hb dX6_lookAtDay_89 (by decide) (fun c20 => ?_) (fun c20 => ?_)
      · replace hf := (if_pos c20).symm.trans hf
        refine lv_iinc (v := (v7_66 + 1)) (lv' := [(7, .int ((v7_66 + 1))), (8, rv E (aR q15.2 a18.1 j19)), (1, rv E v1_66), (2, .int v2_66), (3, .int v3_66), (4, .int v4_66), (5, rv E v5_66), (6, .int v6_66), (0, rv E (some o))]) hx hb dX6_lookAtDay_169 hl (k := 7) rfl rfl (by decide) rfl (fun ls hl => ?_)
        refine lv_goto (tgt := 66) hx hb dX6_lookAtDay_172 (by decide) ?_
        exact ih v1_66 v2_66 v3_66 v4_66 v5_66 v6_66 (v7_66 + 1) _ _ _ _ hH (lv_sub hl [2, 3, 4, 5, 6, 7, 0, 8] rfl) hf
      · replace hf := (if_neg c20).symm.trans hf
        refine hl_aload hx hb dX6_lookAtDay_92 (lv_at hl 0 rfl) ?_
        refine lv_iload_n hx hb dX6_lookAtDay_94 rfl (lv_at hl 3 rfl) ?_
        obtain ⟨a21, ha21, hf⟩ := bnd hf
        replace ha21 := chk_some ha21
        obtain ⟨q22, hq22, hf⟩ := bnd hf
        refine hcV_i hx hb hml hown hts hKs hT hb0 hH (As := [.int v3_66]) (rest := []) (k_X7_isOn l E K H.size a21 v3_66 q15.2 ha21.2 hq22) (gV m3_231 m3_232 m3_233 m1_13 m3_234) hd_X7_isOn ⟨Nat.le_of_ble_eq_true rfl, Nat.le_of_ble_eq_true rfl, rfl, rfl⟩ ha21.1 ha21.2 rfl rfl rfl hl.1 rfl rc0 rfl dX6_lookAtDay_95 ⟨Nat.zero_le _, Nat.zero_le _⟩ (fun H locs hH => ?_)
        refine lv_if_eq (tgt := 169) hx hb dX6_lookAtDay_98 (by decide) (fun c23 => ?_) (fun c23 => ?_)
        · replace hf := (if_pos c23).symm.trans hf
          refine lv_iinc (v := (v7_66 + 1)) (lv' := [(7, .int ((v7_66 + 1))), (8, rv E (aR q15.2 a18.1 j19)), (1, rv E v1_66), (2, .int v2_66), (3, .int v3_66), (4, .int v4_66), (5, rv E v5_66), (6, .int v6_66), (0, rv E (some o))]) hx hb dX6_lookAtDay_169 hl (k := 7) rfl rfl (by decide) rfl (fun ls hl => ?_)
          refine lv_goto (tgt := 66) hx hb dX6_lookAtDay_172 (by decide) ?_
          exact ih v1_66 v2_66 v3_66 v4_66 v5_66 v6_66 (v7_66 + 1) _ _ _ _ hH (lv_sub hl [2, 3, 4, 5, 6, 7, 0, 8] rfl) hf
        · replace hf := (if_neg c23).symm.trans hf
          refine hl_aload_n hx hb dX6_lookAtDay_101 rfl (lv_at hl 1 rfl) ?_
          refine lv_iload hx hb dX6_lookAtDay_102 (lv_at hl 7 rfl) ?_
          obtain ⟨q24, hq24, hf⟩ := bnd hf
          refine hcV_i hx hb hml hown hts hKs hT hb0 hH (As := [.int v7_66]) (rest := []) (k_X10_slotsOf l E K H.size a17 v7_66 q22.2 ha17.2 hq24) (gV m3_235 m3_236 m3_237 m1_12 m3_238) hd_X10_slotsOf ⟨Nat.le_of_ble_eq_true rfl, Nat.le_of_ble_eq_true rfl, rfl, rfl⟩ ha17.1 ha17.2 rfl rfl rfl hl.1 rfl rc0 rfl dX6_lookAtDay_104 ⟨Nat.zero_le _, Nat.zero_le _⟩ (fun H locs hH => ?_)
          refine lv_istore (i := 9) (lv' := [(9, .int (q24.1)), (8, rv E (aR q15.2 a18.1 j19)), (1, rv E v1_66), (2, .int v2_66), (3, .int v3_66), (4, .int v4_66), (5, rv E v5_66), (6, .int v6_66), (7, .int v7_66), (0, rv E (some o))]) hx hb dX6_lookAtDay_107 hl (by decide) (by simp [List.filter_cons, cat_q, cat_i, cat_j, imax, imin]) (fun ls hl => ?_)
          refine hl_aload_n hx hb dX6_lookAtDay_109 rfl (lv_at hl 9 rfl) ?_
          refine g6_0 hx hb hts hown hKs hH rfl ho m2_148 dX6_lookAtDay_110 ?_
          refine hl_aload hx hb dX6_lookAtDay_113 (lv_at hl 1 rfl) ?_
          refine gn7_4 hx hb hts hown hKs hH ha21.1 ha21.2 m2_77 dX6_lookAtDay_115 ?_
          refine lv_iload hx hb dX6_lookAtDay_118 (lv_at hl 0 rfl) ?_
          obtain ⟨q25, hq25, hf⟩ := bnd hf
          refine hcS_v hx hb hml hown hts hKs hT hb0 hH (As := [rv E (wR q24.2 600 o), .int ((wI q24.2 704 a21)), .int (q24.1)]) (rest := []) (k_X6_take l E K H.size (wR q24.2 600 o) (wI q24.2 704 a21) q24.1 q24.2 hq25) (gS m3_239 m4_0 m1_14 m4_1) hs_X6_take ⟨Nat.le_of_ble_eq_true rfl, Nat.le_of_ble_eq_true rfl, rfl, rfl⟩ hl.1 rfl rc0 rfl dX6_lookAtDay_120 ⟨Nat.zero_le _, Nat.zero_le _⟩ (fun H locs hH => ?_)
          refine hl_aload_n hx hb dX6_lookAtDay_123 rfl (lv_at hl 9 rfl) ?_
          refine g6_1 hx hb hts hown hKs hH rfl ho m2_149 dX6_lookAtDay_124 ?_
          refine hl_aload hx hb dX6_lookAtDay_127 (lv_at hl 1 rfl) ?_
          refine gn7_5 hx hb hts hown hKs hH ha21.1 ha21.2 m2_81 dX6_lookAtDay_129 ?_
          refine lv_iload hx hb dX6_lookAtDay_132 (lv_at hl 0 rfl) ?_
          obtain ⟨q26, hq26, hf⟩ := bnd hf
          refine hcS_v hx hb hml hown hts hKs hT hb0 hH (As := [rv E (wR q25 601 o), .int ((wI q25 705 a21)), .int (q24.1)]) (rest := []) (k_X6_take l E K H.size (wR q25 601 o) (wI q25 705 a21) q24.1 q25 hq26) (gS m3_239 m4_0 m1_14 m4_1) hs_X6_take ⟨Nat.le_of_ble_eq_true rfl, Nat.le_of_ble_eq_true rfl, rfl, rfl⟩ hl.1 rfl rc0 rfl dX6_lookAtDay_134 ⟨Nat.zero_le _, Nat.zero_le _⟩ (fun H locs hH => ?_)
          refine hl_aload_n hx hb dX6_lookAtDay_137 rfl (lv_at hl 9 rfl) ?_
          refine lv_dup hx hb dX6_lookAtDay_138 rv_cat ?_
          refine g6_7 hx hb hts hown hKs hH rfl ho m2_155 dX6_lookAtDay_139 ?_
          refine lv_iload hx hb dX6_lookAtDay_142 (lv_at hl 7 rfl) ?_
          refine hl_aload hx hb dX6_lookAtDay_144 (lv_at hl 6 rfl) ?_
          refine gn9_9 hx hb hts hown hKs hH ha14.1 ha14.2 m1_172 dX6_lookAtDay_146 ?_
          refine lv_iload hx hb dX6_lookAtDay_149 (lv_at hl 8 rfl) ?_
          obtain ⟨a27, ha27, hf⟩ := bnd hf
          replace ha27 := cha_some ha27
          obtain ⟨j28, hj28, hf⟩ := bnd hf
          refine hw_aald25 hx hb hKs hH ha27.1 ha27.2 hj28 dX6_lookAtDay_151 ?_
          obtain ⟨a29, ha29, hf⟩ := bnd hf
          replace ha29 := chk_some ha29
          refine gn3_4 hx hb hts hown hKs hH ha29.1 ha29.2 m1_110 dX6_lookAtDay_152 ?_
          refine lv_iand hx hb dX6_lookAtDay_155 ?_
          refine lv_if_eq (tgt := 164) hx hb dX6_lookAtDay_156 (by decide) (fun c30 => ?_) (fun c30 => ?_)
          · replace hf := (if_pos c30).symm.trans hf
            refine lv_iconst (v := 0) hx hb dX6_lookAtDay_164 (by decide) ?_
            refine lv_ior hx hb dX6_lookAtDay_165 ?_
            obtain ⟨w31, hw31, hf⟩ := bnd hf
            replace hw31 := Option.some.inj hw31
            refine p6_7 (v := ((wI q26 607 o) ||| 0)) hx hb hts hown hKs hH rfl ho m2_155 dX6_lookAtDay_166 (fun H locs hH => ?_)
            rw [hw31] at hH
            refine lv_iinc (v := (v7_66 + 1)) (lv' := [(7, .int ((v7_66 + 1))), (9, .int (q24.1)), (8, rv E (aR q15.2 a18.1 j19)), (1, rv E v1_66), (2, .int v2_66), (3, .int v3_66), (4, .int v4_66), (5, rv E v5_66), (6, .int v6_66), (0, rv E (some o))]) hx hb dX6_lookAtDay_169 hl (k := 8) rfl rfl (by decide) rfl (fun ls hl => ?_)
            refine lv_goto (tgt := 66) hx hb dX6_lookAtDay_172 (by decide) ?_
            exact ih v1_66 v2_66 v3_66 v4_66 v5_66 v6_66 (v7_66 + 1) _ _ _ _ hH (lv_sub hl [3, 4, 5, 6, 7, 8, 0, 9] rfl) hf
          · replace hf := (if_neg c30).symm.trans hf
            refine lv_iload hx hb dX6_lookAtDay_159 (lv_at hl 0 rfl) ?_
            refine lv_goto (tgt := 165) hx hb dX6_lookAtDay_161 (by decide) ?_
            refine lv_ior hx hb dX6_lookAtDay_165 ?_
            obtain ⟨w32, hw32, hf⟩ := bnd hf
            replace hw32 := Option.some.inj hw32
            refine p6_7 (v := ((wI q26 607 o) ||| q24.1)) hx hb hts hown hKs hH rfl ho m2_155 dX6_lookAtDay_166 (fun H locs hH => ?_)
            rw [hw32] at hH
            refine lv_iinc (v := (v7_66 + 1)) (lv' := [(7, .int ((v7_66 + 1))), (9, .int (q24.1)), (8, rv E (aR q15.2 a18.1 j19)), (1, rv E v1_66), (2, .int v2_66), (3, .int v3_66), (4, .int v4_66), (5, rv E v5_66), (6, .int v6_66), (0, rv E (some o))]) hx hb dX6_lookAtDay_169 hl (k := 8) rfl rfl (by decide) rfl (fun ls hl => ?_)
            refine lv_goto (tgt := 66) hx hb dX6_lookAtDay_172 (by decide) ?_
            exact ih v1_66 v2_66 v3_66 v4_66 v5_66 v6_66 (v7_66 + 1) _ _ _ _ hH (lv_sub hl [3, 4, 5, 6, 7, 8, 0, 9] rfl) hf
set_option maxHeartbeats 4000000 in
set_option maxRecDepth 100000 in
theorem k_X6_lookAtDay (l : Launch) (E : Ev) (K : Kd) (z : Nat) (o : Nat) (a_1 : Option Nat) (a_2 : Int32) (a_3 : Int32) (a_4 : Int32) (w : Wd) (ho : K o = some (5, 0)) {w' : Wd} (hf : f_X6_lookAtDay K o a_1 a_2 a_3 a_4 w = some w') : Met l yX6_lookAtDay (Cond.code yX6_lookAtDay cX6_lookAtDay 10 (Option.none : Option Jvm.ClassFile.FieldType) :: bt) ({ frames := 2, cells := 0, slots := 0, locals := 47 } : Room) (va_Pc [rv E (some o), rv E a_1, .int a_2, .int a_3, .int a_4] (HB E K w z)) (QV E K z w') 0 0 (hA E) := by
  refine Met.ofW (cc := cX6_lookAtDay) (maxL := 10) (ret := (Option.none : Option Jvm.ClassFile.FieldType)) (by decide) rfl ?_
  intro p e s m args below meth c s₁ B hml hv
  obtain ⟨rfl, hz, hP, hKs, hT, hb0⟩ := hv
  have C : CX p l e s m _ meth c cX6_lookAtDay 10 RX6 (Option.none : Option Jvm.ClassFile.FieldType) E := ⟨B.exec, B.bytes, hml, findClass_of_methodNamed B.named, fun w h => atoms_spec (ws := Cond.code yX6_lookAtDay cX6_lookAtDay 10 (Option.none : Option Jvm.ClassFile.FieldType) :: bt) B.pre w (List.mem_cons_of_mem _ h), hKs, hT, by rw [hz]; exact hb0, B.notSynchronized, B.returns⟩
  have hH : HQ E K z w s s.heap [] := ⟨hP, va_S.rf, hz⟩
  obtain ⟨hx, hb, hml, hown, hts, hKs, hT, hb0, hlocks, hret⟩ := id C
  have hl := lv_entry [rv E (some o), rv E a_1, .int a_2, .int a_3, .int a_4] (n := 10) (by simp [lg_len_nil, lg_len_i, lg_len_j, lg_len_q, lg_len_f, lg_len_d, lg_len_r])
  rw [lg_entry_eq]
  generalize (lg_sl [rv E (some o), rv E a_1, .int a_2, .int a_3, .int a_4] ++ List.replicate (10 - (lg_sl [rv E (some o), rv E a_1, .int a_2, .int a_3, .int a_4]).length) Slot.unset).toArray = ls at hl ⊢
  replace hl : lv_has ls 10 [(0, rv E (some o)), (1, rv E a_1), (2, .int a_2), (3, .int a_3), (4, .int a_4)] := by simpa only [lv_args, cat_q, cat_i, cat_j, reduceIte, Nat.reduceEqDiff, Nat.reduceAdd, Nat.zero_add] using hl
  generalize s.heap = H at hH ⊢
  unfold f_X6_lookAtDay at hf
  refine hl_aload_n hx hb dX6_lookAtDay_0 rfl (lv_at hl 1 rfl) ?_
  obtain ⟨a1, ha1, hf⟩ := bnd hf
  replace ha1 := chk_some ha1
  refine gn10_0 hx hb hts hown hKs hH ha1.1 ha1.2 m2_114 dX6_lookAtDay_1 ?_
  refine hl_astore (i := 5) (lv' := [(5, rv E (wR w 1000 a1)), (0, rv E (some o)), (1, rv E a_1), (2, .int a_2), (3, .int a_3), (4, .int a_4)]) hx hb dX6_lookAtDay_4 hl (by decide) rfl (fun ls hl => ?_)
  refine hl_aload hx hb dX6_lookAtDay_6 (lv_at hl 0 rfl) ?_
  obtain ⟨a2, ha2, hf⟩ := bnd hf
  replace ha2 := chk_some ha2
  refine gn9_9 hx hb hts hown hKs hH ha2.1 ha2.2 m1_172 dX6_lookAtDay_8 ?_
  refine lv_iload_n hx hb dX6_lookAtDay_11 rfl (lv_at hl 3 rfl) ?_
  obtain ⟨a3, ha3, hf⟩ := bnd hf
  replace ha3 := cha_some ha3
  obtain ⟨j4, hj4, hf⟩ := bnd hf
  refine hw_aald25 hx hb hKs hH ha3.1 ha3.2 hj4 dX6_lookAtDay_12 ?_
  obtain ⟨a5, ha5, hf⟩ := bnd hf
  replace ha5 := chk_some ha5
  refine gn3_4 hx hb hts hown hKs hH ha5.1 ha5.2 m1_110 dX6_lookAtDay_13 ?_
  refine lv_istore (i := 6) (lv' := [(6, .int ((wI w 304 a5))), (5, rv E (wR w 1000 a1)), (0, rv E (some o)), (1, rv E a_1), (2, .int a_2), (3, .int a_3), (4, .int a_4)]) hx hb dX6_lookAtDay_16 hl (by decide) (by simp [List.filter_cons, cat_q, cat_i, cat_j, imax, imin]) (fun ls hl => ?_)
  refine hl_aload_n hx hb dX6_lookAtDay_18 rfl (lv_at hl 2 rfl) ?_
  refine g6_0 hx hb hts hown hKs hH rfl ho m2_148 dX6_lookAtDay_19 ?_
  refine lv_iconst (v := 0) hx hb dX6_lookAtDay_22 (by decide) ?_
  obtain ⟨q6, hq6, hf⟩ := bnd hf
  refine hcS_v hx hb hml hown hts hKs hT hb0 hH (As := [rv E (wR w 600 o), .int 0]) (rest := []) (k_J7_fill_53178 l E K H.size (wR w 600 o) 0 w hq6) (gS m3_215 m1_144 m1_7 m1_145) hs_J7_fill_53178 ⟨Nat.le_of_ble_eq_true rfl, Nat.le_of_ble_eq_true rfl, rfl, rfl⟩ hl.1 rfl rc0 rfl dX6_lookAtDay_23 ⟨Nat.zero_le _, Nat.zero_le _⟩ (fun H locs hH => ?_)
  refine hl_aload_n hx hb dX6_lookAtDay_26 rfl (lv_at hl 2 rfl) ?_
  refine g6_1 hx hb hts hown hKs hH rfl ho m2_149 dX6_lookAtDay_27 ?_
  refine lv_iconst (v := 0) hx hb dX6_lookAtDay_30 (by decide) ?_
  obtain ⟨q7, hq7, hf⟩ := bnd hf
  refine hcS_v hx hb hml hown hts hKs hT hb0 hH (As := [rv E (wR q6 601 o), .int 0]) (rest := []) (k_J7_fill_53178 l E K H.size (wR q6 601 o) 0 q6 hq7) (gS m3_215 m1_144 m1_7 m1_145) hs_J7_fill_53178 ⟨Nat.le_of_ble_eq_true rfl, Nat.le_of_ble_eq_true rfl, rfl, rfl⟩ hl.1 rfl rc0 rfl dX6_lookAtDay_31 ⟨Nat.zero_le _, Nat.zero_le _⟩ (fun H locs hH => ?_)
  refine hl_aload_n hx hb dX6_lookAtDay_34 rfl (lv_at hl 2 rfl) ?_
  refine lv_iconst (v := 0) hx hb dX6_lookAtDay_35 (by decide) ?_
  obtain ⟨w8, hw8, hf⟩ := bnd hf
  replace hw8 := Option.some.inj hw8
  refine p6_7 (v := 0) hx hb hts hown hKs hH rfl ho m2_155 dX6_lookAtDay_36 (fun H locs hH => ?_)
  rw [hw8] at hH
  refine hl_aload_n hx hb dX6_lookAtDay_39 rfl (lv_at hl 2 rfl) ?_
  refine lv_iload hx hb dX6_lookAtDay_40 (lv_at hl 6 rfl) ?_
  refine hl_aload hx hb dX6_lookAtDay_42 (lv_at hl 1 rfl) ?_
  refine lv_iload_n hx hb dX6_lookAtDay_44 rfl (lv_at hl 5 rfl) ?_
  obtain ⟨q9, hq9, hf⟩ := bnd hf
  refine hcV_i hx hb hml hown hts hKs hT hb0 hH (As := [.int a_3]) (rest := [.int a_4, rv E (some o)]) (k_X9_awayOfficers l E K H.size a2 a_3 w8 ha2.2 hq9) (gV m3_216 m3_217 m3_218 m1_2 m3_219) hd_X9_awayOfficers ⟨Nat.le_of_ble_eq_true rfl, Nat.le_of_ble_eq_true rfl, rfl, rfl⟩ ha2.1 ha2.2 rfl rfl rfl hl.1 rfl (rcI (rcV rc0)) rfl dX6_lookAtDay_45 ⟨Nat.zero_le _, Nat.zero_le _⟩ (fun H locs hH => ?_)
  refine lv_ior hx hb dX6_lookAtDay_48 ?_
  obtain ⟨w10, hw10, hf⟩ := bnd hf
  replace hw10 := Option.some.inj hw10
  refine p6_5 (v := (a_4 ||| q9.1)) hx hb hts hown hKs hH rfl ho m2_153 dX6_lookAtDay_49 (fun H locs hH => ?_)
  rw [hw10] at hH
  refine hl_aload_n hx hb dX6_lookAtDay_52 rfl (lv_at hl 2 rfl) ?_
  refine hl_aload_n hx hb dX6_lookAtDay_53 rfl (lv_at hl 3 rfl) ?_
  refine lv_iload hx hb dX6_lookAtDay_54 (lv_at hl 0 rfl) ?_
  refine lv_iload_n hx hb dX6_lookAtDay_56 rfl (lv_at hl 5 rfl) ?_
  obtain ⟨q11, hq11, hf⟩ := bnd hf
  refine hcV_i hx hb hml hown hts hKs hT hb0 hH (As := [.int ((wI w 304 a5)), .int a_3]) (rest := [rv E (some o)]) (k_X10_slotsOutside l E K H.size a1 (wI w 304 a5) a_3 w10 ha1.2 hq11) (gV m3_224 m3_225 m3_226 m1_12 m3_227) hd_X10_slotsOutside ⟨Nat.le_of_ble_eq_true rfl, Nat.le_of_ble_eq_true rfl, rfl, rfl⟩ ha1.1 ha1.2 rfl rfl rfl hl.1 rfl (rcV rc0) rfl dX6_lookAtDay_57 ⟨Nat.zero_le _, Nat.zero_le _⟩ (fun H locs hH => ?_)
  obtain ⟨w12, hw12, hf⟩ := bnd hf
  replace hw12 := Option.some.inj hw12
  refine p6_6 (v := q11.1) hx hb hts hown hKs hH rfl ho m2_154 dX6_lookAtDay_60 (fun H locs hH => ?_)
  rw [hw12] at hH
  refine lv_iconst (v := 0) hx hb dX6_lookAtDay_63 (by decide) ?_
  refine lv_istore (i := 7) (lv' := [(7, .int 0), (6, .int ((wI w 304 a5))), (5, rv E (wR w 1000 a1)), (0, rv E (some o)), (1, rv E a_1), (2, .int a_2), (3, .int a_3), (4, .int a_4)]) hx hb dX6_lookAtDay_64 hl (by decide) rfl (fun ls hl => ?_)
  refine l_X6_lookAtDay_L66  C ho _ (fun v1_66 v2_66 v3_66 v4_66 v5_66 v6_66 v7_66 w13 H locs ls hH hl hf => ?_) fu a_1 a_2 a_3 a_4 (wR w 1000 a1) (wI w 304 a5) 0 w12 _ _ _ hH (lv_sub hl [4, 5, 6, 7, 2, 1, 0, 3] rfl) hf
  exact hw_vret hx hb hret hf hH hlocks dX6_lookAtDay_175

theorem dX7_clear_0 : decode cX7_clear 0 = .ok (.aload_n 0, 1) := by decide +kernel
theorem dX7_clear_1 : decode cX7_clear 1 = .ok (.iconst 0, 1) := by decide +kernel
theorem dX7_clear_2 : decode cX7_clear 2 = .ok (.putfield 15, 3) := by decide +kernel
theorem dX7_clear_5 : decode cX7_clear 5 = .ok (.aload_n 0, 1) := by decide +kernel
theorem dX7_clear_6 : decode cX7_clear 6 = .ok (.iconst 0, 1) := by decide +kernel
theorem dX7_clear_7 : decode cX7_clear 7 = .ok (.putfield 19, 3) := by decide +kernel
theorem dX7_clear_10 : decode cX7_clear 10 = .ok (.aload_n 0, 1) := by decide +kernel
theorem dX7_clear_11 : decode cX7_clear 11 = .ok (.invokevirtual 22, 3) := by decide +kernel
theorem dX7_clear_14 : decode cX7_clear 14 = .ok (.return_, 1) := by decide +kernel
theorem hd_X7_clear : yX7_clear.cls = RX7 ∧ yX7_clear.cls ≠ "java/lang/invoke/MethodHandle" ∧ yX7_clear.cls ≠ "java/lang/invoke/VarHandle" ∧ (parseMethodDescriptor yX7_clear.desc).map (fun d => d.parameters.length) = some 0 := by decide +kernel
theorem hs_X7_clear : yX7_clear.cls ≠ "java/lang/invoke/MethodHandle" ∧ yX7_clear.cls ≠ "java/lang/invoke/VarHandle" ∧ (parseMethodDescriptor yX7_clear.desc).map (fun d => d.parameters.length) = some 0 := by decide +kernel
set_option maxHeartbeats 4000000 in
set_option maxRecDepth 100000 in
theorem k_X7_clear (l : Launch) (E : Ev) (K : Kd) (z : Nat) (o : Nat) (w : Wd) (ho : K o = some (6, 0)) {w' : Wd} (hf : f_X7_clear K o w = some w') : Met l yX7_clear (Cond.code yX7_clear cX7_clear 1 (Option.none : Option Jvm.ClassFile.FieldType) :: bt) ({ frames := 1, cells := 0, slots := 0, locals := 20 } : Room) (va_Pc [rv E (some o)] (HB E K w z)) (QV E K z w') 0 0 (hA E) := by
  refine Met.ofW (cc := cX7_clear) (maxL := 1) (ret := (Option.none : Option Jvm.ClassFile.FieldType)) (by decide) rfl ?_
  intro p e s m args below meth c s₁ B hml hv
  obtain ⟨rfl, hz, hP, hKs, hT, hb0⟩ := hv
  have C : CX p l e s m _ meth c cX7_clear 1 RX7 (Option.none : Option Jvm.ClassFile.FieldType) E := ⟨B.exec, B.bytes, hml, findClass_of_methodNamed B.named, fun w h => atoms_spec (ws := Cond.code yX7_clear cX7_clear 1 (Option.none : Option Jvm.ClassFile.FieldType) :: bt) B.pre w (List.mem_cons_of_mem _ h), hKs, hT, by rw [hz]; exact hb0, B.notSynchronized, B.returns⟩
  have hH : HQ E K z w s s.heap [] := ⟨hP, va_S.rf, hz⟩
  obtain ⟨hx, hb, hml, hown, hts, hKs, hT, hb0, hlocks, hret⟩ := id C
  have hl := lv_entry [rv E (some o)] (n := 1) (by simp [lg_len_nil, lg_len_i, lg_len_j, lg_len_q, lg_len_f, lg_len_d, lg_len_r])
  rw [lg_entry_eq]
  generalize (lg_sl [rv E (some o)] ++ List.replicate (1 - (lg_sl [rv E (some o)]).length) Slot.unset).toArray = ls at hl ⊢
  replace hl : lv_has ls 1 [(0, rv E (some o))] := by simpa only [lv_args, cat_q, cat_i, cat_j, reduceIte, Nat.reduceEqDiff, Nat.reduceAdd, Nat.zero_add] using hl
  generalize s.heap = H at hH ⊢
  unfold f_X7_clear at hf
  refine hl_aload_n hx hb dX7_clear_0 rfl (lv_at hl 0 rfl) ?_
  refine lv_iconst (v := 0) hx hb dX7_clear_1 (by decide) ?_
  obtain ⟨w1, hw1, hf⟩ := bnd hf
  replace hw1 := Option.some.inj hw1
  refine p7_1 (v := 0) hx hb hts hown hKs hH rfl ho m2_66 dX7_clear_2 (fun H locs hH => ?_)
  rw [hw1] at hH
  refine hl_aload_n hx hb dX7_clear_5 rfl (lv_at hl 0 rfl) ?_
  refine lv_iconst (v := 0) hx hb dX7_clear_6 (by decide) ?_
  obtain ⟨w2, hw2, hf⟩ := bnd hf
  replace hw2 := Option.some.inj hw2
  refine p7_6 (v := 0) hx hb hts hown hKs hH rfl ho m2_83 dX7_clear_7 (fun H locs hH => ?_)
  rw [hw2] at hH
  refine hl_aload_n hx hb dX7_clear_10 rfl (lv_at hl 0 rfl) ?_
  obtain ⟨q3, hq3, hf⟩ := bnd hf
  refine hcV_v hx hb hml hown hts hKs hT hb0 hH (As := []) (rest := []) (k_X7_dropHearing l E K H.size o w2 ho hq3) (gV m2_109 m2_110 m2_111 m1_13 m2_112) hd_X7_dropHearing ⟨Nat.le_of_ble_eq_true rfl, Nat.le_of_ble_eq_true rfl, rfl, rfl⟩ rfl ho rfl rfl rfl hl.1 rfl rc0 rfl dX7_clear_11 ⟨Nat.zero_le _, Nat.zero_le _⟩ (fun H locs hH => ?_)
  exact hw_vret hx hb hret hf hH hlocks dX7_clear_14
end
