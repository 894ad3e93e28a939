section
variable {p : Program} {l : Launch} {e : Env} {s : State} {m : MethodId} {args : Array Value} {below : List Frame} {meth : Method} {c : Code} {E : Ev} {K : Kd} {z : Nat}

theorem dCJ4_append_15ec4_0 : decode cJ4_append_15ec4 0 = .ok (.aload_n 0, 1) := by decide +kernel
theorem dCJ4_append_15ec4_1 : decode cJ4_append_15ec4 1 = .ok (.aload_n 1, 1) := by decide +kernel
theorem dCJ4_append_15ec4_2 : decode cJ4_append_15ec4 2 = .ok (.invokespecial 29, 3) := by decide +kernel
theorem dCJ4_append_15ec4_5 : decode cJ4_append_15ec4 5 = .ok (.pop, 1) := by decide +kernel
theorem dCJ4_append_15ec4_6 : decode cJ4_append_15ec4 6 = .ok (.aload_n 0, 1) := by decide +kernel
theorem dCJ4_append_15ec4_7 : decode cJ4_append_15ec4 7 = .ok (.areturn, 1) := by decide +kernel
theorem hd_CJ4_append_15ec4 : yJ4_append_15ec4.cls = RJ4 ∧ yJ4_append_15ec4.cls ≠ "java/lang/invoke/MethodHandle" ∧ yJ4_append_15ec4.cls ≠ "java/lang/invoke/VarHandle" ∧ (parseMethodDescriptor yJ4_append_15ec4.desc).map (fun d => d.parameters.length) = some 1 := by decide +kernel
theorem hs_CJ4_append_15ec4 : yJ4_append_15ec4.cls ≠ "java/lang/invoke/MethodHandle" ∧ yJ4_append_15ec4.cls ≠ "java/lang/invoke/VarHandle" ∧ (parseMethodDescriptor yJ4_append_15ec4.desc).map (fun d => d.parameters.length) = some 1 := by decide +kernel
set_option maxHeartbeats 4000000 in
set_option maxRecDepth 100000 in
theorem k_CJ4_append_15ec4 (l : Launch) (E : Ev) (K : Kd) (n : Nat) (o : Nat) (i : Nat) (w : Wd) (hi : i < 15) {K' : Kd} {n' : Nat} {r : Option Nat} {w' : Wd} (hf : f_CJ4_append_15ec4 K n o i w = some (K', n', r, w')) : Met l yJ4_append_15ec4 (Cond.code yJ4_append_15ec4 cJ4_append_15ec4 2 (Option.some (Jvm.ClassFile.FieldType.object RJ4)) :: bt) ({ frames := 5, cells := 1, slots := 1200, locals := 127 } : Room) (va_Pc [rv E (some o), .ref (E.2.2.2.1 (300 + i))] (HB E K w (E.2.1 + n))) (QR E K' (E.2.1 + n') w' r) 1 1200 (hA E) := by
  refine Met.ofW (cc := cJ4_append_15ec4) (maxL := 2) (ret := (Option.some (Jvm.ClassFile.FieldType.object RJ4))) (by decide) rfl ?_
  intro p e s m args below meth c s₁ B hml hv
  obtain ⟨rfl, hz, hP, hKs, hT, hb0⟩ := hv
  have C : CX p l e s m _ meth c cJ4_append_15ec4 2 RJ4 (Option.some (Jvm.ClassFile.FieldType.object RJ4)) E := ⟨B.exec, B.bytes, hml, findClass_of_methodNamed B.named, fun w h => atoms_spec (ws := Cond.code yJ4_append_15ec4 cJ4_append_15ec4 2 (Option.some (Jvm.ClassFile.FieldType.object RJ4)) :: bt) B.pre w (List.mem_cons_of_mem _ h), hKs, hT, by rw [hz]; exact hb0, B.notSynchronized, B.returns⟩
  have hH : HQ E K (E.2.1 + n) w s s.heap [] := ⟨hP, va_S.rf, hz⟩
  obtain ⟨hx, hb, hml, hown, hts, hKs, hT, hb0, hlocks, hret⟩ := id C
  have hl := lv_entry [rv E (some o), .ref (E.2.2.2.1 (300 + i))] (n := 2) (by simp [lg_len_nil, lg_len_i, lg_len_j, lg_len_q, lg_len_f, lg_len_d, lg_len_r])
  rw [lg_entry_eq]
  generalize (lg_sl [rv E (some o), .ref (E.2.2.2.1 (300 + i))] ++ List.replicate (2 - (lg_sl [rv E (some o), .ref (E.2.2.2.1 (300 + i))]).length) Slot.unset).toArray = ls at hl ⊢
  replace hl : lv_has ls 2 [(0, rv E (some o)), (1, .ref (E.2.2.2.1 (300 + i)))] := by simpa only [lv_args, cat_q, cat_i, cat_j, (show ∀ x : Nat, (Value.ref x).category = 1 from fun _ => rfl), reduceIte, Nat.reduceEqDiff, Nat.reduceAdd, Nat.zero_add] using hl
  generalize s.heap = H at hH ⊢
  unfold f_CJ4_append_15ec4 at hf
  refine hl_aload_n hx hb dCJ4_append_15ec4_0 rfl (lv_at hl 0 rfl) ?_
  refine lv_aload_n hx hb dCJ4_append_15ec4_1 rfl (lv_at hl 1 rfl) ?_
  obtain ⟨a1, ha1, hf⟩ := bnd hf
  replace ha1 := chk_some ha1
  obtain ⟨q2, hq2, hf⟩ := bnd hf
  refine hcAq hH (hrSU (As := [.ref (E.2.2.2.1 (300 + i))]) (rest := []) ha1.1 (hKs.1.1 12 _ rfl).2 ⟨hx, hb, hml, hown, hts⟩ (k_CJ5_append_cf1ce l E K n a1 i w hi hq2) (va_cwSU _ hts (gSU m5_100 m7_10 m5_94 m5_101 m1_16 m5_102) rfl rfl rfl ⟨by decide, hs_CJ5_append_cf1ce.2.2⟩ ⟨Nat.le_of_ble_eq_true rfl, Nat.le_of_ble_eq_true rfl⟩) ⟨HB.blind, hH.1.recv hKs ha1.2 rfl rfl, HB.preN hKs hT hb0 hH⟩ rfl hl.1 rfl rc0 dCJ4_append_15ec4_2 ⟨Nat.le_of_ble_eq_true rfl, Nat.le_of_ble_eq_true rfl⟩) (fun H locs hH => ?_)
  refine lv_pop hx hb dCJ4_append_15ec4_5 rv_cat ?_
  refine hl_aload_n hx hb dCJ4_append_15ec4_6 rfl (lv_at hl 0 rfl) ?_
  exact hw_aqret hx hb (Nat.le_of_ble_eq_true rfl) (Nat.le_of_ble_eq_true rfl) hret (by simp) hf hH hlocks dCJ4_append_15ec4_7

theorem dNX12_adjournment_0 : decode cX12_adjournment 0 = .ok (.aload_n 0, 1) := by decide +kernel
theorem dNX12_adjournment_1 : decode cX12_adjournment 1 = .ok (.iconst 3, 1) := by decide +kernel
theorem dNX12_adjournment_2 : decode cX12_adjournment 2 = .ok (.iload_n 1, 1) := by decide +kernel
theorem dNX12_adjournment_3 : decode cX12_adjournment 3 = .ok (.invokevirtual 175, 3) := by decide +kernel
theorem dNX12_adjournment_6 : decode cX12_adjournment 6 = .ok (.aload_n 0, 1) := by decide +kernel
theorem dNX12_adjournment_7 : decode cX12_adjournment 7 = .ok (.getfield 35, 3) := by decide +kernel
theorem dNX12_adjournment_10 : decode cX12_adjournment 10 = .ok (.getfield 213, 3) := by decide +kernel
theorem dNX12_adjournment_13 : decode cX12_adjournment 13 = .ok (.iload_n 1, 1) := by decide +kernel
theorem dNX12_adjournment_14 : decode cX12_adjournment 14 = .ok (.aaload, 1) := by decide +kernel
theorem dNX12_adjournment_15 : decode cX12_adjournment 15 = .ok (.astore 4, 2) := by decide +kernel
theorem dNX12_adjournment_17 : decode cX12_adjournment 17 = .ok (.iload_n 2, 1) := by decide +kernel
theorem dNX12_adjournment_18 : decode cX12_adjournment 18 = .ok (.ifCond .lt 21, 3) := by decide +kernel
theorem dNX12_adjournment_21 : decode cX12_adjournment 21 = .ok (.iload_n 2, 1) := by decide +kernel
theorem dNX12_adjournment_22 : decode cX12_adjournment 22 = .ok (.aload 4, 2) := by decide +kernel
theorem dNX12_adjournment_24 : decode cX12_adjournment 24 = .ok (.getfield 242, 3) := by decide +kernel
theorem dNX12_adjournment_27 : decode cX12_adjournment 27 = .ok (.if_icmp .ge 12, 3) := by decide +kernel
theorem dNX12_adjournment_30 : decode cX12_adjournment 30 = .ok (.iload_n 3, 1) := by decide +kernel
theorem dNX12_adjournment_31 : decode cX12_adjournment 31 = .ok (.ifCond .lt 8, 3) := by decide +kernel
theorem dNX12_adjournment_34 : decode cX12_adjournment 34 = .ok (.iload_n 3, 1) := by decide +kernel
theorem dNX12_adjournment_35 : decode cX12_adjournment 35 = .ok (.iconst 4, 1) := by decide +kernel
theorem dNX12_adjournment_36 : decode cX12_adjournment 36 = .ok (.if_icmp .lt 11, 3) := by decide +kernel
theorem dNX12_adjournment_47 : decode cX12_adjournment 47 = .ok (.aload 4, 2) := by decide +kernel
theorem dNX12_adjournment_49 : decode cX12_adjournment 49 = .ok (.getfield 266, 3) := by decide +kernel
theorem dNX12_adjournment_52 : decode cX12_adjournment 52 = .ok (.iload_n 2, 1) := by decide +kernel
theorem dNX12_adjournment_53 : decode cX12_adjournment 53 = .ok (.iconst 4, 1) := by decide +kernel
theorem dNX12_adjournment_54 : decode cX12_adjournment 54 = .ok (.imul, 1) := by decide +kernel
theorem dNX12_adjournment_55 : decode cX12_adjournment 55 = .ok (.iload_n 3, 1) := by decide +kernel
theorem dNX12_adjournment_56 : decode cX12_adjournment 56 = .ok (.iadd, 1) := by decide +kernel
theorem dNX12_adjournment_57 : decode cX12_adjournment 57 = .ok (.iaload, 1) := by decide +kernel
theorem dNX12_adjournment_58 : decode cX12_adjournment 58 = .ok (.ireturn, 1) := by decide +kernel
theorem hd_NX12_adjournment : yX12_adjournment.cls = RX12 ∧ yX12_adjournment.cls ≠ "java/lang/invoke/MethodHandle" ∧ yX12_adjournment.cls ≠ "java/lang/invoke/VarHandle" ∧ (parseMethodDescriptor yX12_adjournment.desc).map (fun d => d.parameters.length) = some 3 := by decide +kernel
theorem hs_NX12_adjournment : yX12_adjournment.cls ≠ "java/lang/invoke/MethodHandle" ∧ yX12_adjournment.cls ≠ "java/lang/invoke/VarHandle" ∧ (parseMethodDescriptor yX12_adjournment.desc).map (fun d => d.parameters.length) = some 3 := by decide +kernel
set_option maxHeartbeats 4000000 in
set_option maxRecDepth 100000 in
theorem k_NX12_adjournment (l : Launch) (E : Ev) (K : Kd) (z : Nat) (o : Nat) (a_1 : Int32) (a_2 : Int32) (a_3 : Int32) (w : Wd) (ho : K o = some (10, 0)) {r : Int32} {w' : Wd} (hf : f_NX12_adjournment K o a_1 a_2 a_3 w = some (r, w')) : Met l yX12_adjournment (Cond.code yX12_adjournment cX12_adjournment 5 (Option.some Jvm.ClassFile.FieldType.int) :: bt) ({ frames := 2, cells := 0, slots := 0, locals := 43 } : Room) (va_Pc [rv E (some o), .int a_1, .int a_2, .int a_3] (HB E K w z)) (QI E K z w' r) 0 0 (hA E) := by
  refine Met.ofW (cc := cX12_adjournment) (maxL := 5) (ret := (Option.some Jvm.ClassFile.FieldType.int)) (by decide) rfl ?_
  intro p e s m args below meth c s₁ B hml hv
  obtain ⟨rfl, hz, hP, hKs, hT, hb0⟩ := hv
  have C : CX p l e s m _ meth c cX12_adjournment 5 RX12 (Option.some Jvm.ClassFile.FieldType.int) E := ⟨B.exec, B.bytes, hml, findClass_of_methodNamed B.named, fun w h => atoms_spec (ws := Cond.code yX12_adjournment cX12_adjournment 5 (Option.some Jvm.ClassFile.FieldType.int) :: bt) B.pre w (List.mem_cons_of_mem _ h), hKs, hT, by rw [hz]; exact hb0, B.notSynchronized, B.returns⟩
  have hH : HQ E K z w s s.heap [] := ⟨hP, va_S.rf, hz⟩
  obtain ⟨hx, hb, hml, hown, hts, hKs, hT, hb0, hlocks, hret⟩ := id C
  have hl := lv_entry [rv E (some o), .int a_1, .int a_2, .int a_3] (n := 5) (by simp [lg_len_nil, lg_len_i, lg_len_j, lg_len_q, lg_len_f, lg_len_d, lg_len_r])
  rw [lg_entry_eq]
  generalize (lg_sl [rv E (some o), .int a_1, .int a_2, .int a_3] ++ List.replicate (5 - (lg_sl [rv E (some o), .int a_1, .int a_2, .int a_3]).length) Slot.unset).toArray = ls at hl ⊢
  replace hl : lv_has ls 5 [(0, rv E (some o)), (1, .int a_1), (2, .int a_2), (3, .int a_3)] := by simpa only [lv_args, cat_q, cat_i, cat_j, reduceIte, Nat.reduceEqDiff, Nat.reduceAdd, Nat.zero_add] using hl
  generalize s.heap = H at hH ⊢
  unfold f_NX12_adjournment at hf
  refine hl_aload_n hx hb dNX12_adjournment_0 rfl (lv_at hl 0 rfl) ?_
  refine lv_iconst (v := 3) hx hb dNX12_adjournment_1 (by decide) ?_
  refine lv_iload_n hx hb dNX12_adjournment_2 rfl (lv_at hl 1 rfl) ?_
  obtain ⟨q1, hq1, hf⟩ := bnd hf
  refine hcV_v hx hb hml hown hts hKs hT hb0 hH (As := [.int 3, .int a_1]) (rest := []) (k_NX12_requireExisting l E K H.size o 3 a_1 w ho hq1) (gV m6_91 m6_93 ms_29 m1_1 m6_94) hd_NX12_requireExisting ⟨Nat.le_of_ble_eq_true rfl, Nat.le_of_ble_eq_true rfl, rfl, rfl⟩ rfl ho rfl rfl rfl hl.1 rfl rc0 rfl dNX12_adjournment_3 ⟨Nat.zero_le _, Nat.zero_le _⟩ (fun H locs hH => ?_)
  refine hl_aload_n hx hb dNX12_adjournment_6 rfl (lv_at hl 0 rfl) ?_
  refine g12_5 hx hb hts hown hKs hH rfl ho m2_214 dNX12_adjournment_7 ?_
  obtain ⟨a2, ha2, hf⟩ := bnd hf
  replace ha2 := chk_some ha2
  refine gn10_5 hx hb hts hown hKs hH ha2.1 ha2.2 m2_127 dNX12_adjournment_10 ?_
  refine lv_iload_n hx hb dNX12_adjournment_13 rfl (lv_at hl 1 rfl) ?_
  obtain ⟨a3, ha3, hf⟩ := bnd hf
  replace ha3 := cha_some ha3
  obtain ⟨j4, hj4, hf⟩ := bnd hf
  refine hw_aald27 hx hb hKs hH ha3.1 ha3.2 hj4 dNX12_adjournment_14 ?_
  refine hl_astore (i := 4) (lv' := [(4, rv E (aR q1 a3.1 j4)), (0, rv E (some o)), (1, .int a_1), (2, .int a_2), (3, .int a_3)]) hx hb dNX12_adjournment_15 hl (by decide) rfl (fun ls hl => ?_)
  refine lv_iload_n hx hb dNX12_adjournment_17 rfl (lv_at hl 3 rfl) ?_
  refine lv_if_lt (tgt := 39) hx hb dNX12_adjournment_18 (by decide) (fun c5 => ?_) (fun c5 => ?_)
  · replace hf := (if_pos c5).symm.trans hf
    cases hf
  · replace hf := (if_neg c5).symm.trans hf
    refine lv_iload_n hx hb dNX12_adjournment_21 rfl (lv_at hl 3 rfl) ?_
    refine hl_aload hx hb dNX12_adjournment_22 (lv_at hl 0 rfl) ?_
    obtain ⟨a6, ha6, hf⟩ := bnd hf
    replace ha6 := chk_some ha6
    refine gn7_6 hx hb hts hown hKs hH ha6.1 ha6.2 m2_84 dNX12_adjournment_24 ?_
    refine lv_icmp_ge (tgt := 39) hx hb dNX12_adjournment_27 (by decide) (fun c7 => ?_) (fun c7 => ?_)
    · replace hf := (if_pos c7).symm.trans hf
      cases hf
    · replace hf := (if_neg c7).symm.trans hf
      refine lv_iload_n hx hb dNX12_adjournment_30 rfl (lv_at hl 4 rfl) ?_
      refine lv_if_lt (tgt := 39) hx hb dNX12_adjournment_31 (by decide) (fun c8 => ?_) (fun c8 => ?_)
      · replace hf := (if_pos c8).symm.trans hf
        cases hf
      · replace hf := (if_neg c8).symm.trans hf
        refine lv_iload_n hx hb dNX12_adjournment_34 rfl (lv_at hl 4 rfl) ?_
        refine lv_iconst (v := 4) hx hb dNX12_adjournment_35 (by decide) ?_
        refine lv_icmp_lt (tgt := 47) hx hb dNX12_adjournment_36 (by decide) (fun c9 => ?_) (fun c9 => ?_)
        · replace hf := (if_pos c9).symm.trans hf
          refine hl_aload hx hb dNX12_adjournment_47 (lv_at hl 0 rfl) ?_
          refine gn7_7 hx hb hts hown hKs hH ha6.1 ha6.2 m2_87 dNX12_adjournment_49 ?_
          refine lv_iload_n hx hb dNX12_adjournment_52 rfl (lv_at hl 3 rfl) ?_
          refine lv_iconst (v := 4) hx hb dNX12_adjournment_53 (by decide) ?_
          refine lv_imul hx hb dNX12_adjournment_54 ?_
          refine lv_iload_n hx hb dNX12_adjournment_55 rfl (lv_at hl 4 rfl) ?_
          refine lv_iadd hx hb dNX12_adjournment_56 ?_
          obtain ⟨a10, ha10, hf⟩ := bnd hf
          replace ha10 := cha_some ha10
          obtain ⟨j11, hj11, hf⟩ := bnd hf
          refine hw_iald hx hb hKs hH ha10.1 ha10.2 hj11 dNX12_adjournment_57 ?_
          exact hw_iret hx hb hret hf hH hlocks dNX12_adjournment_58
        · replace hf := (if_neg c9).symm.trans hf
          cases hf

theorem dNX12_caseAt_0 : decode cX12_caseAt 0 = .ok (.aload_n 0, 1) := by decide +kernel
theorem dNX12_caseAt_1 : decode cX12_caseAt 1 = .ok (.iconst 0, 1) := by decide +kernel
theorem dNX12_caseAt_2 : decode cX12_caseAt 2 = .ok (.iload_n 1, 1) := by decide +kernel
theorem dNX12_caseAt_3 : decode cX12_caseAt 3 = .ok (.invokevirtual 175, 3) := by decide +kernel
theorem dNX12_caseAt_6 : decode cX12_caseAt 6 = .ok (.aload_n 0, 1) := by decide +kernel
theorem dNX12_caseAt_7 : decode cX12_caseAt 7 = .ok (.iload_n 2, 1) := by decide +kernel
theorem dNX12_caseAt_8 : decode cX12_caseAt 8 = .ok (.invokevirtual 154, 3) := by decide +kernel
theorem dNX12_caseAt_11 : decode cX12_caseAt 11 = .ok (.aload_n 0, 1) := by decide +kernel
theorem dNX12_caseAt_12 : decode cX12_caseAt 12 = .ok (.iload_n 3, 1) := by decide +kernel
theorem dNX12_caseAt_13 : decode cX12_caseAt 13 = .ok (.invokevirtual 269, 3) := by decide +kernel
theorem dNX12_caseAt_16 : decode cX12_caseAt 16 = .ok (.aload_n 0, 1) := by decide +kernel
theorem dNX12_caseAt_17 : decode cX12_caseAt 17 = .ok (.getfield 35, 3) := by decide +kernel
theorem dNX12_caseAt_20 : decode cX12_caseAt 20 = .ok (.iload_n 1, 1) := by decide +kernel
theorem dNX12_caseAt_21 : decode cX12_caseAt 21 = .ok (.iload_n 2, 1) := by decide +kernel
theorem dNX12_caseAt_22 : decode cX12_caseAt 22 = .ok (.iload_n 3, 1) := by decide +kernel
theorem dNX12_caseAt_23 : decode cX12_caseAt 23 = .ok (.invokevirtual 272, 3) := by decide +kernel
theorem dNX12_caseAt_26 : decode cX12_caseAt 26 = .ok (.ireturn, 1) := by decide +kernel
theorem hd_NX12_caseAt : yX12_caseAt.cls = RX12 ∧ yX12_caseAt.cls ≠ "java/lang/invoke/MethodHandle" ∧ yX12_caseAt.cls ≠ "java/lang/invoke/VarHandle" ∧ (parseMethodDescriptor yX12_caseAt.desc).map (fun d => d.parameters.length) = some 3 := by decide +kernel
theorem hs_NX12_caseAt : yX12_caseAt.cls ≠ "java/lang/invoke/MethodHandle" ∧ yX12_caseAt.cls ≠ "java/lang/invoke/VarHandle" ∧ (parseMethodDescriptor yX12_caseAt.desc).map (fun d => d.parameters.length) = some 3 := by decide +kernel
set_option maxHeartbeats 4000000 in
set_option maxRecDepth 100000 in
theorem k_NX12_caseAt (l : Launch) (E : Ev) (K : Kd) (z : Nat) (o : Nat) (a_1 : Int32) (a_2 : Int32) (a_3 : Int32) (w : Wd) (ho : K o = some (10, 0)) {r : Int32} {w' : Wd} (hf : f_NX12_caseAt K o a_1 a_2 a_3 w = some (r, w')) : Met l yX12_caseAt (Cond.code yX12_caseAt cX12_caseAt 4 (Option.some Jvm.ClassFile.FieldType.int) :: bt) ({ frames := 3, cells := 0, slots := 0, locals := 66 } : Room) (va_Pc [rv E (some o), .int a_1, .int a_2, .int a_3] (HB E K w z)) (QI E K z w' r) 0 0 (hA E) := by
  refine Met.ofW (cc := cX12_caseAt) (maxL := 4) (ret := (Option.some Jvm.ClassFile.FieldType.int)) (by decide) rfl ?_
  intro p e s m args below meth c s₁ B hml hv
  obtain ⟨rfl, hz, hP, hKs, hT, hb0⟩ := hv
  have C : CX p l e s m _ meth c cX12_caseAt 4 RX12 (Option.some Jvm.ClassFile.FieldType.int) E := ⟨B.exec, B.bytes, hml, findClass_of_methodNamed B.named, fun w h => atoms_spec (ws := Cond.code yX12_caseAt cX12_caseAt 4 (Option.some Jvm.ClassFile.FieldType.int) :: bt) B.pre w (List.mem_cons_of_mem _ h), hKs, hT, by rw [hz]; exact hb0, B.notSynchronized, B.returns⟩
  have hH : HQ E K z w s s.heap [] := ⟨hP, va_S.rf, hz⟩
  obtain ⟨hx, hb, hml, hown, hts, hKs, hT, hb0, hlocks, hret⟩ := id C
  have hl := lv_entry [rv E (some o), .int a_1, .int a_2, .int a_3] (n := 4) (by simp [lg_len_nil, lg_len_i, lg_len_j, lg_len_q, lg_len_f, lg_len_d, lg_len_r])
  rw [lg_entry_eq]
  generalize (lg_sl [rv E (some o), .int a_1, .int a_2, .int a_3] ++ List.replicate (4 - (lg_sl [rv E (some o), .int a_1, .int a_2, .int a_3]).length) Slot.unset).toArray = ls at hl ⊢
  replace hl : lv_has ls 4 [(0, rv E (some o)), (1, .int a_1), (2, .int a_2), (3, .int a_3)] := by simpa only [lv_args, cat_q, cat_i, cat_j, reduceIte, Nat.reduceEqDiff, Nat.reduceAdd, Nat.zero_add] using hl
  generalize s.heap = H at hH ⊢
  unfold f_NX12_caseAt at hf
  refine hl_aload_n hx hb dNX12_caseAt_0 rfl (lv_at hl 0 rfl) ?_
  refine lv_iconst (v := 0) hx hb dNX12_caseAt_1 (by decide) ?_
  refine lv_iload_n hx hb dNX12_caseAt_2 rfl (lv_at hl 1 rfl) ?_
  obtain ⟨q1, hq1, hf⟩ := bnd hf
  refine hcV_v hx hb hml hown hts hKs hT hb0 hH (As := [.int 0, .int a_1]) (rest := []) (k_NX12_requireExisting l E K H.size o 0 a_1 w ho hq1) (gV m6_91 m6_93 ms_29 m1_1 m6_94) hd_NX12_requireExisting ⟨Nat.le_of_ble_eq_true rfl, Nat.le_of_ble_eq_true rfl, rfl, rfl⟩ rfl ho rfl rfl rfl hl.1 rfl rc0 rfl dNX12_caseAt_3 ⟨Nat.zero_le _, Nat.zero_le _⟩ (fun H locs hH => ?_)
  refine hl_aload_n hx hb dNX12_caseAt_6 rfl (lv_at hl 0 rfl) ?_
  refine lv_iload_n hx hb dNX12_caseAt_7 rfl (lv_at hl 2 rfl) ?_
  obtain ⟨q2, hq2, hf⟩ := bnd hf
  refine hcV_v hx hb hml hown hts hKs hT hb0 hH (As := [.int a_2]) (rest := []) (k_NX12_requireDay l E K H.size o a_2 q1 ho hq2) (gV m6_199 m6_201 ms_32 m1_1 m6_202) hd_NX12_requireDay ⟨Nat.le_of_ble_eq_true rfl, Nat.le_of_ble_eq_true rfl, rfl, rfl⟩ rfl ho rfl rfl rfl hl.1 rfl rc0 rfl dNX12_caseAt_8 ⟨Nat.zero_le _, Nat.zero_le _⟩ (fun H locs hH => ?_)
  refine hl_aload_n hx hb dNX12_caseAt_11 rfl (lv_at hl 0 rfl) ?_
  refine lv_iload_n hx hb dNX12_caseAt_12 rfl (lv_at hl 3 rfl) ?_
  obtain ⟨q3, hq3, hf⟩ := bnd hf
  refine hcV_v hx hb hml hown hts hKs hT hb0 hH (As := [.int a_3]) (rest := []) (k_NX12_requireSlot l E K H.size o a_3 q2 ho hq3) (gV m6_203 m6_205 ms_33 m1_1 m6_206) hd_NX12_requireSlot ⟨Nat.le_of_ble_eq_true rfl, Nat.le_of_ble_eq_true rfl, rfl, rfl⟩ rfl ho rfl rfl rfl hl.1 rfl rc0 rfl dNX12_caseAt_13 ⟨Nat.zero_le _, Nat.zero_le _⟩ (fun H locs hH => ?_)
  refine hl_aload_n hx hb dNX12_caseAt_16 rfl (lv_at hl 0 rfl) ?_
  refine g12_5 hx hb hts hown hKs hH rfl ho m2_214 dNX12_caseAt_17 ?_
  refine lv_iload_n hx hb dNX12_caseAt_20 rfl (lv_at hl 1 rfl) ?_
  refine lv_iload_n hx hb dNX12_caseAt_21 rfl (lv_at hl 2 rfl) ?_
  refine lv_iload_n hx hb dNX12_caseAt_22 rfl (lv_at hl 3 rfl) ?_
  obtain ⟨a4, ha4, hf⟩ := bnd hf
  replace ha4 := chk_some ha4
  obtain ⟨q5, hq5, hf⟩ := bnd hf
  refine hcV_i hx hb hml hown hts hKs hT hb0 hH (As := [.int a_1, .int a_2, .int a_3]) (rest := []) (k_X10_caseTaking l E K H.size a4 a_1 a_2 a_3 q3 ha4.2 hq5) (gV m6_207 m6_208 m6_209 m1_12 m6_210) hd_X10_caseTaking ⟨Nat.le_of_ble_eq_true rfl, Nat.le_of_ble_eq_true rfl, rfl, rfl⟩ ha4.1 ha4.2 rfl rfl rfl hl.1 rfl rc0 rfl dNX12_caseAt_23 ⟨Nat.zero_le _, Nat.zero_le _⟩ (fun H locs hH => ?_)
  exact hw_iret hx hb hret hf hH hlocks dNX12_caseAt_26

theorem dNX12_hearing_0 : decode cX12_hearing 0 = .ok (.aload_n 0, 1) := by decide +kernel
theorem dNX12_hearing_1 : decode cX12_hearing 1 = .ok (.iconst 3, 1) := by decide +kernel
theorem dNX12_hearing_2 : decode cX12_hearing 2 = .ok (.iload_n 1, 1) := by decide +kernel
theorem dNX12_hearing_3 : decode cX12_hearing 3 = .ok (.invokevirtual 175, 3) := by decide +kernel
theorem dNX12_hearing_6 : decode cX12_hearing 6 = .ok (.aload_n 0, 1) := by decide +kernel
theorem dNX12_hearing_7 : decode cX12_hearing 7 = .ok (.getfield 35, 3) := by decide +kernel
theorem dNX12_hearing_10 : decode cX12_hearing 10 = .ok (.getfield 213, 3) := by decide +kernel
theorem dNX12_hearing_13 : decode cX12_hearing 13 = .ok (.iload_n 1, 1) := by decide +kernel
theorem dNX12_hearing_14 : decode cX12_hearing 14 = .ok (.aaload, 1) := by decide +kernel
theorem dNX12_hearing_15 : decode cX12_hearing 15 = .ok (.astore_n 3, 1) := by decide +kernel
theorem dNX12_hearing_16 : decode cX12_hearing 16 = .ok (.iload_n 2, 1) := by decide +kernel
theorem dNX12_hearing_17 : decode cX12_hearing 17 = .ok (.tableswitch 51 0 3 #[31, 36, 41, 46], 31) := by decide +kernel
theorem dNX12_hearing_48 : decode cX12_hearing 48 = .ok (.aload_n 3, 1) := by decide +kernel
theorem dNX12_hearing_49 : decode cX12_hearing 49 = .ok (.getfield 256, 3) := by decide +kernel
theorem dNX12_hearing_52 : decode cX12_hearing 52 = .ok (.ireturn, 1) := by decide +kernel
theorem dNX12_hearing_53 : decode cX12_hearing 53 = .ok (.aload_n 3, 1) := by decide +kernel
theorem dNX12_hearing_54 : decode cX12_hearing 54 = .ok (.getfield 257, 3) := by decide +kernel
theorem dNX12_hearing_57 : decode cX12_hearing 57 = .ok (.ireturn, 1) := by decide +kernel
theorem dNX12_hearing_58 : decode cX12_hearing 58 = .ok (.aload_n 3, 1) := by decide +kernel
theorem dNX12_hearing_59 : decode cX12_hearing 59 = .ok (.getfield 260, 3) := by decide +kernel
theorem dNX12_hearing_62 : decode cX12_hearing 62 = .ok (.ireturn, 1) := by decide +kernel
theorem dNX12_hearing_63 : decode cX12_hearing 63 = .ok (.aload_n 3, 1) := by decide +kernel
theorem dNX12_hearing_64 : decode cX12_hearing 64 = .ok (.getfield 263, 3) := by decide +kernel
theorem dNX12_hearing_67 : decode cX12_hearing 67 = .ok (.ireturn, 1) := by decide +kernel
theorem hd_NX12_hearing : yX12_hearing.cls = RX12 ∧ yX12_hearing.cls ≠ "java/lang/invoke/MethodHandle" ∧ yX12_hearing.cls ≠ "java/lang/invoke/VarHandle" ∧ (parseMethodDescriptor yX12_hearing.desc).map (fun d => d.parameters.length) = some 2 := by decide +kernel
theorem hs_NX12_hearing : yX12_hearing.cls ≠ "java/lang/invoke/MethodHandle" ∧ yX12_hearing.cls ≠ "java/lang/invoke/VarHandle" ∧ (parseMethodDescriptor yX12_hearing.desc).map (fun d => d.parameters.length) = some 2 := by decide +kernel
set_option maxHeartbeats 4000000 in
set_option maxRecDepth 100000 in
theorem k_NX12_hearing (l : Launch) (E : Ev) (K : Kd) (z : Nat) (o : Nat) (a_1 : Int32) (a_2 : Int32) (w : Wd) (ho : K o = some (10, 0)) {r : Int32} {w' : Wd} (hf : f_NX12_hearing K o a_1 a_2 w = some (r, w')) : Met l yX12_hearing (Cond.code yX12_hearing cX12_hearing 4 (Option.some Jvm.ClassFile.FieldType.int) :: bt) ({ frames := 2, cells := 0, slots := 0, locals := 43 } : Room) (va_Pc [rv E (some o), .int a_1, .int a_2] (HB E K w z)) (QI E K z w' r) 0 0 (hA E) := by
  refine Met.ofW (cc := cX12_hearing) (maxL := 4) (ret := (Option.some Jvm.ClassFile.FieldType.int)) (by decide) rfl ?_
  intro p e s m args below meth c s₁ B hml hv
  obtain ⟨rfl, hz, hP, hKs, hT, hb0⟩ := hv
  have C : CX p l e s m _ meth c cX12_hearing 4 RX12 (Option.some Jvm.ClassFile.FieldType.int) E := ⟨B.exec, B.bytes, hml, findClass_of_methodNamed B.named, fun w h => atoms_spec (ws := Cond.code yX12_hearing cX12_hearing 4 (Option.some Jvm.ClassFile.FieldType.int) :: bt) B.pre w (List.mem_cons_of_mem _ h), hKs, hT, by rw [hz]; exact hb0, B.notSynchronized, B.returns⟩
  have hH : HQ E K z w s s.heap [] := ⟨hP, va_S.rf, hz⟩
  obtain ⟨hx, hb, hml, hown, hts, hKs, hT, hb0, hlocks, hret⟩ := id C
  have hl := lv_entry [rv E (some o), .int a_1, .int a_2] (n := 4) (by simp [lg_len_nil, lg_len_i, lg_len_j, lg_len_q, lg_len_f, lg_len_d, lg_len_r])
  rw [lg_entry_eq]
  generalize (lg_sl [rv E (some o), .int a_1, .int a_2] ++ List.replicate (4 - (lg_sl [rv E (some o), .int a_1, .int a_2]).length) Slot.unset).toArray = ls at hl ⊢
  replace hl : lv_has ls 4 [(0, rv E (some o)), (1, .int a_1), (2, .int a_2)] := by simpa only [lv_args, cat_q, cat_i, cat_j, reduceIte, Nat.reduceEqDiff, Nat.reduceAdd, Nat.zero_add] using hl
  generalize s.heap = H at hH ⊢
  unfold f_NX12_hearing at hf
  refine hl_aload_n hx hb dNX12_hearing_0 rfl (lv_at hl 0 rfl) ?_
  refine lv_iconst (v := 3) hx hb dNX12_hearing_1 (by decide) ?_
  refine lv_iload_n hx hb dNX12_hearing_2 rfl (lv_at hl 1 rfl) ?_
  obtain ⟨q1, hq1, hf⟩ := bnd hf
  refine hcV_v hx hb hml hown hts hKs hT hb0 hH (As := [.int 3, .int a_1]) (rest := []) (k_NX12_requireExisting l E K H.size o 3 a_1 w ho hq1) (gV m6_91 m6_93 ms_29 m1_1 m6_94) hd_NX12_requireExisting ⟨Nat.le_of_ble_eq_true rfl, Nat.le_of_ble_eq_true rfl, rfl, rfl⟩ rfl ho rfl rfl rfl hl.1 rfl rc0 rfl dNX12_hearing_3 ⟨Nat.zero_le _, Nat.zero_le _⟩ (fun H locs hH => ?_)
  refine hl_aload_n hx hb dNX12_hearing_6 rfl (lv_at hl 0 rfl) ?_
  refine g12_5 hx hb hts hown hKs hH rfl ho m2_214 dNX12_hearing_7 ?_
  obtain ⟨a2, ha2, hf⟩ := bnd hf
  replace ha2 := chk_some ha2
  refine gn10_5 hx hb hts hown hKs hH ha2.1 ha2.2 m2_127 dNX12_hearing_10 ?_
  refine lv_iload_n hx hb dNX12_hearing_13 rfl (lv_at hl 1 rfl) ?_
  obtain ⟨a3, ha3, hf⟩ := bnd hf
  replace ha3 := cha_some ha3
  obtain ⟨j4, hj4, hf⟩ := bnd hf
  refine hw_aald27 hx hb hKs hH ha3.1 ha3.2 hj4 dNX12_hearing_14 ?_
  refine hl_astore_n (i := 3) (lv' := [(3, rv E (aR q1 a3.1 j4)), (0, rv E (some o)), (1, .int a_1), (2, .int a_2)]) hx hb dNX12_hearing_15 rfl hl (by decide) rfl (fun ls hl => ?_)
  refine lv_iload_n hx hb dNX12_hearing_16 rfl (lv_at hl 3 rfl) ?_
  by_cases c5 : (a_2 < 0 ∨ 3 < a_2)
  · replace hf := (if_pos c5).symm.trans hf
    refine hl_tabOut (tgt := 68) hx hb dNX12_hearing_17 c5 (by decide) (by decide) (by decide) ?_
    cases hf
  replace hf := (if_neg c5).symm.trans hf
  by_cases c6 : a_2 = 0
  · replace hf := (if_pos c6).symm.trans hf
    refine hl_tabIn (tgt := 48) hx hb dNX12_hearing_17 c6 (by decide) (by decide) rfl (by decide) ?_
    refine hl_aload_n hx hb dNX12_hearing_48 rfl (lv_at hl 0 rfl) ?_
    obtain ⟨a7, ha7, hf⟩ := bnd hf
    replace ha7 := chk_some ha7
    refine gn7_2 hx hb hts hown hKs hH ha7.1 ha7.2 m2_70 dNX12_hearing_49 ?_
    exact hw_iret hx hb hret hf hH hlocks dNX12_hearing_52
  replace hf := (if_neg c6).symm.trans hf
  by_cases c8 : a_2 = 1
  · replace hf := (if_pos c8).symm.trans hf
    refine hl_tabIn (tgt := 53) hx hb dNX12_hearing_17 c8 (by decide) (by decide) rfl (by decide) ?_
    refine hl_aload_n hx hb dNX12_hearing_53 rfl (lv_at hl 0 rfl) ?_
    obtain ⟨a9, ha9, hf⟩ := bnd hf
    replace ha9 := chk_some ha9
    refine gn7_3 hx hb hts hown hKs hH ha9.1 ha9.2 m2_74 dNX12_hearing_54 ?_
    exact hw_iret hx hb hret hf hH hlocks dNX12_hearing_57
  replace hf := (if_neg c8).symm.trans hf
  by_cases c10 : a_2 = 2
  · replace hf := (if_pos c10).symm.trans hf
    refine hl_tabIn (tgt := 58) hx hb dNX12_hearing_17 c10 (by decide) (by decide) rfl (by decide) ?_
    refine hl_aload_n hx hb dNX12_hearing_58 rfl (lv_at hl 0 rfl) ?_
    obtain ⟨a11, ha11, hf⟩ := bnd hf
    replace ha11 := chk_some ha11
    refine gn7_4 hx hb hts hown hKs hH ha11.1 ha11.2 m2_78 dNX12_hearing_59 ?_
    exact hw_iret hx hb hret hf hH hlocks dNX12_hearing_62
  replace hf := (if_neg c10).symm.trans hf
  by_cases c12 : a_2 = 3
  · replace hf := (if_pos c12).symm.trans hf
    refine hl_tabIn (tgt := 63) hx hb dNX12_hearing_17 c12 (by decide) (by decide) rfl (by decide) ?_
    refine hl_aload_n hx hb dNX12_hearing_63 rfl (lv_at hl 0 rfl) ?_
    obtain ⟨a13, ha13, hf⟩ := bnd hf
    replace ha13 := chk_some ha13
    refine gn7_5 hx hb hts hown hKs hH ha13.1 ha13.2 m2_82 dNX12_hearing_64 ?_
    exact hw_iret hx hb hret hf hH hlocks dNX12_hearing_67
  replace hf := (if_neg c12).symm.trans hf
  cases hf

theorem dNX12_lapsesIn_0 : decode cX12_lapsesIn 0 = .ok (.aload_n 0, 1) := by decide +kernel
theorem dNX12_lapsesIn_1 : decode cX12_lapsesIn 1 = .ok (.iload_n 1, 1) := by decide +kernel
theorem dNX12_lapsesIn_2 : decode cX12_lapsesIn 2 = .ok (.invokevirtual 322, 3) := by decide +kernel
theorem dNX12_lapsesIn_5 : decode cX12_lapsesIn 5 = .ok (.aload_n 0, 1) := by decide +kernel
theorem dNX12_lapsesIn_6 : decode cX12_lapsesIn 6 = .ok (.getfield 35, 3) := by decide +kernel
theorem dNX12_lapsesIn_9 : decode cX12_lapsesIn 9 = .ok (.iconst 3, 1) := by decide +kernel
theorem dNX12_lapsesIn_10 : decode cX12_lapsesIn 10 = .ok (.invokevirtual 130, 3) := by decide +kernel
theorem dNX12_lapsesIn_13 : decode cX12_lapsesIn 13 = .ok (.istore_n 2, 1) := by decide +kernel
theorem dNX12_lapsesIn_14 : decode cX12_lapsesIn 14 = .ok (.aload_n 0, 1) := by decide +kernel
theorem dNX12_lapsesIn_15 : decode cX12_lapsesIn 15 = .ok (.getfield 42, 3) := by decide +kernel
theorem dNX12_lapsesIn_18 : decode cX12_lapsesIn 18 = .ok (.aload_n 0, 1) := by decide +kernel
theorem dNX12_lapsesIn_19 : decode cX12_lapsesIn 19 = .ok (.getfield 35, 3) := by decide +kernel
theorem dNX12_lapsesIn_22 : decode cX12_lapsesIn 22 = .ok (.invokevirtual 362, 3) := by decide +kernel
theorem dNX12_lapsesIn_25 : decode cX12_lapsesIn 25 = .ok (.aload_n 0, 1) := by decide +kernel
theorem dNX12_lapsesIn_26 : decode cX12_lapsesIn 26 = .ok (.getfield 42, 3) := by decide +kernel
theorem dNX12_lapsesIn_29 : decode cX12_lapsesIn 29 = .ok (.iload_n 1, 1) := by decide +kernel
theorem dNX12_lapsesIn_30 : decode cX12_lapsesIn 30 = .ok (.invokevirtual 328, 3) := by decide +kernel
theorem dNX12_lapsesIn_33 : decode cX12_lapsesIn 33 = .ok (.pop, 1) := by decide +kernel
theorem dNX12_lapsesIn_34 : decode cX12_lapsesIn 34 = .ok (.aload_n 0, 1) := by decide +kernel
theorem dNX12_lapsesIn_35 : decode cX12_lapsesIn 35 = .ok (.getfield 42, 3) := by decide +kernel
theorem dNX12_lapsesIn_38 : decode cX12_lapsesIn 38 = .ok (.iconst 3, 1) := by decide +kernel
theorem dNX12_lapsesIn_39 : decode cX12_lapsesIn 39 = .ok (.invokevirtual 130, 3) := by decide +kernel
theorem dNX12_lapsesIn_42 : decode cX12_lapsesIn 42 = .ok (.iload_n 2, 1) := by decide +kernel
theorem dNX12_lapsesIn_43 : decode cX12_lapsesIn 43 = .ok (.isub, 1) := by decide +kernel
theorem dNX12_lapsesIn_44 : decode cX12_lapsesIn 44 = .ok (.ireturn, 1) := by decide +kernel
theorem hd_NX12_lapsesIn : yX12_lapsesIn.cls = RX12 ∧ yX12_lapsesIn.cls ≠ "java/lang/invoke/MethodHandle" ∧ yX12_lapsesIn.cls ≠ "java/lang/invoke/VarHandle" ∧ (parseMethodDescriptor yX12_lapsesIn.desc).map (fun d => d.parameters.length) = some 1 := by decide +kernel
theorem hs_NX12_lapsesIn : yX12_lapsesIn.cls ≠ "java/lang/invoke/MethodHandle" ∧ yX12_lapsesIn.cls ≠ "java/lang/invoke/VarHandle" ∧ (parseMethodDescriptor yX12_lapsesIn.desc).map (fun d => d.parameters.length) = some 1 := by decide +kernel
set_option maxHeartbeats 4000000 in
set_option maxRecDepth 100000 in
theorem k_NX12_lapsesIn (l : Launch) (E : Ev) (K : Kd) (z : Nat) (o : Nat) (a_1 : Int32) (w : Wd) (ho : K o = some (10, 0)) {r : Int32} {w' : Wd} (hf : f_NX12_lapsesIn K o a_1 w = some (r, w')) : Met l yX12_lapsesIn (Cond.code yX12_lapsesIn cX12_lapsesIn 3 (Option.some Jvm.ClassFile.FieldType.int) :: bt) ({ frames := 4, cells := 0, slots := 0, locals := 103 } : Room) (va_Pc [rv E (some o), .int a_1] (HB E K w z)) (QI E K z w' r) 0 0 (hA E) := by
  refine Met.ofW (cc := cX12_lapsesIn) (maxL := 3) (ret := (Option.some Jvm.ClassFile.FieldType.int)) (by decide) rfl ?_
  intro p e s m args below meth c s₁ B hml hv
  obtain ⟨rfl, hz, hP, hKs, hT, hb0⟩ := hv
  have C : CX p l e s m _ meth c cX12_lapsesIn 3 RX12 (Option.some Jvm.ClassFile.FieldType.int) E := ⟨B.exec, B.bytes, hml, findClass_of_methodNamed B.named, fun w h => atoms_spec (ws := Cond.code yX12_lapsesIn cX12_lapsesIn 3 (Option.some Jvm.ClassFile.FieldType.int) :: bt) B.pre w (List.mem_cons_of_mem _ h), hKs, hT, by rw [hz]; exact hb0, B.notSynchronized, B.returns⟩
  have hH : HQ E K z w s s.heap [] := ⟨hP, va_S.rf, hz⟩
  obtain ⟨hx, hb, hml, hown, hts, hKs, hT, hb0, hlocks, hret⟩ := id C
  have hl := lv_entry [rv E (some o), .int a_1] (n := 3) (by simp [lg_len_nil, lg_len_i, lg_len_j, lg_len_q, lg_len_f, lg_len_d, lg_len_r])
  rw [lg_entry_eq]
  generalize (lg_sl [rv E (some o), .int a_1] ++ List.replicate (3 - (lg_sl [rv E (some o), .int a_1]).length) Slot.unset).toArray = ls at hl ⊢
  replace hl : lv_has ls 3 [(0, rv E (some o)), (1, .int a_1)] := by simpa only [lv_args, cat_q, cat_i, cat_j, reduceIte, Nat.reduceEqDiff, Nat.reduceAdd, Nat.zero_add] using hl
  generalize s.heap = H at hH ⊢
  unfold f_NX12_lapsesIn at hf
  refine hl_aload_n hx hb dNX12_lapsesIn_0 rfl (lv_at hl 0 rfl) ?_
  refine lv_iload_n hx hb dNX12_lapsesIn_1 rfl (lv_at hl 1 rfl) ?_
  obtain ⟨q1, hq1, hf⟩ := bnd hf
  refine hcV_v hx hb hml hown hts hKs hT hb0 hH (As := [.int a_1]) (rest := []) (k_NX12_requirePassable l E K H.size o a_1 w ho hq1) (gV m3_50 m3_52 ms_0 m1_1 m3_53) hd_NX12_requirePassable ⟨Nat.le_of_ble_eq_true rfl, Nat.le_of_ble_eq_true rfl, rfl, rfl⟩ rfl ho rfl rfl rfl hl.1 rfl rc0 rfl dNX12_lapsesIn_2 ⟨Nat.zero_le _, Nat.zero_le _⟩ (fun H locs hH => ?_)
  refine hl_aload_n hx hb dNX12_lapsesIn_5 rfl (lv_at hl 0 rfl) ?_
  refine g12_5 hx hb hts hown hKs hH rfl ho m2_214 dNX12_lapsesIn_6 ?_
  refine lv_iconst (v := 3) hx hb dNX12_lapsesIn_9 (by decide) ?_
  obtain ⟨a2, ha2, hf⟩ := bnd hf
  replace ha2 := chk_some ha2
  obtain ⟨q3, hq3, hf⟩ := bnd hf
  refine hcV_i hx hb hml hown hts hKs hT hb0 hH (As := [.int 3]) (rest := []) (k_X10_countPhase l E K H.size a2 3 q1 ha2.2 hq3) (gV m3_42 m3_43 m3_44 m1_12 m3_45) hd_X10_countPhase ⟨Nat.le_of_ble_eq_true rfl, Nat.le_of_ble_eq_true rfl, rfl, rfl⟩ ha2.1 ha2.2 rfl rfl rfl hl.1 rfl rc0 rfl dNX12_lapsesIn_10 ⟨Nat.zero_le _, Nat.zero_le _⟩ (fun H locs hH => ?_)
  refine lv_istore_n (i := 2) (lv' := [(2, .int (q3.1)), (0, rv E (some o)), (1, .int a_1)]) hx hb dNX12_lapsesIn_13 rfl hl (by decide) rfl (fun ls hl => ?_)
  refine hl_aload_n hx hb dNX12_lapsesIn_14 rfl (lv_at hl 1 rfl) ?_
  refine g12_8 hx hb hts hown hKs hH rfl ho m2_217 dNX12_lapsesIn_15 ?_
  refine hl_aload_n hx hb dNX12_lapsesIn_18 rfl (lv_at hl 1 rfl) ?_
  refine g12_5 hx hb hts hown hKs hH rfl ho m2_214 dNX12_lapsesIn_19 ?_
  obtain ⟨a4, ha4, hf⟩ := bnd hf
  replace ha4 := chk_some ha4
  obtain ⟨q5, hq5, hf⟩ := bnd hf
  refine hcV_v hx hb hml hown hts hKs hT hb0 hH (As := [rv E (wR q3.2 1205 o)]) (rest := []) (k_X10_copyFrom l E K H.size a4 (wR q3.2 1205 o) q3.2 ha4.2 hq5) (gV m3_123 m3_124 m3_125 m1_12 m3_126) hd_X10_copyFrom ⟨Nat.le_of_ble_eq_true rfl, Nat.le_of_ble_eq_true rfl, rfl, rfl⟩ ha4.1 ha4.2 rfl rfl rfl hl.1 rfl rc0 rfl dNX12_lapsesIn_22 ⟨Nat.zero_le _, Nat.zero_le _⟩ (fun H locs hH => ?_)
  refine hl_aload_n hx hb dNX12_lapsesIn_25 rfl (lv_at hl 1 rfl) ?_
  refine g12_8 hx hb hts hown hKs hH rfl ho m2_217 dNX12_lapsesIn_26 ?_
  refine lv_iload_n hx hb dNX12_lapsesIn_29 rfl (lv_at hl 2 rfl) ?_
  obtain ⟨a6, ha6, hf⟩ := bnd hf
  replace ha6 := chk_some ha6
  obtain ⟨q7, hq7, hf⟩ := bnd hf
  refine hcV_i hx hb hml hown hts hKs hT hb0 hH (As := [.int a_1]) (rest := []) (k_X10_passDays l E K H.size a6 a_1 q5 ha6.2 hq7) (gV m3_140 m3_141 m3_142 m1_12 m3_143) hd_X10_passDays ⟨Nat.le_of_ble_eq_true rfl, Nat.le_of_ble_eq_true rfl, rfl, rfl⟩ ha6.1 ha6.2 rfl rfl rfl hl.1 rfl rc0 rfl dNX12_lapsesIn_30 ⟨Nat.zero_le _, Nat.zero_le _⟩ (fun H locs hH => ?_)
  refine lv_pop hx hb dNX12_lapsesIn_33 rfl ?_
  refine hl_aload_n hx hb dNX12_lapsesIn_34 rfl (lv_at hl 1 rfl) ?_
  refine g12_8 hx hb hts hown hKs hH rfl ho m2_217 dNX12_lapsesIn_35 ?_
  refine lv_iconst (v := 3) hx hb dNX12_lapsesIn_38 (by decide) ?_
  obtain ⟨a8, ha8, hf⟩ := bnd hf
  replace ha8 := chk_some ha8
  obtain ⟨q9, hq9, hf⟩ := bnd hf
  refine hcV_i hx hb hml hown hts hKs hT hb0 hH (As := [.int 3]) (rest := []) (k_X10_countPhase l E K H.size a8 3 q7.2 ha8.2 hq9) (gV m3_42 m3_43 m3_44 m1_12 m3_45) hd_X10_countPhase ⟨Nat.le_of_ble_eq_true rfl, Nat.le_of_ble_eq_true rfl, rfl, rfl⟩ ha8.1 ha8.2 rfl rfl rfl hl.1 rfl rc0 rfl dNX12_lapsesIn_39 ⟨Nat.zero_le _, Nat.zero_le _⟩ (fun H locs hH => ?_)
  refine lv_iload_n hx hb dNX12_lapsesIn_42 rfl (lv_at hl 0 rfl) ?_
  refine lv_isub hx hb dNX12_lapsesIn_43 ?_
  exact hw_iret hx hb hret hf hH hlocks dNX12_lapsesIn_44

theorem dNX12_load_0 : decode cX12_load 0 = .ok (.aload_n 0, 1) := by decide +kernel
theorem dNX12_load_1 : decode cX12_load 1 = .ok (.iconst 1, 1) := by decide +kernel
theorem dNX12_load_2 : decode cX12_load 2 = .ok (.iload_n 1, 1) := by decide +kernel
theorem dNX12_load_3 : decode cX12_load 3 = .ok (.invokevirtual 175, 3) := by decide +kernel
theorem dNX12_load_6 : decode cX12_load 6 = .ok (.aload_n 0, 1) := by decide +kernel
theorem dNX12_load_7 : decode cX12_load 7 = .ok (.getfield 35, 3) := by decide +kernel
theorem dNX12_load_10 : decode cX12_load 10 = .ok (.iload_n 1, 1) := by decide +kernel
theorem dNX12_load_11 : decode cX12_load 11 = .ok (.invokevirtual 206, 3) := by decide +kernel
theorem dNX12_load_14 : decode cX12_load 14 = .ok (.ireturn, 1) := by decide +kernel
theorem hd_NX12_load : yX12_load.cls = RX12 ∧ yX12_load.cls ≠ "java/lang/invoke/MethodHandle" ∧ yX12_load.cls ≠ "java/lang/invoke/VarHandle" ∧ (parseMethodDescriptor yX12_load.desc).map (fun d => d.parameters.length) = some 1 := by decide +kernel
theorem hs_NX12_load : yX12_load.cls ≠ "java/lang/invoke/MethodHandle" ∧ yX12_load.cls ≠ "java/lang/invoke/VarHandle" ∧ (parseMethodDescriptor yX12_load.desc).map (fun d => d.parameters.length) = some 1 := by decide +kernel
set_option maxHeartbeats 4000000 in
set_option maxRecDepth 100000 in
theorem k_NX12_load (l : Launch) (E : Ev) (K : Kd) (z : Nat) (o : Nat) (a_1 : Int32) (w : Wd) (ho : K o = some (10, 0)) {r : Int32} {w' : Wd} (hf : f_NX12_load K o a_1 w = some (r, w')) : Met l yX12_load (Cond.code yX12_load cX12_load 2 (Option.some Jvm.ClassFile.FieldType.int) :: bt) ({ frames := 2, cells := 0, slots := 0, locals := 44 } : Room) (va_Pc [rv E (some o), .int a_1] (HB E K w z)) (QI E K z w' r) 0 0 (hA E) := by
  refine Met.ofW (cc := cX12_load) (maxL := 2) (ret := (Option.some Jvm.ClassFile.FieldType.int)) (by decide) rfl ?_
  intro p e s m args below meth c s₁ B hml hv
  obtain ⟨rfl, hz, hP, hKs, hT, hb0⟩ := hv
  have C : CX p l e s m _ meth c cX12_load 2 RX12 (Option.some Jvm.ClassFile.FieldType.int) E := ⟨B.exec, B.bytes, hml, findClass_of_methodNamed B.named, fun w h => atoms_spec (ws := Cond.code yX12_load cX12_load 2 (Option.some Jvm.ClassFile.FieldType.int) :: bt) B.pre w (List.mem_cons_of_mem _ h), hKs, hT, by rw [hz]; exact hb0, B.notSynchronized, B.returns⟩
  have hH : HQ E K z w s s.heap [] := ⟨hP, va_S.rf, hz⟩
  obtain ⟨hx, hb, hml, hown, hts, hKs, hT, hb0, hlocks, hret⟩ := id C
  have hl := lv_entry [rv E (some o), .int a_1] (n := 2) (by simp [lg_len_nil, lg_len_i, lg_len_j, lg_len_q, lg_len_f, lg_len_d, lg_len_r])
  rw [lg_entry_eq]
  generalize (lg_sl [rv E (some o), .int a_1] ++ List.replicate (2 - (lg_sl [rv E (some o), .int a_1]).length) Slot.unset).toArray = ls at hl ⊢
  replace hl : lv_has ls 2 [(0, rv E (some o)), (1, .int a_1)] := by simpa only [lv_args, cat_q, cat_i, cat_j, reduceIte, Nat.reduceEqDiff, Nat.reduceAdd, Nat.zero_add] using hl
  generalize s.heap = H at hH ⊢
  unfold f_NX12_load at hf
  refine hl_aload_n hx hb dNX12_load_0 rfl (lv_at hl 0 rfl) ?_
  refine lv_iconst (v := 1) hx hb dNX12_load_1 (by decide) ?_
  refine lv_iload_n hx hb dNX12_load_2 rfl (lv_at hl 1 rfl) ?_
  obtain ⟨q1, hq1, hf⟩ := bnd hf
  refine hcV_v hx hb hml hown hts hKs hT hb0 hH (As := [.int 1, .int a_1]) (rest := []) (k_NX12_requireExisting l E K H.size o 1 a_1 w ho hq1) (gV m6_91 m6_93 ms_29 m1_1 m6_94) hd_NX12_requireExisting ⟨Nat.le_of_ble_eq_true rfl, Nat.le_of_ble_eq_true rfl, rfl, rfl⟩ rfl ho rfl rfl rfl hl.1 rfl rc0 rfl dNX12_load_3 ⟨Nat.zero_le _, Nat.zero_le _⟩ (fun H locs hH => ?_)
  refine hl_aload_n hx hb dNX12_load_6 rfl (lv_at hl 0 rfl) ?_
  refine g12_5 hx hb hts hown hKs hH rfl ho m2_214 dNX12_load_7 ?_
  refine lv_iload_n hx hb dNX12_load_10 rfl (lv_at hl 1 rfl) ?_
  obtain ⟨a2, ha2, hf⟩ := bnd hf
  replace ha2 := chk_some ha2
  obtain ⟨q3, hq3, hf⟩ := bnd hf
  refine hcV_i hx hb hml hown hts hKs hT hb0 hH (As := [.int a_1]) (rest := []) (k_X10_loadOf l E K H.size a2 a_1 q1 ha2.2 hq3) (gV m6_233 m3_192 m3_193 m1_12 m3_194) hd_X10_loadOf ⟨Nat.le_of_ble_eq_true rfl, Nat.le_of_ble_eq_true rfl, rfl, rfl⟩ ha2.1 ha2.2 rfl rfl rfl hl.1 rfl rc0 rfl dNX12_load_11 ⟨Nat.zero_le _, Nat.zero_le _⟩ (fun H locs hH => ?_)
  exact hw_iret hx hb hret hf hH hlocks dNX12_load_14

theorem dNX12_matter_0 : decode cX12_matter 0 = .ok (.aload_n 0, 1) := by decide +kernel
theorem dNX12_matter_1 : decode cX12_matter 1 = .ok (.iconst 3, 1) := by decide +kernel
theorem dNX12_matter_2 : decode cX12_matter 2 = .ok (.iload_n 1, 1) := by decide +kernel
theorem dNX12_matter_3 : decode cX12_matter 3 = .ok (.invokevirtual 175, 3) := by decide +kernel
theorem dNX12_matter_6 : decode cX12_matter 6 = .ok (.aload_n 0, 1) := by decide +kernel
theorem dNX12_matter_7 : decode cX12_matter 7 = .ok (.getfield 35, 3) := by decide +kernel
theorem dNX12_matter_10 : decode cX12_matter 10 = .ok (.getfield 87, 3) := by decide +kernel
theorem dNX12_matter_13 : decode cX12_matter 13 = .ok (.getfield 209, 3) := by decide +kernel
theorem dNX12_matter_16 : decode cX12_matter 16 = .ok (.iload_n 1, 1) := by decide +kernel
theorem dNX12_matter_17 : decode cX12_matter 17 = .ok (.aaload, 1) := by decide +kernel
theorem dNX12_matter_18 : decode cX12_matter 18 = .ok (.astore_n 3, 1) := by decide +kernel
theorem dNX12_matter_19 : decode cX12_matter 19 = .ok (.aload_n 0, 1) := by decide +kernel
theorem dNX12_matter_20 : decode cX12_matter 20 = .ok (.getfield 35, 3) := by decide +kernel
theorem dNX12_matter_23 : decode cX12_matter 23 = .ok (.getfield 213, 3) := by decide +kernel
theorem dNX12_matter_26 : decode cX12_matter 26 = .ok (.iload_n 1, 1) := by decide +kernel
theorem dNX12_matter_27 : decode cX12_matter 27 = .ok (.aaload, 1) := by decide +kernel
theorem dNX12_matter_28 : decode cX12_matter 28 = .ok (.astore 4, 2) := by decide +kernel
theorem dNX12_matter_30 : decode cX12_matter 30 = .ok (.iload_n 2, 1) := by decide +kernel
theorem dNX12_matter_31 : decode cX12_matter 31 = .ok (.tableswitch 124 0 9 #[53, 58, 63, 68, 74, 83, 89, 102, 108, 116], 53) := by decide +kernel
theorem dNX12_matter_84 : decode cX12_matter 84 = .ok (.aload_n 3, 1) := by decide +kernel
theorem dNX12_matter_85 : decode cX12_matter 85 = .ok (.getfield 217, 3) := by decide +kernel
theorem dNX12_matter_88 : decode cX12_matter 88 = .ok (.ireturn, 1) := by decide +kernel
theorem dNX12_matter_89 : decode cX12_matter 89 = .ok (.aload_n 3, 1) := by decide +kernel
theorem dNX12_matter_90 : decode cX12_matter 90 = .ok (.getfield 222, 3) := by decide +kernel
theorem dNX12_matter_93 : decode cX12_matter 93 = .ok (.ireturn, 1) := by decide +kernel
theorem dNX12_matter_94 : decode cX12_matter 94 = .ok (.aload_n 3, 1) := by decide +kernel
theorem dNX12_matter_95 : decode cX12_matter 95 = .ok (.getfield 225, 3) := by decide +kernel
theorem dNX12_matter_98 : decode cX12_matter 98 = .ok (.ireturn, 1) := by decide +kernel
theorem dNX12_matter_99 : decode cX12_matter 99 = .ok (.aload 4, 2) := by decide +kernel
theorem dNX12_matter_101 : decode cX12_matter 101 = .ok (.getfield 228, 3) := by decide +kernel
theorem dNX12_matter_104 : decode cX12_matter 104 = .ok (.ireturn, 1) := by decide +kernel
theorem dNX12_matter_105 : decode cX12_matter 105 = .ok (.aload_n 0, 1) := by decide +kernel
theorem dNX12_matter_106 : decode cX12_matter 106 = .ok (.getfield 35, 3) := by decide +kernel
theorem dNX12_matter_109 : decode cX12_matter 109 = .ok (.iload_n 1, 1) := by decide +kernel
theorem dNX12_matter_110 : decode cX12_matter 110 = .ok (.invokevirtual 233, 3) := by decide +kernel
theorem dNX12_matter_113 : decode cX12_matter 113 = .ok (.ireturn, 1) := by decide +kernel
theorem dNX12_matter_114 : decode cX12_matter 114 = .ok (.aload 4, 2) := by decide +kernel
theorem dNX12_matter_116 : decode cX12_matter 116 = .ok (.getfield 236, 3) := by decide +kernel
theorem dNX12_matter_119 : decode cX12_matter 119 = .ok (.ireturn, 1) := by decide +kernel
theorem dNX12_matter_120 : decode cX12_matter 120 = .ok (.aload_n 3, 1) := by decide +kernel
theorem dNX12_matter_121 : decode cX12_matter 121 = .ok (.getfield 239, 3) := by decide +kernel
theorem dNX12_matter_124 : decode cX12_matter 124 = .ok (.ifCond .eq 7, 3) := by decide +kernel
theorem dNX12_matter_127 : decode cX12_matter 127 = .ok (.iconst 1, 1) := by decide +kernel
theorem dNX12_matter_128 : decode cX12_matter 128 = .ok (.goto 4, 3) := by decide +kernel
theorem dNX12_matter_131 : decode cX12_matter 131 = .ok (.iconst 0, 1) := by decide +kernel
theorem dNX12_matter_132 : decode cX12_matter 132 = .ok (.ireturn, 1) := by decide +kernel
theorem dNX12_matter_133 : decode cX12_matter 133 = .ok (.aload 4, 2) := by decide +kernel
theorem dNX12_matter_135 : decode cX12_matter 135 = .ok (.getfield 242, 3) := by decide +kernel
theorem dNX12_matter_138 : decode cX12_matter 138 = .ok (.ireturn, 1) := by decide +kernel
theorem dNX12_matter_139 : decode cX12_matter 139 = .ok (.aload_n 3, 1) := by decide +kernel
theorem dNX12_matter_140 : decode cX12_matter 140 = .ok (.getfield 245, 3) := by decide +kernel
theorem dNX12_matter_143 : decode cX12_matter 143 = .ok (.invokestatic 248, 3) := by decide +kernel
theorem dNX12_matter_146 : decode cX12_matter 146 = .ok (.ireturn, 1) := by decide +kernel
theorem dNX12_matter_147 : decode cX12_matter 147 = .ok (.aload_n 3, 1) := by decide +kernel
theorem dNX12_matter_148 : decode cX12_matter 148 = .ok (.getfield 253, 3) := by decide +kernel
theorem dNX12_matter_151 : decode cX12_matter 151 = .ok (.invokestatic 248, 3) := by decide +kernel
theorem dNX12_matter_154 : decode cX12_matter 154 = .ok (.ireturn, 1) := by decide +kernel
theorem hd_NX12_matter : yX12_matter.cls = RX12 ∧ yX12_matter.cls ≠ "java/lang/invoke/MethodHandle" ∧ yX12_matter.cls ≠ "java/lang/invoke/VarHandle" ∧ (parseMethodDescriptor yX12_matter.desc).map (fun d => d.parameters.length) = some 2 := by decide +kernel
theorem hs_NX12_matter : yX12_matter.cls ≠ "java/lang/invoke/MethodHandle" ∧ yX12_matter.cls ≠ "java/lang/invoke/VarHandle" ∧ (parseMethodDescriptor yX12_matter.desc).map (fun d => d.parameters.length) = some 2 := by decide +kernel
set_option maxHeartbeats 4000000 in
set_option maxRecDepth 100000 in
theorem k_NX12_matter (l : Launch) (E : Ev) (K : Kd) (z : Nat) (o : Nat) (a_1 : Int32) (a_2 : Int32) (w : Wd) (ho : K o = some (10, 0)) {r : Int32} {w' : Wd} (hf : f_NX12_matter K o a_1 a_2 w = some (r, w')) : Met l yX12_matter (Cond.code yX12_matter cX12_matter 5 (Option.some Jvm.ClassFile.FieldType.int) :: bt) ({ frames := 3, cells := 0, slots := 0, locals := 66 } : Room) (va_Pc [rv E (some o), .int a_1, .int a_2] (HB E K w z)) (QI E K z w' r) 0 0 (hA E) := by
  refine Met.ofW (cc := cX12_matter) (maxL := 5) (ret := (Option.some Jvm.ClassFile.FieldType.int)) (by decide) rfl ?_
  intro p e s m args below meth c s₁ B hml hv
  obtain ⟨rfl, hz, hP, hKs, hT, hb0⟩ := hv
  have C : CX p l e s m _ meth c cX12_matter 5 RX12 (Option.some Jvm.ClassFile.FieldType.int) E := ⟨B.exec, B.bytes, hml, findClass_of_methodNamed B.named, fun w h => atoms_spec (ws := Cond.code yX12_matter cX12_matter 5 (Option.some Jvm.ClassFile.FieldType.int) :: bt) B.pre w (List.mem_cons_of_mem _ h), hKs, hT, by rw [hz]; exact hb0, B.notSynchronized, B.returns⟩
  have hH : HQ E K z w s s.heap [] := ⟨hP, va_S.rf, hz⟩
  obtain ⟨hx, hb, hml, hown, hts, hKs, hT, hb0, hlocks, hret⟩ := id C
  have hl := lv_entry [rv E (some o), .int a_1, .int a_2] (n := 5) (by simp [lg_len_nil, lg_len_i, lg_len_j, lg_len_q, lg_len_f, lg_len_d, lg_len_r])
  rw [lg_entry_eq]
  generalize (lg_sl [rv E (some o), .int a_1, .int a_2] ++ List.replicate (5 - (lg_sl [rv E (some o), .int a_1, .int a_2]).length) Slot.unset).toArray = ls at hl ⊢
  replace hl : lv_has ls 5 [(0, rv E (some o)), (1, .int a_1), (2, .int a_2)] := by simpa only [lv_args, cat_q, cat_i, cat_j, reduceIte, Nat.reduceEqDiff, Nat.reduceAdd, Nat.zero_add] using hl
  generalize s.heap = H at hH ⊢
  unfold f_NX12_matter at hf
  refine hl_aload_n hx hb dNX12_matter_0 rfl (lv_at hl 0 rfl) ?_
  refine lv_iconst (v := 3) hx hb dNX12_matter_1 (by decide) ?_
  refine lv_iload_n hx hb dNX12_matter_2 rfl (lv_at hl 1 rfl) ?_
  obtain ⟨q1, hq1, hf⟩ := bnd hf
  refine hcV_v hx hb hml hown hts hKs hT hb0 hH (As := [.int 3, .int a_1]) (rest := []) (k_NX12_requireExisting l E K H.size o 3 a_1 w ho hq1) (gV m6_91 m6_93 ms_29 m1_1 m6_94) hd_NX12_requireExisting ⟨Nat.le_of_ble_eq_true rfl, Nat.le_of_ble_eq_true rfl, rfl, rfl⟩ rfl ho rfl rfl rfl hl.1 rfl rc0 rfl dNX12_matter_3 ⟨Nat.zero_le _, Nat.zero_le _⟩ (fun H locs hH => ?_)
  refine hl_aload_n hx hb dNX12_matter_6 rfl (lv_at hl 0 rfl) ?_
  refine g12_5 hx hb hts hown hKs hH rfl ho m2_214 dNX12_matter_7 ?_
  obtain ⟨a2, ha2, hf⟩ := bnd hf
  replace ha2 := chk_some ha2
  refine gn10_0 hx hb hts hown hKs hH ha2.1 ha2.2 m2_115 dNX12_matter_10 ?_
  obtain ⟨a3, ha3, hf⟩ := bnd hf
  replace ha3 := chk_some ha3
  refine gn9_9 hx hb hts hown hKs hH ha3.1 ha3.2 m1_175 dNX12_matter_13 ?_
  refine lv_iload_n hx hb dNX12_matter_16 rfl (lv_at hl 1 rfl) ?_
  obtain ⟨a4, ha4, hf⟩ := bnd hf
  replace ha4 := cha_some ha4
  obtain ⟨j5, hj5, hf⟩ := bnd hf
  refine hw_aald25 hx hb hKs hH ha4.1 ha4.2 hj5 dNX12_matter_17 ?_
  refine hl_astore_n (i := 3) (lv' := [(3, rv E (aR q1 a4.1 j5)), (0, rv E (some o)), (1, .int a_1), (2, .int a_2)]) hx hb dNX12_matter_18 rfl hl (by decide) rfl (fun ls hl => ?_)
  refine hl_aload_n hx hb dNX12_matter_19 rfl (lv_at hl 1 rfl) ?_
  refine g12_5 hx hb hts hown hKs hH rfl ho m2_214 dNX12_matter_20 ?_
  refine gn10_5 hx hb hts hown hKs hH ha2.1 ha2.2 m2_127 dNX12_matter_23 ?_
  refine lv_iload_n hx hb dNX12_matter_26 rfl (lv_at hl 2 rfl) ?_
  obtain ⟨a6, ha6, hf⟩ := bnd hf
  replace ha6 := cha_some ha6
  obtain ⟨j7, hj7, hf⟩ := bnd hf
  refine hw_aald27 hx hb hKs hH ha6.1 ha6.2 hj7 dNX12_matter_27 ?_
  refine hl_astore (i := 4) (lv' := [(4, rv E (aR q1 a6.1 j7)), (3, rv E (aR q1 a4.1 j5)), (0, rv E (some o)), (1, .int a_1), (2, .int a_2)]) hx hb dNX12_matter_28 hl (by decide) (by simp [List.filter_cons, cat_q, cat_i, cat_j, imax, imin]) (fun ls hl => ?_)
  refine lv_iload_n hx hb dNX12_matter_30 rfl (lv_at hl 4 rfl) ?_
  by_cases c8 : (a_2 < 0 ∨ 9 < a_2)
  · replace hf := (if_pos c8).symm.trans hf
    refine hl_tabOut (tgt := 155) hx hb dNX12_matter_31 c8 (by decide) (by decide) (by decide) ?_
    cases hf
  replace hf := (if_neg c8).symm.trans hf
  by_cases c9 : a_2 = 0
  · replace hf := (if_pos c9).symm.trans hf
    refine hl_tabIn (tgt := 84) hx hb dNX12_matter_31 c9 (by decide) (by decide) rfl (by decide) ?_
    refine hl_aload_n hx hb dNX12_matter_84 rfl (lv_at hl 1 rfl) ?_
    obtain ⟨a10, ha10, hf⟩ := bnd hf
    replace ha10 := chk_some ha10
    refine gn3_0 hx hb hts hown hKs hH ha10.1 ha10.2 m1_94 dNX12_matter_85 ?_
    exact hw_iret hx hb hret hf hH hlocks dNX12_matter_88
  replace hf := (if_neg c9).symm.trans hf
  by_cases c11 : a_2 = 1
  · replace hf := (if_pos c11).symm.trans hf
    refine hl_tabIn (tgt := 89) hx hb dNX12_matter_31 c11 (by decide) (by decide) rfl (by decide) ?_
    refine hl_aload_n hx hb dNX12_matter_89 rfl (lv_at hl 1 rfl) ?_
    obtain ⟨a12, ha12, hf⟩ := bnd hf
    replace ha12 := chk_some ha12
    refine gn3_1 hx hb hts hown hKs hH ha12.1 ha12.2 m1_99 dNX12_matter_90 ?_
    exact hw_iret hx hb hret hf hH hlocks dNX12_matter_93
  replace hf := (if_neg c11).symm.trans hf
  by_cases c13 : a_2 = 2
  · replace hf := (if_pos c13).symm.trans hf
    refine hl_tabIn (tgt := 94) hx hb dNX12_matter_31 c13 (by decide) (by decide) rfl (by decide) ?_
    refine hl_aload_n hx hb dNX12_matter_94 rfl (lv_at hl 1 rfl) ?_
    obtain ⟨a14, ha14, hf⟩ := bnd hf
    replace ha14 := chk_some ha14
    refine gn3_2 hx hb hts hown hKs hH ha14.1 ha14.2 m1_103 dNX12_matter_95 ?_
    exact hw_iret hx hb hret hf hH hlocks dNX12_matter_98
  replace hf := (if_neg c13).symm.trans hf
  by_cases c15 : a_2 = 3
  · replace hf := (if_pos c15).symm.trans hf
    refine hl_tabIn (tgt := 99) hx hb dNX12_matter_31 c15 (by decide) (by decide) rfl (by decide) ?_
    refine hl_aload hx hb dNX12_matter_99 (lv_at hl 0 rfl) ?_
    obtain ⟨a16, ha16, hf⟩ := bnd hf
    replace ha16 := chk_some ha16
    refine gn7_1 hx hb hts hown hKs hH ha16.1 ha16.2 m2_68 dNX12_matter_101 ?_
    exact hw_iret hx hb hret hf hH hlocks dNX12_matter_104
  replace hf := (if_neg c15).symm.trans hf
  by_cases c17 : a_2 = 4
  · replace hf := (if_pos c17).symm.trans hf
    refine hl_tabIn (tgt := 105) hx hb dNX12_matter_31 c17 (by decide) (by decide) rfl (by decide) ?_
    refine hl_aload_n hx hb dNX12_matter_105 rfl (lv_at hl 2 rfl) ?_
    refine g12_5 hx hb hts hown hKs hH rfl ho m2_214 dNX12_matter_106 ?_
    refine lv_iload_n hx hb dNX12_matter_109 rfl (lv_at hl 3 rfl) ?_
    obtain ⟨q18, hq18, hf⟩ := bnd hf
    refine hcV_i hx hb hml hown hts hKs hT hb0 hH (As := [.int a_1]) (rest := []) (k_X10_limitDay l E K H.size a2 a_1 q1 ha2.2 hq18) (gV m6_148 m3_145 m3_146 m1_12 m3_147) hd_X10_limitDay ⟨Nat.le_of_ble_eq_true rfl, Nat.le_of_ble_eq_true rfl, rfl, rfl⟩ ha2.1 ha2.2 rfl rfl rfl hl.1 rfl rc0 rfl dNX12_matter_110 ⟨Nat.zero_le _, Nat.zero_le _⟩ (fun H locs hH => ?_)
    exact hw_iret hx hb hret hf hH hlocks dNX12_matter_113
  replace hf := (if_neg c17).symm.trans hf
  by_cases c19 : a_2 = 5
  · replace hf := (if_pos c19).symm.trans hf
    refine hl_tabIn (tgt := 114) hx hb dNX12_matter_31 c19 (by decide) (by decide) rfl (by decide) ?_
    refine hl_aload hx hb dNX12_matter_114 (lv_at hl 0 rfl) ?_
    obtain ⟨a20, ha20, hf⟩ := bnd hf
    replace ha20 := chk_some ha20
    refine gn7_0 hx hb hts hown hKs hH ha20.1 ha20.2 m2_65 dNX12_matter_116 ?_
    exact hw_iret hx hb hret hf hH hlocks dNX12_matter_119
  replace hf := (if_neg c19).symm.trans hf
  by_cases c21 : a_2 = 6
  · replace hf := (if_pos c21).symm.trans hf
    refine hl_tabIn (tgt := 120) hx hb dNX12_matter_31 c21 (by decide) (by decide) rfl (by decide) ?_
    refine hl_aload_n hx hb dNX12_matter_120 rfl (lv_at hl 1 rfl) ?_
    obtain ⟨a22, ha22, hf⟩ := bnd hf
    replace ha22 := chk_some ha22
    refine gn3_3 hx hb hts hown hKs hH ha22.1 ha22.2 m1_107 dNX12_matter_121 ?_
    refine lv_if_eq (tgt := 131) hx hb dNX12_matter_124 (by decide) (fun c23 => ?_) (fun c23 => ?_)
    · replace hf := (if_pos c23).symm.trans hf
      refine lv_iconst (v := 0) hx hb dNX12_matter_131 (by decide) ?_
      exact hw_iret hx hb hret hf hH hlocks dNX12_matter_132
    · replace hf := (if_neg c23).symm.trans hf
      refine lv_iconst (v := 1) hx hb dNX12_matter_127 (by decide) ?_
      refine lv_goto (tgt := 132) hx hb dNX12_matter_128 (by decide) ?_
      exact hw_iret hx hb hret hf hH hlocks dNX12_matter_132
  replace hf := (if_neg c21).symm.trans hf
  by_cases c24 : a_2 = 7
  · replace hf := (if_pos c24).symm.trans hf
    refine hl_tabIn (tgt := 133) hx hb dNX12_matter_31 c24 (by decide) (by decide) rfl (by decide) ?_
    refine hl_aload hx hb dNX12_matter_133 (lv_at hl 0 rfl) ?_
    obtain ⟨a25, ha25, hf⟩ := bnd hf
    replace ha25 := chk_some ha25
    refine gn7_6 hx hb hts hown hKs hH ha25.1 ha25.2 m2_84 dNX12_matter_135 ?_
    exact hw_iret hx hb hret hf hH hlocks dNX12_matter_138
  replace hf := (if_neg c24).symm.trans hf
  by_cases c26 : a_2 = 8
  · replace hf := (if_pos c26).symm.trans hf
    refine hl_tabIn (tgt := 139) hx hb dNX12_matter_31 c26 (by decide) (by decide) rfl (by decide) ?_
    refine hl_aload_n hx hb dNX12_matter_139 rfl (lv_at hl 1 rfl) ?_
    obtain ⟨a27, ha27, hf⟩ := bnd hf
    replace ha27 := chk_some ha27
    refine gn3_4 hx hb hts hown hKs hH ha27.1 ha27.2 m1_111 dNX12_matter_140 ?_
    obtain ⟨q28, hq28, hf⟩ := bnd hf
    refine hcS_i hx hb hml hown hts hKs hT hb0 hH (As := [.int ((wI q1 304 a27))]) (rest := []) (k_J6_bitCount_0f7a4 l E K H.size (wI q1 304 a27) q1 hq28) (gS m6_186 m3_31 m1_25 m3_32) hs_J6_bitCount_0f7a4 ⟨Nat.le_of_ble_eq_true rfl, Nat.le_of_ble_eq_true rfl, rfl, rfl⟩ hl.1 rfl rc0 rfl dNX12_matter_143 ⟨Nat.zero_le _, Nat.zero_le _⟩ (fun H locs hH => ?_)
    exact hw_iret hx hb hret hf hH hlocks dNX12_matter_146
  replace hf := (if_neg c26).symm.trans hf
  by_cases c29 : a_2 = 9
  · replace hf := (if_pos c29).symm.trans hf
    refine hl_tabIn (tgt := 147) hx hb dNX12_matter_31 c29 (by decide) (by decide) rfl (by decide) ?_
    refine hl_aload_n hx hb dNX12_matter_147 rfl (lv_at hl 1 rfl) ?_
    obtain ⟨a30, ha30, hf⟩ := bnd hf
    replace ha30 := chk_some ha30
    refine gn3_5 hx hb hts hown hKs hH ha30.1 ha30.2 m1_116 dNX12_matter_148 ?_
    obtain ⟨q31, hq31, hf⟩ := bnd hf
    refine hcS_i hx hb hml hown hts hKs hT hb0 hH (As := [.int ((wI q1 305 a30))]) (rest := []) (k_J6_bitCount_0f7a4 l E K H.size (wI q1 305 a30) q1 hq31) (gS m6_186 m3_31 m1_25 m3_32) hs_J6_bitCount_0f7a4 ⟨Nat.le_of_ble_eq_true rfl, Nat.le_of_ble_eq_true rfl, rfl, rfl⟩ hl.1 rfl rc0 rfl dNX12_matter_151 ⟨Nat.zero_le _, Nat.zero_le _⟩ (fun H locs hH => ?_)
    exact hw_iret hx hb hret hf hH hlocks dNX12_matter_154
  replace hf := (if_neg c29).symm.trans hf
  cases hf

theorem dNX12_pass_0 : decode cX12_pass 0 = .ok (.aload_n 0, 1) := by decide +kernel
theorem dNX12_pass_1 : decode cX12_pass 1 = .ok (.iload_n 1, 1) := by decide +kernel
theorem dNX12_pass_2 : decode cX12_pass 2 = .ok (.invokevirtual 322, 3) := by decide +kernel
theorem dNX12_pass_5 : decode cX12_pass 5 = .ok (.aload_n 0, 1) := by decide +kernel
theorem dNX12_pass_6 : decode cX12_pass 6 = .ok (.invokevirtual 325, 3) := by decide +kernel
theorem dNX12_pass_9 : decode cX12_pass 9 = .ok (.aload_n 0, 1) := by decide +kernel
theorem dNX12_pass_10 : decode cX12_pass 10 = .ok (.getfield 35, 3) := by decide +kernel
theorem dNX12_pass_13 : decode cX12_pass 13 = .ok (.iload_n 1, 1) := by decide +kernel
theorem dNX12_pass_14 : decode cX12_pass 14 = .ok (.invokevirtual 328, 3) := by decide +kernel
theorem dNX12_pass_17 : decode cX12_pass 17 = .ok (.ireturn, 1) := by decide +kernel
theorem hd_NX12_pass : yX12_pass.cls = RX12 ∧ yX12_pass.cls ≠ "java/lang/invoke/MethodHandle" ∧ yX12_pass.cls ≠ "java/lang/invoke/VarHandle" ∧ (parseMethodDescriptor yX12_pass.desc).map (fun d => d.parameters.length) = some 1 := by decide +kernel
theorem hs_NX12_pass : yX12_pass.cls ≠ "java/lang/invoke/MethodHandle" ∧ yX12_pass.cls ≠ "java/lang/invoke/VarHandle" ∧ (parseMethodDescriptor yX12_pass.desc).map (fun d => d.parameters.length) = some 1 := by decide +kernel
set_option maxHeartbeats 4000000 in
set_option maxRecDepth 100000 in
theorem k_NX12_pass (l : Launch) (E : Ev) (K : Kd) (z : Nat) (o : Nat) (a_1 : Int32) (w : Wd) (ho : K o = some (10, 0)) {r : Int32} {w' : Wd} (hf : f_NX12_pass K o a_1 w = some (r, w')) : Met l yX12_pass (Cond.code yX12_pass cX12_pass 2 (Option.some Jvm.ClassFile.FieldType.int) :: bt) ({ frames := 4, cells := 0, slots := 0, locals := 125 } : Room) (va_Pc [rv E (some o), .int a_1] (HB E K w z)) (QI E K z w' r) 0 0 (hA E) := by
  refine Met.ofW (cc := cX12_pass) (maxL := 2) (ret := (Option.some Jvm.ClassFile.FieldType.int)) (by decide) rfl ?_
  intro p e s m args below meth c s₁ B hml hv
  obtain ⟨rfl, hz, hP, hKs, hT, hb0⟩ := hv
  have C : CX p l e s m _ meth c cX12_pass 2 RX12 (Option.some Jvm.ClassFile.FieldType.int) E := ⟨B.exec, B.bytes, hml, findClass_of_methodNamed B.named, fun w h => atoms_spec (ws := Cond.code yX12_pass cX12_pass 2 (Option.some Jvm.ClassFile.FieldType.int) :: bt) B.pre w (List.mem_cons_of_mem _ h), hKs, hT, by rw [hz]; exact hb0, B.notSynchronized, B.returns⟩
  have hH : HQ E K z w s s.heap [] := ⟨hP, va_S.rf, hz⟩
  obtain ⟨hx, hb, hml, hown, hts, hKs, hT, hb0, hlocks, hret⟩ := id C
  have hl := lv_entry [rv E (some o), .int a_1] (n := 2) (by simp [lg_len_nil, lg_len_i, lg_len_j, lg_len_q, lg_len_f, lg_len_d, lg_len_r])
  rw [lg_entry_eq]
  generalize (lg_sl [rv E (some o), .int a_1] ++ List.replicate (2 - (lg_sl [rv E (some o), .int a_1]).length) Slot.unset).toArray = ls at hl ⊢
  replace hl : lv_has ls 2 [(0, rv E (some o)), (1, .int a_1)] := by simpa only [lv_args, cat_q, cat_i, cat_j, reduceIte, Nat.reduceEqDiff, Nat.reduceAdd, Nat.zero_add] using hl
  generalize s.heap = H at hH ⊢
  unfold f_NX12_pass at hf
  refine hl_aload_n hx hb dNX12_pass_0 rfl (lv_at hl 0 rfl) ?_
  refine lv_iload_n hx hb dNX12_pass_1 rfl (lv_at hl 1 rfl) ?_
  obtain ⟨q1, hq1, hf⟩ := bnd hf
  refine hcV_v hx hb hml hown hts hKs hT hb0 hH (As := [.int a_1]) (rest := []) (k_NX12_requirePassable l E K H.size o a_1 w ho hq1) (gV m3_50 m3_52 ms_0 m1_1 m3_53) hd_NX12_requirePassable ⟨Nat.le_of_ble_eq_true rfl, Nat.le_of_ble_eq_true rfl, rfl, rfl⟩ rfl ho rfl rfl rfl hl.1 rfl rc0 rfl dNX12_pass_2 ⟨Nat.zero_le _, Nat.zero_le _⟩ (fun H locs hH => ?_)
  refine hl_aload_n hx hb dNX12_pass_5 rfl (lv_at hl 0 rfl) ?_
  obtain ⟨q2, hq2, hf⟩ := bnd hf
  refine hcV_v hx hb hml hown hts hKs hT hb0 hH (As := []) (rest := []) (k_X12_remember l E K H.size o q1 ho hq2) (gV m3_119 m3_121 ms_2 m1_1 m3_122) hd_X12_remember ⟨Nat.le_of_ble_eq_true rfl, Nat.le_of_ble_eq_true rfl, rfl, rfl⟩ rfl ho rfl rfl rfl hl.1 rfl rc0 rfl dNX12_pass_6 ⟨Nat.zero_le _, Nat.zero_le _⟩ (fun H locs hH => ?_)
  refine hl_aload_n hx hb dNX12_pass_9 rfl (lv_at hl 0 rfl) ?_
  refine g12_5 hx hb hts hown hKs hH rfl ho m2_214 dNX12_pass_10 ?_
  refine lv_iload_n hx hb dNX12_pass_13 rfl (lv_at hl 1 rfl) ?_
  obtain ⟨a3, ha3, hf⟩ := bnd hf
  replace ha3 := chk_some ha3
  obtain ⟨q4, hq4, hf⟩ := bnd hf
  refine hcV_i hx hb hml hown hts hKs hT hb0 hH (As := [.int a_1]) (rest := []) (k_X10_passDays l E K H.size a3 a_1 q2 ha3.2 hq4) (gV m3_140 m3_141 m3_142 m1_12 m3_143) hd_X10_passDays ⟨Nat.le_of_ble_eq_true rfl, Nat.le_of_ble_eq_true rfl, rfl, rfl⟩ ha3.1 ha3.2 rfl rfl rfl hl.1 rfl rc0 rfl dNX12_pass_14 ⟨Nat.zero_le _, Nat.zero_le _⟩ (fun H locs hH => ?_)
  exact hw_iret hx hb hret hf hH hlocks dNX12_pass_17

theorem dNX12_requireHearing_0 : decode cX12_requireHearing 0 = .ok (.aload_n 0, 1) := by decide +kernel
theorem dNX12_requireHearing_1 : decode cX12_requireHearing 1 = .ok (.iconst 3, 1) := by decide +kernel
theorem dNX12_requireHearing_2 : decode cX12_requireHearing 2 = .ok (.iload_n 1, 1) := by decide +kernel
theorem dNX12_requireHearing_3 : decode cX12_requireHearing 3 = .ok (.invokevirtual 175, 3) := by decide +kernel
theorem dNX12_requireHearing_6 : decode cX12_requireHearing 6 = .ok (.aload_n 0, 1) := by decide +kernel
theorem dNX12_requireHearing_7 : decode cX12_requireHearing 7 = .ok (.iconst 0, 1) := by decide +kernel
theorem dNX12_requireHearing_8 : decode cX12_requireHearing 8 = .ok (.iload 4, 2) := by decide +kernel
theorem dNX12_requireHearing_10 : decode cX12_requireHearing 10 = .ok (.invokevirtual 175, 3) := by decide +kernel
theorem dNX12_requireHearing_13 : decode cX12_requireHearing 13 = .ok (.aload_n 0, 1) := by decide +kernel
theorem dNX12_requireHearing_14 : decode cX12_requireHearing 14 = .ok (.iconst 1, 1) := by decide +kernel
theorem dNX12_requireHearing_15 : decode cX12_requireHearing 15 = .ok (.iload 5, 2) := by decide +kernel
theorem dNX12_requireHearing_17 : decode cX12_requireHearing 17 = .ok (.invokevirtual 175, 3) := by decide +kernel
theorem dNX12_requireHearing_20 : decode cX12_requireHearing 20 = .ok (.aload_n 0, 1) := by decide +kernel
theorem dNX12_requireHearing_21 : decode cX12_requireHearing 21 = .ok (.iload_n 2, 1) := by decide +kernel
theorem dNX12_requireHearing_22 : decode cX12_requireHearing 22 = .ok (.invokevirtual 154, 3) := by decide +kernel
theorem dNX12_requireHearing_25 : decode cX12_requireHearing 25 = .ok (.aload_n 0, 1) := by decide +kernel
theorem dNX12_requireHearing_26 : decode cX12_requireHearing 26 = .ok (.iload_n 3, 1) := by decide +kernel
theorem dNX12_requireHearing_27 : decode cX12_requireHearing 27 = .ok (.invokevirtual 269, 3) := by decide +kernel
theorem dNX12_requireHearing_30 : decode cX12_requireHearing 30 = .ok (.return_, 1) := by decide +kernel
theorem hd_NX12_requireHearing : yX12_requireHearing.cls = RX12 ∧ yX12_requireHearing.cls ≠ "java/lang/invoke/MethodHandle" ∧ yX12_requireHearing.cls ≠ "java/lang/invoke/VarHandle" ∧ (parseMethodDescriptor yX12_requireHearing.desc).map (fun d => d.parameters.length) = some 5 := by decide +kernel
theorem hs_NX12_requireHearing : yX12_requireHearing.cls ≠ "java/lang/invoke/MethodHandle" ∧ yX12_requireHearing.cls ≠ "java/lang/invoke/VarHandle" ∧ (parseMethodDescriptor yX12_requireHearing.desc).map (fun d => d.parameters.length) = some 5 := by decide +kernel
set_option maxHeartbeats 4000000 in
set_option maxRecDepth 100000 in
theorem k_NX12_requireHearing (l : Launch) (E : Ev) (K : Kd) (z : Nat) (o : Nat) (a_1 : Int32) (a_2 : Int32) (a_3 : Int32) (a_4 : Int32) (a_5 : Int32) (w : Wd) (ho : K o = some (10, 0)) {w' : Wd} (hf : f_NX12_requireHearing K o a_1 a_2 a_3 a_4 a_5 w = some w') : Met l yX12_requireHearing (Cond.code yX12_requireHearing cX12_requireHearing 6 (Option.none : Option Jvm.ClassFile.FieldType) :: bt) ({ frames := 2, cells := 0, slots := 0, locals := 43 } : Room) (va_Pc [rv E (some o), .int a_1, .int a_2, .int a_3, .int a_4, .int a_5] (HB E K w z)) (QV E K z w') 0 0 (hA E) := by
  refine Met.ofW (cc := cX12_requireHearing) (maxL := 6) (ret := (Option.none : Option Jvm.ClassFile.FieldType)) (by decide) rfl ?_
  intro p e s m args below meth c s₁ B hml hv
  obtain ⟨rfl, hz, hP, hKs, hT, hb0⟩ := hv
  have C : CX p l e s m _ meth c cX12_requireHearing 6 RX12 (Option.none : Option Jvm.ClassFile.FieldType) E := ⟨B.exec, B.bytes, hml, findClass_of_methodNamed B.named, fun w h => atoms_spec (ws := Cond.code yX12_requireHearing cX12_requireHearing 6 (Option.none : Option Jvm.ClassFile.FieldType) :: bt) B.pre w (List.mem_cons_of_mem _ h), hKs, hT, by rw [hz]; exact hb0, B.notSynchronized, B.returns⟩
  have hH : HQ E K z w s s.heap [] := ⟨hP, va_S.rf, hz⟩
  obtain ⟨hx, hb, hml, hown, hts, hKs, hT, hb0, hlocks, hret⟩ := id C
  have hl := lv_entry [rv E (some o), .int a_1, .int a_2, .int a_3, .int a_4, .int a_5] (n := 6) (by simp [lg_len_nil, lg_len_i, lg_len_j, lg_len_q, lg_len_f, lg_len_d, lg_len_r])
  rw [lg_entry_eq]
  generalize (lg_sl [rv E (some o), .int a_1, .int a_2, .int a_3, .int a_4, .int a_5] ++ List.replicate (6 - (lg_sl [rv E (some o), .int a_1, .int a_2, .int a_3, .int a_4, .int a_5]).length) Slot.unset).toArray = ls at hl ⊢
  replace hl : lv_has ls 6 [(0, rv E (some o)), (1, .int a_1), (2, .int a_2), (3, .int a_3), (4, .int a_4), (5, .int a_5)] := by simpa only [lv_args, cat_q, cat_i, cat_j, reduceIte, Nat.reduceEqDiff, Nat.reduceAdd, Nat.zero_add] using hl
  generalize s.heap = H at hH ⊢
  unfold f_NX12_requireHearing at hf
  refine hl_aload_n hx hb dNX12_requireHearing_0 rfl (lv_at hl 0 rfl) ?_
  refine lv_iconst (v := 3) hx hb dNX12_requireHearing_1 (by decide) ?_
  refine lv_iload_n hx hb dNX12_requireHearing_2 rfl (lv_at hl 1 rfl) ?_
  obtain ⟨q1, hq1, hf⟩ := bnd hf
  refine hcV_v hx hb hml hown hts hKs hT hb0 hH (As := [.int 3, .int a_1]) (rest := []) (k_NX12_requireExisting l E K H.size o 3 a_1 w ho hq1) (gV m6_91 m6_93 ms_29 m1_1 m6_94) hd_NX12_requireExisting ⟨Nat.le_of_ble_eq_true rfl, Nat.le_of_ble_eq_true rfl, rfl, rfl⟩ rfl ho rfl rfl rfl hl.1 rfl rc0 rfl dNX12_requireHearing_3 ⟨Nat.zero_le _, Nat.zero_le _⟩ (fun H locs hH => ?_)
  refine hl_aload_n hx hb dNX12_requireHearing_6 rfl (lv_at hl 0 rfl) ?_
  refine lv_iconst (v := 0) hx hb dNX12_requireHearing_7 (by decide) ?_
  refine lv_iload hx hb dNX12_requireHearing_8 (lv_at hl 4 rfl) ?_
  obtain ⟨q2, hq2, hf⟩ := bnd hf
  refine hcV_v hx hb hml hown hts hKs hT hb0 hH (As := [.int 0, .int a_4]) (rest := []) (k_NX12_requireExisting l E K H.size o 0 a_4 q1 ho hq2) (gV m6_91 m6_93 ms_29 m1_1 m6_94) hd_NX12_requireExisting ⟨Nat.le_of_ble_eq_true rfl, Nat.le_of_ble_eq_true rfl, rfl, rfl⟩ rfl ho rfl rfl rfl hl.1 rfl rc0 rfl dNX12_requireHearing_10 ⟨Nat.zero_le _, Nat.zero_le _⟩ (fun H locs hH => ?_)
  refine hl_aload_n hx hb dNX12_requireHearing_13 rfl (lv_at hl 0 rfl) ?_
  refine lv_iconst (v := 1) hx hb dNX12_requireHearing_14 (by decide) ?_
  refine lv_iload hx hb dNX12_requireHearing_15 (lv_at hl 5 rfl) ?_
  obtain ⟨q3, hq3, hf⟩ := bnd hf
  refine hcV_v hx hb hml hown hts hKs hT hb0 hH (As := [.int 1, .int a_5]) (rest := []) (k_NX12_requireExisting l E K H.size o 1 a_5 q2 ho hq3) (gV m6_91 m6_93 ms_29 m1_1 m6_94) hd_NX12_requireExisting ⟨Nat.le_of_ble_eq_true rfl, Nat.le_of_ble_eq_true rfl, rfl, rfl⟩ rfl ho rfl rfl rfl hl.1 rfl rc0 rfl dNX12_requireHearing_17 ⟨Nat.zero_le _, Nat.zero_le _⟩ (fun H locs hH => ?_)
  refine hl_aload_n hx hb dNX12_requireHearing_20 rfl (lv_at hl 0 rfl) ?_
  refine lv_iload_n hx hb dNX12_requireHearing_21 rfl (lv_at hl 2 rfl) ?_
  obtain ⟨q4, hq4, hf⟩ := bnd hf
  refine hcV_v hx hb hml hown hts hKs hT hb0 hH (As := [.int a_2]) (rest := []) (k_NX12_requireDay l E K H.size o a_2 q3 ho hq4) (gV m6_199 m6_201 ms_32 m1_1 m6_202) hd_NX12_requireDay ⟨Nat.le_of_ble_eq_true rfl, Nat.le_of_ble_eq_true rfl, rfl, rfl⟩ rfl ho rfl rfl rfl hl.1 rfl rc0 rfl dNX12_requireHearing_22 ⟨Nat.zero_le _, Nat.zero_le _⟩ (fun H locs hH => ?_)
  refine hl_aload_n hx hb dNX12_requireHearing_25 rfl (lv_at hl 0 rfl) ?_
  refine lv_iload_n hx hb dNX12_requireHearing_26 rfl (lv_at hl 3 rfl) ?_
  obtain ⟨q5, hq5, hf⟩ := bnd hf
  refine hcV_v hx hb hml hown hts hKs hT hb0 hH (As := [.int a_3]) (rest := []) (k_NX12_requireSlot l E K H.size o a_3 q4 ho hq5) (gV m6_203 m6_205 ms_33 m1_1 m6_206) hd_NX12_requireSlot ⟨Nat.le_of_ble_eq_true rfl, Nat.le_of_ble_eq_true rfl, rfl, rfl⟩ rfl ho rfl rfl rfl hl.1 rfl rc0 rfl dNX12_requireHearing_27 ⟨Nat.zero_le _, Nat.zero_le _⟩ (fun H locs hH => ?_)
  exact hw_vret hx hb hret hf hH hlocks dNX12_requireHearing_30

theorem dX12_count_0 : decode cX12_count 0 = .ok (.iload_n 1, 1) := by decide +kernel
theorem dX12_count_1 : decode cX12_count 1 = .ok (.tableswitch 209 0 13 #[71, 83, 95, 107, 119, 130, 138, 149, 157, 168, 173, 182, 191, 200], 71) := by decide +kernel
theorem dX12_count_72 : decode cX12_count 72 = .ok (.aload_n 0, 1) := by decide +kernel
theorem dX12_count_73 : decode cX12_count 73 = .ok (.getfield 35, 3) := by decide +kernel
theorem dX12_count_76 : decode cX12_count 76 = .ok (.getfield 87, 3) := by decide +kernel
theorem dX12_count_79 : decode cX12_count 79 = .ok (.iconst 0, 1) := by decide +kernel
theorem dX12_count_80 : decode cX12_count 80 = .ok (.invokevirtual 105, 3) := by decide +kernel
theorem dX12_count_83 : decode cX12_count 83 = .ok (.ireturn, 1) := by decide +kernel
theorem dX12_count_84 : decode cX12_count 84 = .ok (.aload_n 0, 1) := by decide +kernel
theorem dX12_count_85 : decode cX12_count 85 = .ok (.getfield 35, 3) := by decide +kernel
theorem dX12_count_88 : decode cX12_count 88 = .ok (.getfield 87, 3) := by decide +kernel
theorem dX12_count_91 : decode cX12_count 91 = .ok (.iconst 1, 1) := by decide +kernel
theorem dX12_count_92 : decode cX12_count 92 = .ok (.invokevirtual 105, 3) := by decide +kernel
theorem dX12_count_95 : decode cX12_count 95 = .ok (.ireturn, 1) := by decide +kernel
theorem dX12_count_96 : decode cX12_count 96 = .ok (.aload_n 0, 1) := by decide +kernel
theorem dX12_count_97 : decode cX12_count 97 = .ok (.getfield 35, 3) := by decide +kernel
theorem dX12_count_100 : decode cX12_count 100 = .ok (.getfield 87, 3) := by decide +kernel
theorem dX12_count_103 : decode cX12_count 103 = .ok (.iconst 2, 1) := by decide +kernel
theorem dX12_count_104 : decode cX12_count 104 = .ok (.invokevirtual 105, 3) := by decide +kernel
theorem dX12_count_107 : decode cX12_count 107 = .ok (.ireturn, 1) := by decide +kernel
theorem dX12_count_108 : decode cX12_count 108 = .ok (.aload_n 0, 1) := by decide +kernel
theorem dX12_count_109 : decode cX12_count 109 = .ok (.getfield 35, 3) := by decide +kernel
theorem dX12_count_112 : decode cX12_count 112 = .ok (.getfield 87, 3) := by decide +kernel
theorem dX12_count_115 : decode cX12_count 115 = .ok (.iconst 3, 1) := by decide +kernel
theorem dX12_count_116 : decode cX12_count 116 = .ok (.invokevirtual 105, 3) := by decide +kernel
theorem dX12_count_119 : decode cX12_count 119 = .ok (.ireturn, 1) := by decide +kernel
theorem dX12_count_120 : decode cX12_count 120 = .ok (.aload_n 0, 1) := by decide +kernel
theorem dX12_count_121 : decode cX12_count 121 = .ok (.getfield 35, 3) := by decide +kernel
theorem dX12_count_124 : decode cX12_count 124 = .ok (.getfield 109, 3) := by decide +kernel
theorem dX12_count_127 : decode cX12_count 127 = .ok (.getfield 113, 3) := by decide +kernel
theorem dX12_count_130 : decode cX12_count 130 = .ok (.ireturn, 1) := by decide +kernel
theorem dX12_count_131 : decode cX12_count 131 = .ok (.aload_n 0, 1) := by decide +kernel
theorem dX12_count_132 : decode cX12_count 132 = .ok (.getfield 35, 3) := by decide +kernel
theorem dX12_count_135 : decode cX12_count 135 = .ok (.invokevirtual 117, 3) := by decide +kernel
theorem dX12_count_138 : decode cX12_count 138 = .ok (.ireturn, 1) := by decide +kernel
theorem dX12_count_139 : decode cX12_count 139 = .ok (.aload_n 0, 1) := by decide +kernel
theorem dX12_count_140 : decode cX12_count 140 = .ok (.getfield 35, 3) := by decide +kernel
theorem dX12_count_143 : decode cX12_count 143 = .ok (.getfield 87, 3) := by decide +kernel
theorem dX12_count_146 : decode cX12_count 146 = .ok (.invokevirtual 121, 3) := by decide +kernel
theorem dX12_count_149 : decode cX12_count 149 = .ok (.ireturn, 1) := by decide +kernel
theorem dX12_count_150 : decode cX12_count 150 = .ok (.aload_n 0, 1) := by decide +kernel
theorem dX12_count_151 : decode cX12_count 151 = .ok (.getfield 35, 3) := by decide +kernel
theorem dX12_count_154 : decode cX12_count 154 = .ok (.getfield 124, 3) := by decide +kernel
theorem dX12_count_157 : decode cX12_count 157 = .ok (.ireturn, 1) := by decide +kernel
theorem dX12_count_158 : decode cX12_count 158 = .ok (.aload_n 0, 1) := by decide +kernel
theorem dX12_count_159 : decode cX12_count 159 = .ok (.getfield 35, 3) := by decide +kernel
theorem dX12_count_162 : decode cX12_count 162 = .ok (.getfield 87, 3) := by decide +kernel
theorem dX12_count_165 : decode cX12_count 165 = .ok (.getfield 127, 3) := by decide +kernel
theorem dX12_count_168 : decode cX12_count 168 = .ok (.ireturn, 1) := by decide +kernel
theorem dX12_count_169 : decode cX12_count 169 = .ok (.aload_n 0, 1) := by decide +kernel
theorem dX12_count_170 : decode cX12_count 170 = .ok (.getfield 102, 3) := by decide +kernel
theorem dX12_count_173 : decode cX12_count 173 = .ok (.ireturn, 1) := by decide +kernel
theorem dX12_count_174 : decode cX12_count 174 = .ok (.aload_n 0, 1) := by decide +kernel
theorem dX12_count_175 : decode cX12_count 175 = .ok (.getfield 35, 3) := by decide +kernel
theorem dX12_count_178 : decode cX12_count 178 = .ok (.iconst 0, 1) := by decide +kernel
theorem dX12_count_179 : decode cX12_count 179 = .ok (.invokevirtual 130, 3) := by decide +kernel
theorem dX12_count_182 : decode cX12_count 182 = .ok (.ireturn, 1) := by decide +kernel
theorem dX12_count_183 : decode cX12_count 183 = .ok (.aload_n 0, 1) := by decide +kernel
theorem dX12_count_184 : decode cX12_count 184 = .ok (.getfield 35, 3) := by decide +kernel
theorem dX12_count_187 : decode cX12_count 187 = .ok (.iconst 1, 1) := by decide +kernel
theorem dX12_count_188 : decode cX12_count 188 = .ok (.invokevirtual 130, 3) := by decide +kernel
theorem dX12_count_191 : decode cX12_count 191 = .ok (.ireturn, 1) := by decide +kernel
theorem dX12_count_192 : decode cX12_count 192 = .ok (.aload_n 0, 1) := by decide +kernel
theorem dX12_count_193 : decode cX12_count 193 = .ok (.getfield 35, 3) := by decide +kernel
theorem dX12_count_196 : decode cX12_count 196 = .ok (.iconst 2, 1) := by decide +kernel
theorem dX12_count_197 : decode cX12_count 197 = .ok (.invokevirtual 130, 3) := by decide +kernel
theorem dX12_count_200 : decode cX12_count 200 = .ok (.ireturn, 1) := by decide +kernel
theorem dX12_count_201 : decode cX12_count 201 = .ok (.aload_n 0, 1) := by decide +kernel
theorem dX12_count_202 : decode cX12_count 202 = .ok (.getfield 35, 3) := by decide +kernel
theorem dX12_count_205 : decode cX12_count 205 = .ok (.iconst 3, 1) := by decide +kernel
theorem dX12_count_206 : decode cX12_count 206 = .ok (.invokevirtual 130, 3) := by decide +kernel
theorem dX12_count_209 : decode cX12_count 209 = .ok (.ireturn, 1) := by decide +kernel
theorem dX12_count_210 : decode cX12_count 210 = .ok (.iconst (-1), 1) := by decide +kernel
theorem dX12_count_211 : decode cX12_count 211 = .ok (.ireturn, 1) := by decide +kernel
theorem hd_X12_count : yX12_count.cls = RX12 ∧ yX12_count.cls ≠ "java/lang/invoke/MethodHandle" ∧ yX12_count.cls ≠ "java/lang/invoke/VarHandle" ∧ (parseMethodDescriptor yX12_count.desc).map (fun d => d.parameters.length) = some 1 := by decide +kernel
theorem hs_X12_count : yX12_count.cls ≠ "java/lang/invoke/MethodHandle" ∧ yX12_count.cls ≠ "java/lang/invoke/VarHandle" ∧ (parseMethodDescriptor yX12_count.desc).map (fun d => d.parameters.length) = some 1 := by decide +kernel
set_option maxHeartbeats 4000000 in
set_option maxRecDepth 100000 in
theorem k_X12_count (l : Launch) (E : Ev) (K : Kd) (z : Nat) (o : Nat) (a_1 : Int32) (w : Wd) (ho : K o = some (10, 0)) {r : Int32} {w' : Wd} (hf : f_X12_count K o a_1 w = some (r, w')) : Met l yX12_count (Cond.code yX12_count cX12_count 2 (Option.some Jvm.ClassFile.FieldType.int) :: bt) ({ frames := 2, cells := 0, slots := 0, locals := 44 } : Room) (va_Pc [rv E (some o), .int a_1] (HB E K w z)) (QI E K z w' r) 0 0 (hA E) := by
  refine Met.ofW (cc := cX12_count) (maxL := 2) (ret := (Option.some Jvm.ClassFile.FieldType.int)) (by decide) rfl ?_
  intro p e s m args below meth c s₁ B hml hv
  obtain ⟨rfl, hz, hP, hKs, hT, hb0⟩ := hv
  have C : CX p l e s m _ meth c cX12_count 2 RX12 (Option.some Jvm.ClassFile.FieldType.int) E := ⟨B.exec, B.bytes, hml, findClass_of_methodNamed B.named, fun w h => atoms_spec (ws := Cond.code yX12_count cX12_count 2 (Option.some Jvm.ClassFile.FieldType.int) :: bt) B.pre w (List.mem_cons_of_mem _ h), hKs, hT, by rw [hz]; exact hb0, B.notSynchronized, B.returns⟩
  have hH : HQ E K z w s s.heap [] := ⟨hP, va_S.rf, hz⟩
  obtain ⟨hx, hb, hml, hown, hts, hKs, hT, hb0, hlocks, hret⟩ := id C
  have hl := lv_entry [rv E (some o), .int a_1] (n := 2) (by simp [lg_len_nil, lg_len_i, lg_len_j, lg_len_q, lg_len_f, lg_len_d, lg_len_r])
  rw [lg_entry_eq]
  generalize (lg_sl [rv E (some o), .int a_1] ++ List.replicate (2 - (lg_sl [rv E (some o), .int a_1]).length) Slot.unset).toArray = ls at hl ⊢
  replace hl : lv_has ls 2 [(0, rv E (some o)), (1, .int a_1)] := by simpa only [lv_args, cat_q, cat_i, cat_j, reduceIte, Nat.reduceEqDiff, Nat.reduceAdd, Nat.zero_add] using hl
  generalize s.heap = H at hH ⊢
  unfold f_X12_count at hf
  refine lv_iload_n hx hb dX12_count_0 rfl (lv_at hl 1 rfl) ?_
  by_cases c1 : (a_1 < 0 ∨ 13 < a_1)
  · replace hf := (if_pos c1).symm.trans hf
    refine hl_tabOut (tgt := 210) hx hb dX12_count_1 c1 (by decide) (by decide) (by decide) ?_
    refine lv_iconst (v := (-1)) hx hb dX12_count_210 (by decide) ?_
    exact hw_iret hx hb hret hf hH hlocks dX12_count_211
  replace hf := (if_neg c1).symm.trans hf
  by_cases c2 : a_1 = 0
  · replace hf := (if_pos c2).symm.trans hf
    refine hl_tabIn (tgt := 72) hx hb dX12_count_1 c2 (by decide) (by decide) rfl (by decide) ?_
    refine hl_aload_n hx hb dX12_count_72 rfl (lv_at hl 0 rfl) ?_
    refine g12_5 hx hb hts hown hKs hH rfl ho m2_214 dX12_count_73 ?_
    obtain ⟨a3, ha3, hf⟩ := bnd hf
    replace ha3 := chk_some ha3
    refine gn10_0 hx hb hts hown hKs hH ha3.1 ha3.2 m2_115 dX12_count_76 ?_
    refine lv_iconst (v := 0) hx hb dX12_count_79 (by decide) ?_
    obtain ⟨a4, ha4, hf⟩ := bnd hf
    replace ha4 := chk_some ha4
    obtain ⟨q5, hq5, hf⟩ := bnd hf
    refine hcV_i hx hb hml hown hts hKs hT hb0 hH (As := [.int 0]) (rest := []) (k_X9_size l E K H.size a4 0 w ha4.2 hq5) (gV m3_21 m3_22 m3_23 m1_2 m3_24) hd_X9_size ⟨Nat.le_of_ble_eq_true rfl, Nat.le_of_ble_eq_true rfl, rfl, rfl⟩ ha4.1 ha4.2 rfl rfl rfl hl.1 rfl rc0 rfl dX12_count_80 ⟨Nat.zero_le _, Nat.zero_le _⟩ (fun H locs hH => ?_)
    exact hw_iret hx hb hret hf hH hlocks dX12_count_83
  replace hf := (if_neg c2).symm.trans hf
  by_cases c6 : a_1 = 1
  · replace hf := (if_pos c6).symm.trans hf
    refine hl_tabIn (tgt := 84) hx hb dX12_count_1 c6 (by decide) (by decide) rfl (by decide) ?_
    refine hl_aload_n hx hb dX12_count_84 rfl (lv_at hl 0 rfl) ?_
    refine g12_5 hx hb hts hown hKs hH rfl ho m2_214 dX12_count_85 ?_
    obtain ⟨a7, ha7, hf⟩ := bnd hf
    replace ha7 := chk_some ha7
    refine gn10_0 hx hb hts hown hKs hH ha7.1 ha7.2 m2_115 dX12_count_88 ?_
    refine lv_iconst (v := 1) hx hb dX12_count_91 (by decide) ?_
    obtain ⟨a8, ha8, hf⟩ := bnd hf
    replace ha8 := chk_some ha8
    obtain ⟨q9, hq9, hf⟩ := bnd hf
    refine hcV_i hx hb hml hown hts hKs hT hb0 hH (As := [.int 1]) (rest := []) (k_X9_size l E K H.size a8 1 w ha8.2 hq9) (gV m3_21 m3_22 m3_23 m1_2 m3_24) hd_X9_size ⟨Nat.le_of_ble_eq_true rfl, Nat.le_of_ble_eq_true rfl, rfl, rfl⟩ ha8.1 ha8.2 rfl rfl rfl hl.1 rfl rc0 rfl dX12_count_92 ⟨Nat.zero_le _, Nat.zero_le _⟩ (fun H locs hH => ?_)
    exact hw_iret hx hb hret hf hH hlocks dX12_count_95
  replace hf := (if_neg c6).symm.trans hf
  by_cases c10 : a_1 = 2
  · replace hf := (if_pos c10).symm.trans hf
    refine hl_tabIn (tgt := 96) hx hb dX12_count_1 c10 (by decide) (by decide) rfl (by decide) ?_
    refine hl_aload_n hx hb dX12_count_96 rfl (lv_at hl 0 rfl) ?_
    refine g12_5 hx hb hts hown hKs hH rfl ho m2_214 dX12_count_97 ?_
    obtain ⟨a11, ha11, hf⟩ := bnd hf
    replace ha11 := chk_some ha11
    refine gn10_0 hx hb hts hown hKs hH ha11.1 ha11.2 m2_115 dX12_count_100 ?_
    refine lv_iconst (v := 2) hx hb dX12_count_103 (by decide) ?_
    obtain ⟨a12, ha12, hf⟩ := bnd hf
    replace ha12 := chk_some ha12
    obtain ⟨q13, hq13, hf⟩ := bnd hf
    refine hcV_i hx hb hml hown hts hKs hT hb0 hH (As := [.int 2]) (rest := []) (k_X9_size l E K H.size a12 2 w ha12.2 hq13) (gV m3_21 m3_22 m3_23 m1_2 m3_24) hd_X9_size ⟨Nat.le_of_ble_eq_true rfl, Nat.le_of_ble_eq_true rfl, rfl, rfl⟩ ha12.1 ha12.2 rfl rfl rfl hl.1 rfl rc0 rfl dX12_count_104 ⟨Nat.zero_le _, Nat.zero_le _⟩ (fun H locs hH => ?_)
    exact hw_iret hx hb hret hf hH hlocks dX12_count_107
  replace hf := (if_neg c10).symm.trans hf
  by_cases c14 : a_1 = 3
  · replace hf := (if_pos c14).symm.trans hf
    refine hl_tabIn (tgt := 108) hx hb dX12_count_1 c14 (by decide) (by decide) rfl (by decide) ?_
    refine hl_aload_n hx hb dX12_count_108 rfl (lv_at hl 0 rfl) ?_
    refine g12_5 hx hb hts hown hKs hH rfl ho m2_214 dX12_count_109 ?_
    obtain ⟨a15, ha15, hf⟩ := bnd hf
    replace ha15 := chk_some ha15
    refine gn10_0 hx hb hts hown hKs hH ha15.1 ha15.2 m2_115 dX12_count_112 ?_
    refine lv_iconst (v := 3) hx hb dX12_count_115 (by decide) ?_
    obtain ⟨a16, ha16, hf⟩ := bnd hf
    replace ha16 := chk_some ha16
    obtain ⟨q17, hq17, hf⟩ := bnd hf
    refine hcV_i hx hb hml hown hts hKs hT hb0 hH (As := [.int 3]) (rest := []) (k_X9_size l E K H.size a16 3 w ha16.2 hq17) (gV m3_21 m3_22 m3_23 m1_2 m3_24) hd_X9_size ⟨Nat.le_of_ble_eq_true rfl, Nat.le_of_ble_eq_true rfl, rfl, rfl⟩ ha16.1 ha16.2 rfl rfl rfl hl.1 rfl rc0 rfl dX12_count_116 ⟨Nat.zero_le _, Nat.zero_le _⟩ (fun H locs hH => ?_)
    exact hw_iret hx hb hret hf hH hlocks dX12_count_119
  replace hf := (if_neg c14).symm.trans hf
  by_cases c18 : a_1 = 4
  · replace hf := (if_pos c18).symm.trans hf
    refine hl_tabIn (tgt := 120) hx hb dX12_count_1 c18 (by decide) (by decide) rfl (by decide) ?_
    refine hl_aload_n hx hb dX12_count_120 rfl (lv_at hl 0 rfl) ?_
    refine g12_5 hx hb hts hown hKs hH rfl ho m2_214 dX12_count_121 ?_
    obtain ⟨a19, ha19, hf⟩ := bnd hf
    replace ha19 := chk_some ha19
    refine gn10_2 hx hb hts hown hKs hH ha19.1 ha19.2 m2_120 dX12_count_124 ?_
    obtain ⟨a20, ha20, hf⟩ := bnd hf
    replace ha20 := chk_some ha20
    refine gn2_1 hx hb hts hown hKs hH ha20.1 ha20.2 m1_61 dX12_count_127 ?_
    exact hw_iret hx hb hret hf hH hlocks dX12_count_130
  replace hf := (if_neg c18).symm.trans hf
  by_cases c21 : a_1 = 5
  · replace hf := (if_pos c21).symm.trans hf
    refine hl_tabIn (tgt := 131) hx hb dX12_count_1 c21 (by decide) (by decide) rfl (by decide) ?_
    refine hl_aload_n hx hb dX12_count_131 rfl (lv_at hl 0 rfl) ?_
    refine g12_5 hx hb hts hown hKs hH rfl ho m2_214 dX12_count_132 ?_
    obtain ⟨a22, ha22, hf⟩ := bnd hf
    replace ha22 := chk_some ha22
    obtain ⟨q23, hq23, hf⟩ := bnd hf
    refine hcV_i hx hb hml hown hts hKs hT hb0 hH (As := []) (rest := []) (k_X10_countBars l E K H.size a22 w ha22.2 hq23) (gV m3_25 m3_26 m3_27 m1_12 m3_28) hd_X10_countBars ⟨Nat.le_of_ble_eq_true rfl, Nat.le_of_ble_eq_true rfl, rfl, rfl⟩ ha22.1 ha22.2 rfl rfl rfl hl.1 rfl rc0 rfl dX12_count_135 ⟨Nat.zero_le _, Nat.zero_le _⟩ (fun H locs hH => ?_)
    exact hw_iret hx hb hret hf hH hlocks dX12_count_138
  replace hf := (if_neg c21).symm.trans hf
  by_cases c24 : a_1 = 6
  · replace hf := (if_pos c24).symm.trans hf
    refine hl_tabIn (tgt := 139) hx hb dX12_count_1 c24 (by decide) (by decide) rfl (by decide) ?_
    refine hl_aload_n hx hb dX12_count_139 rfl (lv_at hl 0 rfl) ?_
    refine g12_5 hx hb hts hown hKs hH rfl ho m2_214 dX12_count_140 ?_
    obtain ⟨a25, ha25, hf⟩ := bnd hf
    replace ha25 := chk_some ha25
    refine gn10_0 hx hb hts hown hKs hH ha25.1 ha25.2 m2_115 dX12_count_143 ?_
    obtain ⟨a26, ha26, hf⟩ := bnd hf
    replace ha26 := chk_some ha26
    obtain ⟨q27, hq27, hf⟩ := bnd hf
    refine hcV_i hx hb hml hown hts hKs hT hb0 hH (As := []) (rest := []) (k_X9_countConflicts l E K H.size a26 w ha26.2 hq27) (gV m3_36 m3_37 m3_38 m1_2 m3_39) hd_X9_countConflicts ⟨Nat.le_of_ble_eq_true rfl, Nat.le_of_ble_eq_true rfl, rfl, rfl⟩ ha26.1 ha26.2 rfl rfl rfl hl.1 rfl rc0 rfl dX12_count_146 ⟨Nat.zero_le _, Nat.zero_le _⟩ (fun H locs hH => ?_)
    exact hw_iret hx hb hret hf hH hlocks dX12_count_149
  replace hf := (if_neg c24).symm.trans hf
  by_cases c28 : a_1 = 7
  · replace hf := (if_pos c28).symm.trans hf
    refine hl_tabIn (tgt := 150) hx hb dX12_count_1 c28 (by decide) (by decide) rfl (by decide) ?_
    refine hl_aload_n hx hb dX12_count_150 rfl (lv_at hl 0 rfl) ?_
    refine g12_5 hx hb hts hown hKs hH rfl ho m2_214 dX12_count_151 ?_
    obtain ⟨a29, ha29, hf⟩ := bnd hf
    replace ha29 := chk_some ha29
    refine gn10_1 hx hb hts hown hKs hH ha29.1 ha29.2 m2_118 dX12_count_154 ?_
    exact hw_iret hx hb hret hf hH hlocks dX12_count_157
  replace hf := (if_neg c28).symm.trans hf
  by_cases c30 : a_1 = 8
  · replace hf := (if_pos c30).symm.trans hf
    refine hl_tabIn (tgt := 158) hx hb dX12_count_1 c30 (by decide) (by decide) rfl (by decide) ?_
    refine hl_aload_n hx hb dX12_count_158 rfl (lv_at hl 0 rfl) ?_
    refine g12_5 hx hb hts hown hKs hH rfl ho m2_214 dX12_count_159 ?_
    obtain ⟨a31, ha31, hf⟩ := bnd hf
    replace ha31 := chk_some ha31
    refine gn10_0 hx hb hts hown hKs hH ha31.1 ha31.2 m2_115 dX12_count_162 ?_
    obtain ⟨a32, ha32, hf⟩ := bnd hf
    replace ha32 := chk_some ha32
    refine gn9_13 hx hb hts hown hKs hH ha32.1 ha32.2 m1_185 dX12_count_165 ?_
    exact hw_iret hx hb hret hf hH hlocks dX12_count_168
  replace hf := (if_neg c30).symm.trans hf
  by_cases c33 : a_1 = 9
  · replace hf := (if_pos c33).symm.trans hf
    refine hl_tabIn (tgt := 169) hx hb dX12_count_1 c33 (by decide) (by decide) rfl (by decide) ?_
    refine hl_aload_n hx hb dX12_count_169 rfl (lv_at hl 0 rfl) ?_
    refine g12_10 hx hb hts hown hKs hH rfl ho m2_219 dX12_count_170 ?_
    exact hw_iret hx hb hret hf hH hlocks dX12_count_173
  replace hf := (if_neg c33).symm.trans hf
  by_cases c34 : a_1 = 10
  · replace hf := (if_pos c34).symm.trans hf
    refine hl_tabIn (tgt := 174) hx hb dX12_count_1 c34 (by decide) (by decide) rfl (by decide) ?_
    refine hl_aload_n hx hb dX12_count_174 rfl (lv_at hl 0 rfl) ?_
    refine g12_5 hx hb hts hown hKs hH rfl ho m2_214 dX12_count_175 ?_
    refine lv_iconst (v := 0) hx hb dX12_count_178 (by decide) ?_
    obtain ⟨a35, ha35, hf⟩ := bnd hf
    replace ha35 := chk_some ha35
    obtain ⟨q36, hq36, hf⟩ := bnd hf
    refine hcV_i hx hb hml hown hts hKs hT hb0 hH (As := [.int 0]) (rest := []) (k_X10_countPhase l E K H.size a35 0 w ha35.2 hq36) (gV m3_42 m3_43 m3_44 m1_12 m3_45) hd_X10_countPhase ⟨Nat.le_of_ble_eq_true rfl, Nat.le_of_ble_eq_true rfl, rfl, rfl⟩ ha35.1 ha35.2 rfl rfl rfl hl.1 rfl rc0 rfl dX12_count_179 ⟨Nat.zero_le _, Nat.zero_le _⟩ (fun H locs hH => ?_)
    exact hw_iret hx hb hret hf hH hlocks dX12_count_182
  replace hf := (if_neg c34).symm.trans hf
  by_cases c37 : a_1 = 11
  · replace hf := (if_pos c37).symm.trans hf
    refine hl_tabIn (tgt := 183) hx hb dX12_count_1 c37 (by decide) (by decide) rfl (by decide) ?_
    refine hl_aload_n hx hb dX12_count_183 rfl (lv_at hl 0 rfl) ?_
    refine g12_5 hx hb hts hown hKs hH rfl ho m2_214 dX12_count_184 ?_
    refine lv_iconst (v := 1) hx hb dX12_count_187 (by decide) ?_
    obtain ⟨a38, ha38, hf⟩ := bnd hf
    replace ha38 := chk_some ha38
    obtain ⟨q39, hq39, hf⟩ := bnd hf
    refine hcV_i hx hb hml hown hts hKs hT hb0 hH (As := [.int 1]) (rest := []) (k_X10_countPhase l E K H.size a38 1 w ha38.2 hq39) (gV m3_42 m3_43 m3_44 m1_12 m3_45) hd_X10_countPhase ⟨Nat.le_of_ble_eq_true rfl, Nat.le_of_ble_eq_true rfl, rfl, rfl⟩ ha38.1 ha38.2 rfl rfl rfl hl.1 rfl rc0 rfl dX12_count_188 ⟨Nat.zero_le _, Nat.zero_le _⟩ (fun H locs hH => ?_)
    exact hw_iret hx hb hret hf hH hlocks dX12_count_191
  replace hf := (if_neg c37).symm.trans hf
  by_cases c40 : a_1 = 12
  · replace hf := (if_pos c40).symm.trans hf
    refine hl_tabIn (tgt := 192) hx hb dX12_count_1 c40 (by decide) (by decide) rfl (by decide) ?_
    refine hl_aload_n hx hb dX12_count_192 rfl (lv_at hl 0 rfl) ?_
    refine g12_5 hx hb hts hown hKs hH rfl ho m2_214 dX12_count_193 ?_
    refine lv_iconst (v := 2) hx hb dX12_count_196 (by decide) ?_
    obtain ⟨a41, ha41, hf⟩ := bnd hf
    replace ha41 := chk_some ha41
    obtain ⟨q42, hq42, hf⟩ := bnd hf
    refine hcV_i hx hb hml hown hts hKs hT hb0 hH (As := [.int 2]) (rest := []) (k_X10_countPhase l E K H.size a41 2 w ha41.2 hq42) (gV m3_42 m3_43 m3_44 m1_12 m3_45) hd_X10_countPhase ⟨Nat.le_of_ble_eq_true rfl, Nat.le_of_ble_eq_true rfl, rfl, rfl⟩ ha41.1 ha41.2 rfl rfl rfl hl.1 rfl rc0 rfl dX12_count_197 ⟨Nat.zero_le _, Nat.zero_le _⟩ (fun H locs hH => ?_)
    exact hw_iret hx hb hret hf hH hlocks dX12_count_200
  replace hf := (if_neg c40).symm.trans hf
  by_cases c43 : a_1 = 13
  · replace hf := (if_pos c43).symm.trans hf
    refine hl_tabIn (tgt := 201) hx hb dX12_count_1 c43 (by decide) (by decide) rfl (by decide) ?_
    refine hl_aload_n hx hb dX12_count_201 rfl (lv_at hl 0 rfl) ?_
    refine g12_5 hx hb hts hown hKs hH rfl ho m2_214 dX12_count_202 ?_
    refine lv_iconst (v := 3) hx hb dX12_count_205 (by decide) ?_
    obtain ⟨a44, ha44, hf⟩ := bnd hf
    replace ha44 := chk_some ha44
    obtain ⟨q45, hq45, hf⟩ := bnd hf
    refine hcV_i hx hb hml hown hts hKs hT hb0 hH (As := [.int 3]) (rest := []) (k_X10_countPhase l E K H.size a44 3 w ha44.2 hq45) (gV m3_42 m3_43 m3_44 m1_12 m3_45) hd_X10_countPhase ⟨Nat.le_of_ble_eq_true rfl, Nat.le_of_ble_eq_true rfl, rfl, rfl⟩ ha44.1 ha44.2 rfl rfl rfl hl.1 rfl rc0 rfl dX12_count_206 ⟨Nat.zero_le _, Nat.zero_le _⟩ (fun H locs hH => ?_)
    exact hw_iret hx hb hret hf hH hlocks dX12_count_209
  replace hf := (if_neg c43).symm.trans hf
  cases hf

theorem dX12_adjourn_0 : decode cX12_adjourn 0 = .ok (.aload_n 0, 1) := by decide +kernel
theorem dX12_adjourn_1 : decode cX12_adjourn 1 = .ok (.iconst 3, 1) := by decide +kernel
theorem dX12_adjourn_2 : decode cX12_adjourn 2 = .ok (.iload_n 1, 1) := by decide +kernel
theorem dX12_adjourn_3 : decode cX12_adjourn 3 = .ok (.invokevirtual 175, 3) := by decide +kernel
theorem dX12_adjourn_6 : decode cX12_adjourn 6 = .ok (.aload_n 0, 1) := by decide +kernel
theorem dX12_adjourn_7 : decode cX12_adjourn 7 = .ok (.iload_n 2, 1) := by decide +kernel
theorem dX12_adjourn_8 : decode cX12_adjourn 8 = .ok (.invokevirtual 169, 3) := by decide +kernel
theorem dX12_adjourn_11 : decode cX12_adjourn 11 = .ok (.aload_n 0, 1) := by decide +kernel
theorem dX12_adjourn_12 : decode cX12_adjourn 12 = .ok (.getfield 35, 3) := by decide +kernel
theorem dX12_adjourn_15 : decode cX12_adjourn 15 = .ok (.getfield 213, 3) := by decide +kernel
theorem dX12_adjourn_18 : decode cX12_adjourn 18 = .ok (.iload_n 1, 1) := by decide +kernel
theorem dX12_adjourn_19 : decode cX12_adjourn 19 = .ok (.aaload, 1) := by decide +kernel
theorem dX12_adjourn_20 : decode cX12_adjourn 20 = .ok (.astore_n 3, 1) := by decide +kernel
theorem dX12_adjourn_21 : decode cX12_adjourn 21 = .ok (.aload_n 3, 1) := by decide +kernel
theorem dX12_adjourn_22 : decode cX12_adjourn 22 = .ok (.getfield 236, 3) := by decide +kernel
theorem dX12_adjourn_25 : decode cX12_adjourn 25 = .ok (.iconst 1, 1) := by decide +kernel
theorem dX12_adjourn_26 : decode cX12_adjourn 26 = .ok (.if_icmp .ne 11, 3) := by decide +kernel
theorem dX12_adjourn_29 : decode cX12_adjourn 29 = .ok (.aload_n 3, 1) := by decide +kernel
theorem dX12_adjourn_30 : decode cX12_adjourn 30 = .ok (.getfield 242, 3) := by decide +kernel
theorem dX12_adjourn_33 : decode cX12_adjourn 33 = .ok (.iconst 5, 1) := by decide +kernel
theorem dX12_adjourn_34 : decode cX12_adjourn 34 = .ok (.if_icmp .lt 11, 3) := by decide +kernel
theorem dX12_adjourn_37 : decode cX12_adjourn 37 = .ok (.new 331, 3) := by decide +kernel
theorem dX12_adjourn_40 : decode cX12_adjourn 40 = .ok (.dup, 1) := by decide +kernel
theorem dX12_adjourn_41 : decode cX12_adjourn 41 = .ok (.invokespecial 333, 3) := by decide +kernel
theorem dX12_adjourn_44 : decode cX12_adjourn 44 = .ok (.athrow, 1) := by decide +kernel
theorem dX12_adjourn_45 : decode cX12_adjourn 45 = .ok (.aload_n 0, 1) := by decide +kernel
theorem dX12_adjourn_46 : decode cX12_adjourn 46 = .ok (.invokevirtual 325, 3) := by decide +kernel
theorem dX12_adjourn_49 : decode cX12_adjourn 49 = .ok (.aload_n 0, 1) := by decide +kernel
theorem dX12_adjourn_50 : decode cX12_adjourn 50 = .ok (.getfield 35, 3) := by decide +kernel
theorem dX12_adjourn_53 : decode cX12_adjourn 53 = .ok (.iload_n 1, 1) := by decide +kernel
theorem dX12_adjourn_54 : decode cX12_adjourn 54 = .ok (.iload_n 2, 1) := by decide +kernel
theorem dX12_adjourn_55 : decode cX12_adjourn 55 = .ok (.invokevirtual 345, 3) := by decide +kernel
theorem dX12_adjourn_58 : decode cX12_adjourn 58 = .ok (.aload_n 0, 1) := by decide +kernel
theorem dX12_adjourn_59 : decode cX12_adjourn 59 = .ok (.getfield 35, 3) := by decide +kernel
theorem dX12_adjourn_62 : decode cX12_adjourn 62 = .ok (.iload_n 1, 1) := by decide +kernel
theorem dX12_adjourn_63 : decode cX12_adjourn 63 = .ok (.invokevirtual 233, 3) := by decide +kernel
theorem dX12_adjourn_66 : decode cX12_adjourn 66 = .ok (.ireturn, 1) := by decide +kernel
theorem hd_X12_adjourn : yX12_adjourn.cls = RX12 ∧ yX12_adjourn.cls ≠ "java/lang/invoke/MethodHandle" ∧ yX12_adjourn.cls ≠ "java/lang/invoke/VarHandle" ∧ (parseMethodDescriptor yX12_adjourn.desc).map (fun d => d.parameters.length) = some 2 := by decide +kernel
theorem hs_X12_adjourn : yX12_adjourn.cls ≠ "java/lang/invoke/MethodHandle" ∧ yX12_adjourn.cls ≠ "java/lang/invoke/VarHandle" ∧ (parseMethodDescriptor yX12_adjourn.desc).map (fun d => d.parameters.length) = some 2 := by decide +kernel
set_option maxHeartbeats 4000000 in
set_option maxRecDepth 100000 in
theorem k_X12_adjourn (l : Launch) (hls : l.stackTraces = false) (E : Ev) (K : Kd) (z : Nat) (o : Nat) (a_1 : Int32) (a_2 : Int32) (w : Wd) (ho : K o = some (10, 0)) {r : Int32 ⊕ Nat} {w' : Wd} (hf : f_X12_adjourn K o a_1 a_2 w = some (r, w')) : vx_Met l yX12_adjourn (Cond.code yX12_adjourn cX12_adjourn 4 (Option.some Jvm.ClassFile.FieldType.int) :: bt) ({ frames := 7, cells := 3, slots := 18, locals := 125 } : Room) (va_Pc [rv E (some o), .int a_1, .int a_2] (HB E K w z)) (XI E K z w' r) (XX E K w' r) 3 18 (hA E) := by
  refine vx_ofW (cc := cX12_adjourn) (maxL := 4) (ret := (Option.some Jvm.ClassFile.FieldType.int)) (by decide) rfl ?_
  intro p e s m args below meth c s₁ B hml hout hv
  obtain ⟨rfl, hz, hP, hKs, hT, hb0⟩ := hv
  have C : CX p l e s m _ meth c cX12_adjourn 4 RX12 (Option.some Jvm.ClassFile.FieldType.int) E := ⟨B.exec, B.bytes, hml, findClass_of_methodNamed B.named, fun w h => atoms_spec (ws := Cond.code yX12_adjourn cX12_adjourn 4 (Option.some Jvm.ClassFile.FieldType.int) :: bt) B.pre w (List.mem_cons_of_mem _ h), hKs, hT, by rw [hz]; exact hb0, B.notSynchronized, B.returns⟩
  have hH : HQ E K z w s s.heap [] := ⟨hP, va_S.rf, hz⟩
  obtain ⟨hx, hb, hml, hown, hts, hKs, hT, hb0, hlocks, hret⟩ := id C
  have hl := lv_entry [rv E (some o), .int a_1, .int a_2] (n := 4) (by simp [lg_len_nil, lg_len_i, lg_len_j, lg_len_q, lg_len_f, lg_len_d, lg_len_r])
  rw [lg_entry_eq]
  generalize (lg_sl [rv E (some o), .int a_1, .int a_2] ++ List.replicate (4 - (lg_sl [rv E (some o), .int a_1, .int a_2]).length) Slot.unset).toArray = ls at hl ⊢
  replace hl : lv_has ls 4 [(0, rv E (some o)), (1, .int a_1), (2, .int a_2)] := by simpa only [lv_args, cat_q, cat_i, cat_j, reduceIte, Nat.reduceEqDiff, Nat.reduceAdd, Nat.zero_add] using hl
  generalize s.heap = H at hH ⊢
  unfold f_X12_adjourn at hf
  refine hl_aload_n hx hb dX12_adjourn_0 rfl (lv_at hl 0 rfl) ?_
  refine lv_iconst (v := 3) hx hb dX12_adjourn_1 (by decide) ?_
  refine lv_iload_n hx hb dX12_adjourn_2 rfl (lv_at hl 1 rfl) ?_
  obtain ⟨q1, hq1, hf⟩ := bnd hf
  refine hxV_v hx hb hml hown hts hKs hT hb0 hH (As := [.int 3, .int a_1]) (rest := []) (k_X12_requireExisting l hls E K H.size o 3 a_1 w ho hq1) (gV m6_91 m6_93 ms_29 m1_1 m6_94) hd_X12_requireExisting ⟨Nat.le_of_ble_eq_true rfl, Nat.le_of_ble_eq_true rfl, rfl, rfl⟩ rfl ho rfl rfl rfl hl.1 rfl rc0 rfl dX12_adjourn_3 ⟨Nat.le_of_ble_eq_true rfl, Nat.le_of_ble_eq_true rfl⟩ ⟨Nat.le_of_ble_eq_true rfl, Nat.le_of_ble_eq_true rfl⟩ hout hlocks (fun x hx9 => (fun h9 => ⟨(congrArg Prod.fst h9).symm, (congrArg Prod.snd h9).symm⟩) (Option.some.inj ((xk_inr hx9).symm.trans hf))) (fun v2 hv2 H locs hH => ?_)
  replace hf := (xk_inl hv2).symm.trans hf
  refine hl_aload_n hx hb dX12_adjourn_6 rfl (lv_at hl 0 rfl) ?_
  refine lv_iload_n hx hb dX12_adjourn_7 rfl (lv_at hl 2 rfl) ?_
  obtain ⟨q3, hq3, hf⟩ := bnd hf
  refine hxV_v hx hb hml hown hts hKs hT hb0 hH (As := [.int a_2]) (rest := []) (k_X12_requireReason l hls E K H.size o a_2 q1.2 ho hq3) (gV m6_134 m6_136 ms_30 m1_1 m6_137) hd_X12_requireReason ⟨Nat.le_of_ble_eq_true rfl, Nat.le_of_ble_eq_true rfl, rfl, rfl⟩ rfl ho rfl rfl rfl hl.1 rfl rc0 rfl dX12_adjourn_8 ⟨Nat.le_of_ble_eq_true rfl, Nat.le_of_ble_eq_true rfl⟩ ⟨Nat.le_of_ble_eq_true rfl, Nat.le_of_ble_eq_true rfl⟩ hout hlocks (fun x hx9 => (fun h9 => ⟨(congrArg Prod.fst h9).symm, (congrArg Prod.snd h9).symm⟩) (Option.some.inj ((xk_inr hx9).symm.trans hf))) (fun v4 hv4 H locs hH => ?_)
  replace hf := (xk_inl hv4).symm.trans hf
  refine hl_aload_n hx hb dX12_adjourn_11 rfl (lv_at hl 0 rfl) ?_
  refine g12_5 hx hb hts hown hKs hH rfl ho m2_214 dX12_adjourn_12 ?_
  obtain ⟨a5, ha5, hf⟩ := bnd hf
  replace ha5 := chk_some ha5
  refine gn10_5 hx hb hts hown hKs hH ha5.1 ha5.2 m2_127 dX12_adjourn_15 ?_
  refine lv_iload_n hx hb dX12_adjourn_18 rfl (lv_at hl 1 rfl) ?_
  obtain ⟨a6, ha6, hf⟩ := bnd hf
  replace ha6 := cha_some ha6
  obtain ⟨j7, hj7, hf⟩ := bnd hf
  refine hw_aald27 hx hb hKs hH ha6.1 ha6.2 hj7 dX12_adjourn_19 ?_
  refine hl_astore_n (i := 3) (lv' := [(3, rv E (aR q3.2 a6.1 j7)), (0, rv E (some o)), (1, .int a_1), (2, .int a_2)]) hx hb dX12_adjourn_20 rfl hl (by decide) rfl (fun ls hl => ?_)
  refine hl_aload_n hx hb dX12_adjourn_21 rfl (lv_at hl 0 rfl) ?_
  obtain ⟨a8, ha8, hf⟩ := bnd hf
  replace ha8 := chk_some ha8
  refine gn7_0 hx hb hts hown hKs hH ha8.1 ha8.2 m2_65 dX12_adjourn_22 ?_
  refine lv_iconst (v := 1) hx hb dX12_adjourn_25 (by decide) ?_
  refine lv_icmp_ne (tgt := 37) hx hb dX12_adjourn_26 (by decide) (fun c9 => ?_) (fun c9 => ?_)
  · replace hf := (if_neg c9).symm.trans hf
    exact hx_throw hx hb hls (code := 3) hml hl.1 hown hts hKs hT hb0 hH (by decide) rfl m4_24 m1_32 hat_RX12_333 dX12_adjourn_37 dX12_adjourn_40 dX12_adjourn_41 dX12_adjourn_44 hout (Nat.le_of_ble_eq_true rfl) rc0 (Nat.le_of_ble_eq_true rfl) (Nat.le_of_ble_eq_true rfl) (Nat.le_of_ble_eq_true rfl) hlocks hf (Nat.le_of_ble_eq_true rfl) (Nat.le_of_ble_eq_true rfl)
  · replace hf := (if_pos c9).symm.trans hf
    refine hl_aload_n hx hb dX12_adjourn_29 rfl (lv_at hl 0 rfl) ?_
    refine gn7_6 hx hb hts hown hKs hH ha8.1 ha8.2 m2_84 dX12_adjourn_30 ?_
    refine lv_iconst (v := 5) hx hb dX12_adjourn_33 (by decide) ?_
    refine lv_icmp_lt (tgt := 45) hx hb dX12_adjourn_34 (by decide) (fun c10 => ?_) (fun c10 => ?_)
    · replace hf := (if_pos c10).symm.trans hf
      refine hl_aload_n hx hb dX12_adjourn_45 rfl (lv_at hl 1 rfl) ?_
      obtain ⟨q11, hq11, hf⟩ := bnd hf
      refine hcV_v hx hb hml hown hts hKs hT hb0 hH (As := []) (rest := []) (k_X12_remember l E K H.size o q3.2 ho hq11) (gV m3_119 m3_121 ms_2 m1_1 m3_122) hd_X12_remember ⟨Nat.le_of_ble_eq_true rfl, Nat.le_of_ble_eq_true rfl, rfl, rfl⟩ rfl ho rfl rfl rfl hl.1 rfl rc0 rfl dX12_adjourn_46 ⟨Nat.le_of_ble_eq_true rfl, Nat.le_of_ble_eq_true rfl⟩ (fun H locs hH => ?_)
      refine hl_aload_n hx hb dX12_adjourn_49 rfl (lv_at hl 1 rfl) ?_
      refine g12_5 hx hb hts hown hKs hH rfl ho m2_214 dX12_adjourn_50 ?_
      refine lv_iload_n hx hb dX12_adjourn_53 rfl (lv_at hl 2 rfl) ?_
      refine lv_iload_n hx hb dX12_adjourn_54 rfl (lv_at hl 3 rfl) ?_
      obtain ⟨a12, ha12, hf⟩ := bnd hf
      replace ha12 := chk_some ha12
      obtain ⟨q13, hq13, hf⟩ := bnd hf
      refine hcV_v hx hb hml hown hts hKs hT hb0 hH (As := [.int a_1, .int a_2]) (rest := []) (k_X10_takeAway l E K H.size a12 a_1 a_2 q11 ha12.2 hq13) (gV m6_138 m6_139 m6_140 m1_12 m6_141) hd_X10_takeAway ⟨Nat.le_of_ble_eq_true rfl, Nat.le_of_ble_eq_true rfl, rfl, rfl⟩ ha12.1 ha12.2 rfl rfl rfl hl.1 rfl rc0 rfl dX12_adjourn_55 ⟨Nat.le_of_ble_eq_true rfl, Nat.le_of_ble_eq_true rfl⟩ (fun H locs hH => ?_)
      refine hl_aload_n hx hb dX12_adjourn_58 rfl (lv_at hl 1 rfl) ?_
      refine g12_5 hx hb hts hown hKs hH rfl ho m2_214 dX12_adjourn_59 ?_
      refine lv_iload_n hx hb dX12_adjourn_62 rfl (lv_at hl 2 rfl) ?_
      obtain ⟨a14, ha14, hf⟩ := bnd hf
      replace ha14 := chk_some ha14
      obtain ⟨q15, hq15, hf⟩ := bnd hf
      refine hcV_i hx hb hml hown hts hKs hT hb0 hH (As := [.int a_1]) (rest := []) (k_X10_limitDay l E K H.size a14 a_1 q13 ha14.2 hq15) (gV m6_148 m3_145 m3_146 m1_12 m3_147) hd_X10_limitDay ⟨Nat.le_of_ble_eq_true rfl, Nat.le_of_ble_eq_true rfl, rfl, rfl⟩ ha14.1 ha14.2 rfl rfl rfl hl.1 rfl rc0 rfl dX12_adjourn_63 ⟨Nat.le_of_ble_eq_true rfl, Nat.le_of_ble_eq_true rfl⟩ (fun H locs hH => ?_)
      exact hx_iret hx hb (Nat.le_of_ble_eq_true rfl) (Nat.le_of_ble_eq_true rfl) hret hf hH hlocks dX12_adjourn_66
    · replace hf := (if_neg c10).symm.trans hf
      exact hx_throw hx hb hls (code := 3) hml hl.1 hown hts hKs hT hb0 hH (by decide) rfl m4_24 m1_32 hat_RX12_333 dX12_adjourn_37 dX12_adjourn_40 dX12_adjourn_41 dX12_adjourn_44 hout (Nat.le_of_ble_eq_true rfl) rc0 (Nat.le_of_ble_eq_true rfl) (Nat.le_of_ble_eq_true rfl) (Nat.le_of_ble_eq_true rfl) hlocks hf (Nat.le_of_ble_eq_true rfl) (Nat.le_of_ble_eq_true rfl)

theorem dX12_withdraw_0 : decode cX12_withdraw 0 = .ok (.aload_n 0, 1) := by decide +kernel
theorem dX12_withdraw_1 : decode cX12_withdraw 1 = .ok (.iconst 2, 1) := by decide +kernel
theorem dX12_withdraw_2 : decode cX12_withdraw 2 = .ok (.iload_n 1, 1) := by decide +kernel
theorem dX12_withdraw_3 : decode cX12_withdraw 3 = .ok (.invokevirtual 175, 3) := by decide +kernel
theorem dX12_withdraw_6 : decode cX12_withdraw 6 = .ok (.aload_n 0, 1) := by decide +kernel
theorem dX12_withdraw_7 : decode cX12_withdraw 7 = .ok (.iload_n 2, 1) := by decide +kernel
theorem dX12_withdraw_8 : decode cX12_withdraw 8 = .ok (.invokevirtual 348, 3) := by decide +kernel
theorem dX12_withdraw_11 : decode cX12_withdraw 11 = .ok (.aload_n 0, 1) := by decide +kernel
theorem dX12_withdraw_12 : decode cX12_withdraw 12 = .ok (.invokevirtual 325, 3) := by decide +kernel
theorem dX12_withdraw_15 : decode cX12_withdraw 15 = .ok (.aload_n 0, 1) := by decide +kernel
theorem dX12_withdraw_16 : decode cX12_withdraw 16 = .ok (.getfield 35, 3) := by decide +kernel
theorem dX12_withdraw_19 : decode cX12_withdraw 19 = .ok (.getfield 181, 3) := by decide +kernel
theorem dX12_withdraw_22 : decode cX12_withdraw 22 = .ok (.iload_n 1, 1) := by decide +kernel
theorem dX12_withdraw_23 : decode cX12_withdraw 23 = .ok (.aload_n 0, 1) := by decide +kernel
theorem dX12_withdraw_24 : decode cX12_withdraw 24 = .ok (.getfield 35, 3) := by decide +kernel
theorem dX12_withdraw_27 : decode cX12_withdraw 27 = .ok (.getfield 181, 3) := by decide +kernel
theorem dX12_withdraw_30 : decode cX12_withdraw 30 = .ok (.iload_n 1, 1) := by decide +kernel
theorem dX12_withdraw_31 : decode cX12_withdraw 31 = .ok (.iaload, 1) := by decide +kernel
theorem dX12_withdraw_32 : decode cX12_withdraw 32 = .ok (.iload_n 2, 1) := by decide +kernel
theorem dX12_withdraw_33 : decode cX12_withdraw 33 = .ok (.iconst 1, 1) := by decide +kernel
theorem dX12_withdraw_34 : decode cX12_withdraw 34 = .ok (.isub, 1) := by decide +kernel
theorem dX12_withdraw_35 : decode cX12_withdraw 35 = .ok (.invokestatic 351, 3) := by decide +kernel
theorem dX12_withdraw_38 : decode cX12_withdraw 38 = .ok (.iastore, 1) := by decide +kernel
theorem dX12_withdraw_39 : decode cX12_withdraw 39 = .ok (.iconst 0, 1) := by decide +kernel
theorem dX12_withdraw_40 : decode cX12_withdraw 40 = .ok (.istore_n 3, 1) := by decide +kernel
theorem dX12_withdraw_41 : decode cX12_withdraw 41 = .ok (.iconst 0, 1) := by decide +kernel
theorem dX12_withdraw_42 : decode cX12_withdraw 42 = .ok (.istore 4, 2) := by decide +kernel
theorem dX12_withdraw_44 : decode cX12_withdraw 44 = .ok (.iload 4, 2) := by decide +kernel
theorem dX12_withdraw_46 : decode cX12_withdraw 46 = .ok (.aload_n 0, 1) := by decide +kernel
theorem dX12_withdraw_47 : decode cX12_withdraw 47 = .ok (.getfield 35, 3) := by decide +kernel
theorem dX12_withdraw_50 : decode cX12_withdraw 50 = .ok (.getfield 87, 3) := by decide +kernel
theorem dX12_withdraw_53 : decode cX12_withdraw 53 = .ok (.iconst 3, 1) := by decide +kernel
theorem dX12_withdraw_54 : decode cX12_withdraw 54 = .ok (.invokevirtual 105, 3) := by decide +kernel
theorem dX12_withdraw_57 : decode cX12_withdraw 57 = .ok (.if_icmp .ge 79, 3) := by decide +kernel
theorem dX12_withdraw_60 : decode cX12_withdraw 60 = .ok (.aload_n 0, 1) := by decide +kernel
theorem dX12_withdraw_61 : decode cX12_withdraw 61 = .ok (.getfield 35, 3) := by decide +kernel
theorem dX12_withdraw_64 : decode cX12_withdraw 64 = .ok (.getfield 213, 3) := by decide +kernel
theorem dX12_withdraw_67 : decode cX12_withdraw 67 = .ok (.iload 4, 2) := by decide +kernel
theorem dX12_withdraw_69 : decode cX12_withdraw 69 = .ok (.aaload, 1) := by decide +kernel
theorem dX12_withdraw_70 : decode cX12_withdraw 70 = .ok (.astore 5, 2) := by decide +kernel
theorem dX12_withdraw_72 : decode cX12_withdraw 72 = .ok (.aload_n 0, 1) := by decide +kernel
theorem dX12_withdraw_73 : decode cX12_withdraw 73 = .ok (.getfield 35, 3) := by decide +kernel
theorem dX12_withdraw_76 : decode cX12_withdraw 76 = .ok (.getfield 87, 3) := by decide +kernel
theorem dX12_withdraw_79 : decode cX12_withdraw 79 = .ok (.getfield 209, 3) := by decide +kernel
theorem dX12_withdraw_82 : decode cX12_withdraw 82 = .ok (.iload 4, 2) := by decide +kernel
theorem dX12_withdraw_84 : decode cX12_withdraw 84 = .ok (.aaload, 1) := by decide +kernel
theorem dX12_withdraw_85 : decode cX12_withdraw 85 = .ok (.getfield 245, 3) := by decide +kernel
theorem dX12_withdraw_88 : decode cX12_withdraw 88 = .ok (.iload_n 1, 1) := by decide +kernel
theorem dX12_withdraw_89 : decode cX12_withdraw 89 = .ok (.invokestatic 203, 3) := by decide +kernel
theorem dX12_withdraw_92 : decode cX12_withdraw 92 = .ok (.istore 6, 2) := by decide +kernel
theorem dX12_withdraw_94 : decode cX12_withdraw 94 = .ok (.aload 5, 2) := by decide +kernel
theorem dX12_withdraw_96 : decode cX12_withdraw 96 = .ok (.getfield 236, 3) := by decide +kernel
theorem dX12_withdraw_99 : decode cX12_withdraw 99 = .ok (.iconst 1, 1) := by decide +kernel
theorem dX12_withdraw_100 : decode cX12_withdraw 100 = .ok (.if_icmp .ne 30, 3) := by decide +kernel
theorem dX12_withdraw_103 : decode cX12_withdraw 103 = .ok (.aload 5, 2) := by decide +kernel
theorem dX12_withdraw_105 : decode cX12_withdraw 105 = .ok (.getfield 256, 3) := by decide +kernel
theorem dX12_withdraw_108 : decode cX12_withdraw 108 = .ok (.iload_n 2, 1) := by decide +kernel
theorem dX12_withdraw_109 : decode cX12_withdraw 109 = .ok (.if_icmp .lt 21, 3) := by decide +kernel
theorem dX12_withdraw_112 : decode cX12_withdraw 112 = .ok (.iload 6, 2) := by decide +kernel
theorem dX12_withdraw_114 : decode cX12_withdraw 114 = .ok (.ifCond .eq 16, 3) := by decide +kernel
theorem dX12_withdraw_117 : decode cX12_withdraw 117 = .ok (.aload_n 0, 1) := by decide +kernel
theorem dX12_withdraw_118 : decode cX12_withdraw 118 = .ok (.getfield 35, 3) := by decide +kernel
theorem dX12_withdraw_121 : decode cX12_withdraw 121 = .ok (.iload 4, 2) := by decide +kernel
theorem dX12_withdraw_123 : decode cX12_withdraw 123 = .ok (.iconst 0, 1) := by decide +kernel
theorem dX12_withdraw_124 : decode cX12_withdraw 124 = .ok (.invokevirtual 345, 3) := by decide +kernel
theorem dX12_withdraw_127 : decode cX12_withdraw 127 = .ok (.iinc 3 1, 3) := by decide +kernel
theorem dX12_withdraw_130 : decode cX12_withdraw 130 = .ok (.iinc 4 1, 3) := by decide +kernel
theorem dX12_withdraw_133 : decode cX12_withdraw 133 = .ok (.goto (-89), 3) := by decide +kernel
theorem dX12_withdraw_136 : decode cX12_withdraw 136 = .ok (.iload_n 3, 1) := by decide +kernel
theorem dX12_withdraw_137 : decode cX12_withdraw 137 = .ok (.ireturn, 1) := by decide +kernel
theorem hd_X12_withdraw : yX12_withdraw.cls = RX12 ∧ yX12_withdraw.cls ≠ "java/lang/invoke/MethodHandle" ∧ yX12_withdraw.cls ≠ "java/lang/invoke/VarHandle" ∧ (parseMethodDescriptor yX12_withdraw.desc).map (fun d => d.parameters.length) = some 2 := by decide +kernel
theorem hs_X12_withdraw : yX12_withdraw.cls ≠ "java/lang/invoke/MethodHandle" ∧ yX12_withdraw.cls ≠ "java/lang/invoke/VarHandle" ∧ (parseMethodDescriptor yX12_withdraw.desc).map (fun d => d.parameters.length) = some 2 := by decide +kernel
set_option maxHeartbeats 4000000 in
set_option maxRecDepth 100000 in
theorem l_X12_withdraw_L44 (C : CX p l e s m args meth c cX12_withdraw 7 RX12 (Option.some Jvm.ClassFile.FieldType.int) E) {o : Nat} (ho : K o = some (10, 0)) {r : Int32 ⊕ Nat} {w' : Wd} (k : Int32 → Int32 → Int32 → Int32 → Wd → Option ((Int32 ⊕ Nat) × Wd)) (hk : ∀ (v1_44 : Int32) (v2_44 : Int32) (v3_44 : Int32) (v4_44 : Int32) (w : Wd) (H : Heap) (locs : List Loc) (ls : Array Slot), HQ E K z w s H locs → lv_has ls 7 [(1, .int v1_44), (2, .int v2_44), (3, .int v3_44), (4, .int v4_44), (0, rv E (some o))] → k v1_44 v2_44 v3_44 v4_44 w = some (r, w') → W p l e ({ frames := 7, cells := 2, slots := 12, locals := 125 } : Room) s m args below meth c H locs 2 12 (vx_MQ below (XI E K z w' r) (XX E K w' r) args s 2 12 (hA E)) (F0 m 136 ls [])) : ∀ (n : Nat) (v1_44 : Int32) (v2_44 : Int32) (v3_44 : Int32) (v4_44 : Int32) (w : Wd) (H : Heap) (locs : List Loc) (ls : Array Slot), HQ E K z w s H locs → lv_has ls 7 [(1, .int v1_44), (2, .int v2_44), (3, .int v3_44), (4, .int v4_44), (0, rv E (some o))] → f_X12_withdraw_L44 K o k n v1_44 v2_44 v3_44 v4_44 w = some (r, w') → W p l e ({ frames := 7, cells := 2, slots := 12, locals := 125 } : Room) s m args below meth c H locs 2 12 (vx_MQ below (XI E K z w' r) (XX E K w' r) args s 2 12 (hA E)) (F0 m 44 ls []) := by
  obtain ⟨hx, hb, hml, hown, hts, hKs, hT, hb0, hlocks, hret⟩ := id C
  intro n
  induction n with
  | zero =>
    intro v1_44 v2_44 v3_44 v4_44 w H locs ls hH hl hf
    cases hf
  | succ n ih =>
    intro v1_44 v2_44 v3_44 v4_44 w H locs ls hH hl hf
    rw [f_X12_withdraw_L44] at hf
    refine lv_iload hx hb dX12_withdraw_44 (lv_at hl 3 rfl) ?_
    refine hl_aload_n hx hb dX12_withdraw_46 rfl (lv_at hl 4 rfl) ?_
    refine g12_5 hx hb hts hown hKs hH rfl ho m2_214 dX12_withdraw_47 ?_
    obtain ⟨a12, ha12, hf⟩ := bnd hf
    replace ha12 := chk_some ha12
    refine gn10_0 hx hb hts hown hKs hH ha12.1 ha12.2 m2_115 dX12_withdraw_50 ?_
    refine lv_iconst (v := 3) hx hb dX12_withdraw_53 (by decide) ?_
    obtain ⟨a13, ha13, hf⟩ := bnd hf
    replace ha13 := chk_some ha13
    obtain ⟨q14, hq14, hf⟩ := bnd hf
    refine hcV_i hx hb hml hown hts hKs hT hb0 hH (As := [.int 3]) (rest := [.int v4_44]) (k_X9_size l E K H.size a13 3 w ha13.2 hq14) (gV m3_21 m3_22 m3_23 m1_2 m3_24) hd_X9_size ⟨Nat.le_of_ble_eq_true rfl, Nat.le_of_ble_eq_true rfl, rfl, rfl⟩ ha13.1 ha13.2 rfl rfl rfl hl.1 rfl (rcI rc0) rfl dX12_withdraw_54 ⟨Nat.le_of_ble_eq_true rfl, Nat.le_of_ble_eq_true rfl⟩ (fun H locs hH => ?_)
    refine lv_icmp_ge (tgt := 136) hx hb dX12_withdraw_57 (by decide) (fun c15 => ?_) (fun c15 => ?_)
    · replace hf := (if_pos c15).symm.trans hf
      exact hk v1_44 v2_44 v3_44 v4_44 _ _ _ _ hH (lv_sub hl [0, 1, 2, 3, 4] rfl) hf
    · replace hf := (if_neg c15).symm.trans hf
      refine hl_aload_n hx hb dX12_withdraw_60 rfl (lv_at hl 4 rfl) ?_
      refine g12_5 hx hb hts hown hKs hH rfl ho m2_214 dX12_withdraw_61 ?_
      obtain ⟨a16, ha16, hf⟩ := bnd hf
      replace ha16 := chk_some ha16
      refine gn10_5 hx hb hts hown hKs hH ha16.1 ha16.2 m2_127 dX12_withdraw_64 ?_
      refine lv_iload hx hb dX12_withdraw_67 (lv_at hl 3 rfl) ?_
      obtain ⟨a17, ha17, hf⟩ := bnd hf
      replace ha17 := cha_some ha17
      obtain ⟨j18, hj18, hf⟩ := bnd hf
      refine hw_aald27 hx hb hKs hH ha17.1 ha17.2 hj18 dX12_withdraw_69 ?_
      refine hl_astore (i := 5) (lv' := [(5, rv E (aR q14.2 a17.1 j18)), (1, .int v1_44), (2, .int v2_44), (3, .int v3_44), (4, .int v4_44), (0, rv E (some o))]) hx hb dX12_withdraw_70 hl (by decide) rfl (fun ls hl => ?_)
      refine hl_aload_n hx hb dX12_withdraw_72 rfl (lv_at hl 5 rfl) ?_
      refine g12_5 hx hb hts hown hKs hH rfl ho m2_214 dX12_withdraw_73 ?_
      refine gn10_0 hx hb hts hown hKs hH ha16.1 ha16.2 m2_115 dX12_withdraw_76 ?_
      obtain ⟨a19, ha19, hf⟩ := bnd hf
      replace ha19 := chk_some ha19
      refine gn9_9 hx hb hts hown hKs hH ha19.1 ha19.2 m1_175 dX12_withdraw_79 ?_
      refine lv_iload hx hb dX12_withdraw_82 (lv_at hl 4 rfl) ?_
      obtain ⟨a20, ha20, hf⟩ := bnd hf
      replace ha20 := cha_some ha20
      obtain ⟨j21, hj21, hf⟩ := bnd hf
      refine hw_aald25 hx hb hKs hH ha20.1 ha20.2 hj21 dX12_withdraw_84 ?_
      obtain ⟨a22, ha22, hf⟩ := bnd hf
      replace ha22 := chk_some ha22
      refine gn3_4 hx hb hts hown hKs hH ha22.1 ha22.2 m1_111 dX12_withdraw_85 ?_
      refine lv_iload_n hx hb dX12_withdraw_88 rfl (lv_at hl 1 rfl) ?_
      obtain ⟨q23, hq23, hf⟩ := bnd hf
      refine hcS_i hx hb hml hown hts hKs hT hb0 hH (As := [.int ((wI q14.2 304 a22)), .int v1_44]) (rest := []) (k_X12_has l E K H.size (wI q14.2 304 a22) v1_44 q14.2 hq23) (gS m6_162 m3_188 m1_1 m3_189) hs_X12_has ⟨Nat.le_of_ble_eq_true rfl, Nat.le_of_ble_eq_true rfl, rfl, rfl⟩ hl.1 rfl rc0 rfl dX12_withdraw_89 ⟨Nat.le_of_ble_eq_true rfl, Nat.le_of_ble_eq_true rfl⟩ (fun H locs hH => ?_)
      refine lv_istore (i := 6) (lv' := [(6, .int (b2i q23.1)), (5, rv E (aR q14.2 a17.1 j18)), (1, .int v1_44), (2, .int v2_44), (3, .int v3_44), (4, .int v4_44), (0, rv E (some o))]) hx hb dX12_withdraw_92 hl (by decide) (by simp [List.filter_cons, cat_q, cat_i, cat_j, imax, imin]) (fun ls hl => ?_)
      refine hl_aload hx hb dX12_withdraw_94 (lv_at hl 1 rfl) ?_
      obtain ⟨a24, ha24, hf⟩ := bnd hf
      replace ha24 := chk_some ha24
      refine gn7_0 hx hb hts hown hKs hH ha24.1 ha24.2 m2_65 dX12_withdraw_96 ?_
      refine lv_iconst (v := 1) hx hb dX12_withdraw_99 (by decide) ?_
      refine lv_icmp_ne (tgt := 130) hx hb dX12_withdraw_100 (by decide) (fun c25 => ?_) (fun c25 => ?_)
      · replace hf := (if_neg c25).symm.trans hf
        refine lv_iinc (v := (v4_44 + 1)) (lv' := [(4, .int ((v4_44 + 1))), (6, .int (b2i q23.1)), (5, rv E (aR q14.2 a17.1 j18)), (1, .int v1_44), (2, .int v2_44), (3, .int v3_44), (0, rv E (some o))]) hx hb dX12_withdraw_130 hl (k := 5) rfl rfl (by decide) rfl (fun ls hl => ?_)
        refine lv_goto (tgt := 44) hx hb dX12_withdraw_133 (by decide) ?_
        exact ih v1_44 v2_44 v3_44 (v4_44 + 1) _ _ _ _ hH (lv_sub hl [3, 4, 5, 0, 6] rfl) hf
      · replace hf := (if_pos c25).symm.trans hf
        refine hl_aload hx hb dX12_withdraw_103 (lv_at hl 1 rfl) ?_
        refine gn7_2 hx hb hts hown hKs hH ha24.1 ha24.2 m2_70 dX12_withdraw_105 ?_
        refine lv_iload_n hx hb dX12_withdraw_108 rfl (lv_at hl 3 rfl) ?_
        refine lv_icmp_lt (tgt := 130) hx hb dX12_withdraw_109 (by decide) (fun c26 => ?_) (fun c26 => ?_)
        · replace hf := (if_pos c26).symm.trans hf
          refine lv_iinc (v := (v4_44 + 1)) (lv' := [(4, .int ((v4_44 + 1))), (6, .int (b2i q23.1)), (5, rv E (aR q14.2 a17.1 j18)), (1, .int v1_44), (2, .int v2_44), (3, .int v3_44), (0, rv E (some o))]) hx hb dX12_withdraw_130 hl (k := 5) rfl rfl (by decide) rfl (fun ls hl => ?_)
          refine lv_goto (tgt := 44) hx hb dX12_withdraw_133 (by decide) ?_
          exact ih v1_44 v2_44 v3_44 (v4_44 + 1) _ _ _ _ hH (lv_sub hl [3, 4, 5, 0, 6] rfl) hf
        · replace hf := (if_neg c26).symm.trans hf
          refine lv_iload hx hb dX12_withdraw_112 (lv_at hl 0 rfl) ?_
          refine lv_if_eq (tgt := 130) hx hb dX12_withdraw_114 (by decide) (fun c27 => ?_) (fun c27 => ?_)
          · replace hf := (if_pos c27).symm.trans hf
            refine lv_iinc (v := (v4_44 + 1)) (lv' := [(4, .int ((v4_44 + 1))), (6, .int (b2i q23.1)), (5, rv E (aR q14.2 a17.1 j18)), (1, .int v1_44), (2, .int v2_44), (3, .int v3_44), (0, rv E (some o))]) hx hb dX12_withdraw_130 hl (k := 5) rfl rfl (by decide) rfl (fun ls hl => ?_)
            refine lv_goto (tgt := 44) hx hb dX12_withdraw_133 (by decide) ?_
            exact ih v1_44 v2_44 v3_44 (v4_44 + 1) _ _ _ _ hH (lv_sub hl [3, 4, 5, 0, 6] rfl) hf
          · replace hf := (if_neg c27).symm.trans hf
            refine hl_aload_n hx hb dX12_withdraw_117 rfl (lv_at hl 6 rfl) ?_
            refine g12_5 hx hb hts hown hKs hH rfl ho m2_214 dX12_withdraw_118 ?_
            refine lv_iload hx hb dX12_withdraw_121 (lv_at hl 5 rfl) ?_
            refine lv_iconst (v := 0) hx hb dX12_withdraw_123 (by decide) ?_
            obtain ⟨a28, ha28, hf⟩ := bnd hf
            replace ha28 := chk_some ha28
            obtain ⟨q29, hq29, hf⟩ := bnd hf
            refine hcV_v hx hb hml hown hts hKs hT hb0 hH (As := [.int v4_44, .int 0]) (rest := []) (k_X10_takeAway l E K H.size a28 v4_44 0 q23.2 ha28.2 hq29) (gV m6_138 m6_139 m6_140 m1_12 m6_141) hd_X10_takeAway ⟨Nat.le_of_ble_eq_true rfl, Nat.le_of_ble_eq_true rfl, rfl, rfl⟩ ha28.1 ha28.2 rfl rfl rfl hl.1 rfl rc0 rfl dX12_withdraw_124 ⟨Nat.le_of_ble_eq_true rfl, Nat.le_of_ble_eq_true rfl⟩ (fun H locs hH => ?_)
            refine lv_iinc (v := (v3_44 + 1)) (lv' := [(3, .int ((v3_44 + 1))), (6, .int (b2i q23.1)), (5, rv E (aR q14.2 a17.1 j18)), (1, .int v1_44), (2, .int v2_44), (4, .int v4_44), (0, rv E (some o))]) hx hb dX12_withdraw_127 hl (k := 4) rfl rfl (by decide) rfl (fun ls hl => ?_)
            refine lv_iinc (v := (v4_44 + 1)) (lv' := [(4, .int ((v4_44 + 1))), (3, .int ((v3_44 + 1))), (6, .int (b2i q23.1)), (5, rv E (aR q14.2 a17.1 j18)), (1, .int v1_44), (2, .int v2_44), (0, rv E (some o))]) hx hb dX12_withdraw_130 hl (k := 5) rfl rfl (by decide) rfl (fun ls hl => ?_)
            refine lv_goto (tgt := 44) hx hb dX12_withdraw_133 (by decide) ?_
            exact ih v1_44 v2_44 (v3_44 + 1) (v4_44 + 1) _ _ _ _ hH (lv_sub hl [4, 5, 1, 0, 6] rfl) hf
set_option maxHeartbeats 4000000 in
set_option maxRecDepth 100000 in
theorem k_X12_withdraw (l : Launch) (hls : l.stackTraces = false) (E : Ev) (K : Kd) (z : Nat) (o : Nat) (a_1 : Int32) (a_2 : Int32) (w : Wd) (ho : K o = some (10, 0)) {r : Int32 ⊕ Nat} {w' : Wd} (hf : f_X12_withdraw K o a_1 a_2 w = some (r, w')) : vx_Met l yX12_withdraw (Cond.code yX12_withdraw cX12_withdraw 7 (Option.some Jvm.ClassFile.FieldType.int) :: bt) ({ frames := 7, cells := 2, slots := 12, locals := 125 } : Room) (va_Pc [rv E (some o), .int a_1, .int a_2] (HB E K w z)) (XI E K z w' r) (XX E K w' r) 2 12 (hA E) := by
  refine vx_ofW (cc := cX12_withdraw) (maxL := 7) (ret := (Option.some Jvm.ClassFile.FieldType.int)) (by decide) rfl ?_
  intro p e s m args below meth c s₁ B hml hout hv
  obtain ⟨rfl, hz, hP, hKs, hT, hb0⟩ := hv
  have C : CX p l e s m _ meth c cX12_withdraw 7 RX12 (Option.some Jvm.ClassFile.FieldType.int) E := ⟨B.exec, B.bytes, hml, findClass_of_methodNamed B.named, fun w h => atoms_spec (ws := Cond.code yX12_withdraw cX12_withdraw 7 (Option.some Jvm.ClassFile.FieldType.int) :: bt) B.pre w (List.mem_cons_of_mem _ h), hKs, hT, by rw [hz]; exact hb0, B.notSynchronized, B.returns⟩
  have hH : HQ E K z w s s.heap [] := ⟨hP, va_S.rf, hz⟩
  obtain ⟨hx, hb, hml, hown, hts, hKs, hT, hb0, hlocks, hret⟩ := id C
  have hl := lv_entry [rv E (some o), .int a_1, .int a_2] (n := 7) (by simp [lg_len_nil, lg_len_i, lg_len_j, lg_len_q, lg_len_f, lg_len_d, lg_len_r])
  rw [lg_entry_eq]
  generalize (lg_sl [rv E (some o), .int a_1, .int a_2] ++ List.replicate (7 - (lg_sl [rv E (some o), .int a_1, .int a_2]).length) Slot.unset).toArray = ls at hl ⊢
  replace hl : lv_has ls 7 [(0, rv E (some o)), (1, .int a_1), (2, .int a_2)] := by simpa only [lv_args, cat_q, cat_i, cat_j, reduceIte, Nat.reduceEqDiff, Nat.reduceAdd, Nat.zero_add] using hl
  generalize s.heap = H at hH ⊢
  unfold f_X12_withdraw at hf
  refine hl_aload_n hx hb dX12_withdraw_0 rfl (lv_at hl 0 rfl) ?_
  refine lv_iconst (v := 2) hx hb dX12_withdraw_1 (by decide) ?_
  refine lv_iload_n hx hb dX12_withdraw_2 rfl (lv_at hl 1 rfl) ?_
  obtain ⟨q1, hq1, hf⟩ := bnd hf
  refine hxV_v hx hb hml hown hts hKs hT hb0 hH (As := [.int 2, .int a_1]) (rest := []) (k_X12_requireExisting l hls E K H.size o 2 a_1 w ho hq1) (gV m6_91 m6_93 ms_29 m1_1 m6_94) hd_X12_requireExisting ⟨Nat.le_of_ble_eq_true rfl, Nat.le_of_ble_eq_true rfl, rfl, rfl⟩ rfl ho rfl rfl rfl hl.1 rfl rc0 rfl dX12_withdraw_3 ⟨Nat.le_of_ble_eq_true rfl, Nat.le_of_ble_eq_true rfl⟩ ⟨Nat.le_of_ble_eq_true rfl, Nat.le_of_ble_eq_true rfl⟩ hout hlocks (fun x hx9 => (fun h9 => ⟨(congrArg Prod.fst h9).symm, (congrArg Prod.snd h9).symm⟩) (Option.some.inj ((xk_inr hx9).symm.trans hf))) (fun v2 hv2 H locs hH => ?_)
  replace hf := (xk_inl hv2).symm.trans hf
  refine hl_aload_n hx hb dX12_withdraw_6 rfl (lv_at hl 0 rfl) ?_
  refine lv_iload_n hx hb dX12_withdraw_7 rfl (lv_at hl 2 rfl) ?_
  obtain ⟨q3, hq3, hf⟩ := bnd hf
  refine hxV_v hx hb hml hown hts hKs hT hb0 hH (As := [.int a_2]) (rest := []) (k_X12_requireComingDay l hls E K H.size o a_2 q1.2 ho hq3) (gV m6_157 m6_159 ms_31 m1_1 m6_160) hd_X12_requireComingDay ⟨Nat.le_of_ble_eq_true rfl, Nat.le_of_ble_eq_true rfl, rfl, rfl⟩ rfl ho rfl rfl rfl hl.1 rfl rc0 rfl dX12_withdraw_8 ⟨Nat.le_of_ble_eq_true rfl, Nat.le_of_ble_eq_true rfl⟩ ⟨Nat.le_of_ble_eq_true rfl, Nat.le_of_ble_eq_true rfl⟩ hout hlocks (fun x hx9 => (fun h9 => ⟨(congrArg Prod.fst h9).symm, (congrArg Prod.snd h9).symm⟩) (Option.some.inj ((xk_inr hx9).symm.trans hf))) (fun v4 hv4 H locs hH => ?_)
  replace hf := (xk_inl hv4).symm.trans hf
  refine hl_aload_n hx hb dX12_withdraw_11 rfl (lv_at hl 0 rfl) ?_
  obtain ⟨q5, hq5, hf⟩ := bnd hf
  refine hcV_v hx hb hml hown hts hKs hT hb0 hH (As := []) (rest := []) (k_X12_remember l E K H.size o q3.2 ho hq5) (gV m3_119 m3_121 ms_2 m1_1 m3_122) hd_X12_remember ⟨Nat.le_of_ble_eq_true rfl, Nat.le_of_ble_eq_true rfl, rfl, rfl⟩ rfl ho rfl rfl rfl hl.1 rfl rc0 rfl dX12_withdraw_12 ⟨Nat.le_of_ble_eq_true rfl, Nat.le_of_ble_eq_true rfl⟩ (fun H locs hH => ?_)
  refine hl_aload_n hx hb dX12_withdraw_15 rfl (lv_at hl 0 rfl) ?_
  refine g12_5 hx hb hts hown hKs hH rfl ho m2_214 dX12_withdraw_16 ?_
  obtain ⟨a6, ha6, hf⟩ := bnd hf
  replace ha6 := chk_some ha6
  refine gn10_3 hx hb hts hown hKs hH ha6.1 ha6.2 m2_122 dX12_withdraw_19 ?_
  refine lv_iload_n hx hb dX12_withdraw_22 rfl (lv_at hl 1 rfl) ?_
  refine hl_aload_n hx hb dX12_withdraw_23 rfl (lv_at hl 0 rfl) ?_
  refine g12_5 hx hb hts hown hKs hH rfl ho m2_214 dX12_withdraw_24 ?_
  refine gn10_3 hx hb hts hown hKs hH ha6.1 ha6.2 m2_122 dX12_withdraw_27 ?_
  refine lv_iload_n hx hb dX12_withdraw_30 rfl (lv_at hl 1 rfl) ?_
  obtain ⟨a7, ha7, hf⟩ := bnd hf
  replace ha7 := cha_some ha7
  obtain ⟨j8, hj8, hf⟩ := bnd hf
  refine hw_iald hx hb hKs hH ha7.1 ha7.2 hj8 dX12_withdraw_31 ?_
  refine lv_iload_n hx hb dX12_withdraw_32 rfl (lv_at hl 2 rfl) ?_
  refine lv_iconst (v := 1) hx hb dX12_withdraw_33 (by decide) ?_
  refine lv_isub hx hb dX12_withdraw_34 ?_
  refine va_mmin hx hb (hml.trans hl.1.symm) hown (hts _ m6_161) (hts _ m3_200) (hts _ m1_5) (hts _ m3_201) (Nat.le_of_ble_eq_true rfl) (Nat.le_trans (Nat.add_le_add_right (show rc 8 [.int a_1, rv E (wR q5 1003 a6)] from (rcI (rcV rc0))) 13) (Nat.le_of_ble_eq_true rfl)) (Nat.le_of_ble_eq_true rfl) (Nat.le_of_ble_eq_true rfl) dX12_withdraw_35 ?_
  obtain ⟨j9, hj9, hf⟩ := bnd hf
  obtain ⟨w10, hw10, hf⟩ := bnd hf
  replace hw10 := Option.some.inj hw10
  refine hw_iast (x := (imin (aI q5 a7.1 j8) (a_2 - 1))) hx hb hKs hH ha7.1 ha7.2 hj9 dX12_withdraw_38 (fun H locs hH => ?_)
  rw [hw10] at hH
  refine lv_iconst (v := 0) hx hb dX12_withdraw_39 (by decide) ?_
  refine lv_istore_n (i := 3) (lv' := [(3, .int 0), (0, rv E (some o)), (1, .int a_1), (2, .int a_2)]) hx hb dX12_withdraw_40 rfl hl (by decide) rfl (fun ls hl => ?_)
  refine lv_iconst (v := 0) hx hb dX12_withdraw_41 (by decide) ?_
  refine lv_istore (i := 4) (lv' := [(4, .int 0), (3, .int 0), (0, rv E (some o)), (1, .int a_1), (2, .int a_2)]) hx hb dX12_withdraw_42 hl (by decide) rfl (fun ls hl => ?_)
  refine l_X12_withdraw_L44  C ho _ (fun v1_44 v2_44 v3_44 v4_44 w11 H locs ls hH hl hf => ?_) fu a_1 a_2 0 0 w10 _ _ _ hH (lv_sub hl [3, 4, 1, 0, 2] rfl) hf
  refine lv_iload_n hx hb dX12_withdraw_136 rfl (lv_at hl 2 rfl) ?_
  exact hx_iret hx hb (Nat.le_of_ble_eq_true rfl) (Nat.le_of_ble_eq_true rfl) hret hf hH hlocks dX12_withdraw_137

theorem dX12_addHoliday_0 : decode cX12_addHoliday 0 = .ok (.aload_n 0, 1) := by decide +kernel
theorem dX12_addHoliday_1 : decode cX12_addHoliday 1 = .ok (.iload_n 1, 1) := by decide +kernel
theorem dX12_addHoliday_2 : decode cX12_addHoliday 2 = .ok (.invokevirtual 348, 3) := by decide +kernel
theorem dX12_addHoliday_5 : decode cX12_addHoliday 5 = .ok (.aload_n 0, 1) := by decide +kernel
theorem dX12_addHoliday_6 : decode cX12_addHoliday 6 = .ok (.getfield 35, 3) := by decide +kernel
theorem dX12_addHoliday_9 : decode cX12_addHoliday 9 = .ok (.iload_n 1, 1) := by decide +kernel
theorem dX12_addHoliday_10 : decode cX12_addHoliday 10 = .ok (.invokevirtual 157, 3) := by decide +kernel
theorem dX12_addHoliday_13 : decode cX12_addHoliday 13 = .ok (.ifCond .eq 18, 3) := by decide +kernel
theorem dX12_addHoliday_16 : decode cX12_addHoliday 16 = .ok (.aload_n 0, 1) := by decide +kernel
theorem dX12_addHoliday_17 : decode cX12_addHoliday 17 = .ok (.getfield 35, 3) := by decide +kernel
theorem dX12_addHoliday_20 : decode cX12_addHoliday 20 = .ok (.getfield 109, 3) := by decide +kernel
theorem dX12_addHoliday_23 : decode cX12_addHoliday 23 = .ok (.getfield 113, 3) := by decide +kernel
theorem dX12_addHoliday_26 : decode cX12_addHoliday 26 = .ok (.bipush 20, 2) := by decide +kernel
theorem dX12_addHoliday_28 : decode cX12_addHoliday 28 = .ok (.if_icmp .lt 11, 3) := by decide +kernel
theorem dX12_addHoliday_31 : decode cX12_addHoliday 31 = .ok (.new 331, 3) := by decide +kernel
theorem dX12_addHoliday_34 : decode cX12_addHoliday 34 = .ok (.dup, 1) := by decide +kernel
theorem dX12_addHoliday_35 : decode cX12_addHoliday 35 = .ok (.invokespecial 333, 3) := by decide +kernel
theorem dX12_addHoliday_38 : decode cX12_addHoliday 38 = .ok (.athrow, 1) := by decide +kernel
theorem dX12_addHoliday_39 : decode cX12_addHoliday 39 = .ok (.aload_n 0, 1) := by decide +kernel
theorem dX12_addHoliday_40 : decode cX12_addHoliday 40 = .ok (.invokevirtual 325, 3) := by decide +kernel
theorem dX12_addHoliday_43 : decode cX12_addHoliday 43 = .ok (.aload_n 0, 1) := by decide +kernel
theorem dX12_addHoliday_44 : decode cX12_addHoliday 44 = .ok (.getfield 35, 3) := by decide +kernel
theorem dX12_addHoliday_47 : decode cX12_addHoliday 47 = .ok (.getfield 109, 3) := by decide +kernel
theorem dX12_addHoliday_50 : decode cX12_addHoliday 50 = .ok (.iload_n 1, 1) := by decide +kernel
theorem dX12_addHoliday_51 : decode cX12_addHoliday 51 = .ok (.invokevirtual 356, 3) := by decide +kernel
theorem dX12_addHoliday_54 : decode cX12_addHoliday 54 = .ok (.iconst 0, 1) := by decide +kernel
theorem dX12_addHoliday_55 : decode cX12_addHoliday 55 = .ok (.istore_n 2, 1) := by decide +kernel
theorem dX12_addHoliday_56 : decode cX12_addHoliday 56 = .ok (.iconst 0, 1) := by decide +kernel
theorem dX12_addHoliday_57 : decode cX12_addHoliday 57 = .ok (.istore_n 3, 1) := by decide +kernel
theorem dX12_addHoliday_58 : decode cX12_addHoliday 58 = .ok (.iload_n 3, 1) := by decide +kernel
theorem dX12_addHoliday_59 : decode cX12_addHoliday 59 = .ok (.aload_n 0, 1) := by decide +kernel
theorem dX12_addHoliday_60 : decode cX12_addHoliday 60 = .ok (.getfield 35, 3) := by decide +kernel
theorem dX12_addHoliday_63 : decode cX12_addHoliday 63 = .ok (.getfield 87, 3) := by decide +kernel
theorem dX12_addHoliday_66 : decode cX12_addHoliday 66 = .ok (.iconst 3, 1) := by decide +kernel
theorem dX12_addHoliday_67 : decode cX12_addHoliday 67 = .ok (.invokevirtual 105, 3) := by decide +kernel
theorem dX12_addHoliday_70 : decode cX12_addHoliday 70 = .ok (.if_icmp .ge 50, 3) := by decide +kernel
theorem dX12_addHoliday_73 : decode cX12_addHoliday 73 = .ok (.aload_n 0, 1) := by decide +kernel
theorem dX12_addHoliday_74 : decode cX12_addHoliday 74 = .ok (.getfield 35, 3) := by decide +kernel
theorem dX12_addHoliday_77 : decode cX12_addHoliday 77 = .ok (.getfield 213, 3) := by decide +kernel
theorem dX12_addHoliday_80 : decode cX12_addHoliday 80 = .ok (.iload_n 3, 1) := by decide +kernel
theorem dX12_addHoliday_81 : decode cX12_addHoliday 81 = .ok (.aaload, 1) := by decide +kernel
theorem dX12_addHoliday_82 : decode cX12_addHoliday 82 = .ok (.astore 4, 2) := by decide +kernel
theorem dX12_addHoliday_84 : decode cX12_addHoliday 84 = .ok (.aload 4, 2) := by decide +kernel
theorem dX12_addHoliday_86 : decode cX12_addHoliday 86 = .ok (.getfield 236, 3) := by decide +kernel
theorem dX12_addHoliday_89 : decode cX12_addHoliday 89 = .ok (.iconst 1, 1) := by decide +kernel
theorem dX12_addHoliday_90 : decode cX12_addHoliday 90 = .ok (.if_icmp .ne 24, 3) := by decide +kernel
theorem dX12_addHoliday_93 : decode cX12_addHoliday 93 = .ok (.aload 4, 2) := by decide +kernel
theorem dX12_addHoliday_95 : decode cX12_addHoliday 95 = .ok (.getfield 256, 3) := by decide +kernel
theorem dX12_addHoliday_98 : decode cX12_addHoliday 98 = .ok (.iload_n 1, 1) := by decide +kernel
theorem dX12_addHoliday_99 : decode cX12_addHoliday 99 = .ok (.if_icmp .ne 15, 3) := by decide +kernel
theorem dX12_addHoliday_102 : decode cX12_addHoliday 102 = .ok (.aload_n 0, 1) := by decide +kernel
theorem dX12_addHoliday_103 : decode cX12_addHoliday 103 = .ok (.getfield 35, 3) := by decide +kernel
theorem dX12_addHoliday_106 : decode cX12_addHoliday 106 = .ok (.iload_n 3, 1) := by decide +kernel
theorem dX12_addHoliday_107 : decode cX12_addHoliday 107 = .ok (.iconst 3, 1) := by decide +kernel
theorem dX12_addHoliday_108 : decode cX12_addHoliday 108 = .ok (.invokevirtual 345, 3) := by decide +kernel
theorem dX12_addHoliday_111 : decode cX12_addHoliday 111 = .ok (.iinc 2 1, 3) := by decide +kernel
theorem dX12_addHoliday_114 : decode cX12_addHoliday 114 = .ok (.iinc 3 1, 3) := by decide +kernel
theorem dX12_addHoliday_117 : decode cX12_addHoliday 117 = .ok (.goto (-59), 3) := by decide +kernel
theorem dX12_addHoliday_120 : decode cX12_addHoliday 120 = .ok (.iload_n 2, 1) := by decide +kernel
theorem dX12_addHoliday_121 : decode cX12_addHoliday 121 = .ok (.ireturn, 1) := by decide +kernel
theorem hd_X12_addHoliday : yX12_addHoliday.cls = RX12 ∧ yX12_addHoliday.cls ≠ "java/lang/invoke/MethodHandle" ∧ yX12_addHoliday.cls ≠ "java/lang/invoke/VarHandle" ∧ (parseMethodDescriptor yX12_addHoliday.desc).map (fun d => d.parameters.length) = some 1 := by decide +kernel
theorem hs_X12_addHoliday : yX12_addHoliday.cls ≠ "java/lang/invoke/MethodHandle" ∧ yX12_addHoliday.cls ≠ "java/lang/invoke/VarHandle" ∧ (parseMethodDescriptor yX12_addHoliday.desc).map (fun d => d.parameters.length) = some 1 := by decide +kernel
set_option maxHeartbeats 4000000 in
set_option maxRecDepth 100000 in
theorem l_X12_addHoliday_L58 (C : CX p l e s m args meth c cX12_addHoliday 5 RX12 (Option.some Jvm.ClassFile.FieldType.int) E) {o : Nat} (ho : K o = some (10, 0)) {r : Int32 ⊕ Nat} {w' : Wd} (k : Int32 → Int32 → Int32 → Wd → Option ((Int32 ⊕ Nat) × Wd)) (hk : ∀ (v1_58 : Int32) (v2_58 : Int32) (v3_58 : Int32) (w : Wd) (H : Heap) (locs : List Loc) (ls : Array Slot), HQ E K z w s H locs → lv_has ls 5 [(1, .int v1_58), (2, .int v2_58), (3, .int v3_58), (0, rv E (some o))] → k v1_58 v2_58 v3_58 w = some (r, w') → W p l e ({ frames := 7, cells := 2, slots := 12, locals := 125 } : Room) s m args below meth c H locs 1 6 (vx_MQ below (XI E K z w' r) (XX E K w' r) args s 2 12 (hA E)) (F0 m 120 ls [])) : ∀ (n : Nat) (v1_58 : Int32) (v2_58 : Int32) (v3_58 : Int32) (w : Wd) (H : Heap) (locs : List Loc) (ls : Array Slot), HQ E K z w s H locs → lv_has ls 5 [(1, .int v1_58), (2, .int v2_58), (3, .int v3_58), (0, rv E (some o))] → f_X12_addHoliday_L58 K o k n v1_58 v2_58 v3_58 w = some (r, w') → W p l e ({ frames := 7, cells := 2, slots := 12, locals := 125 } : Room) s m args below meth c H locs 1 6 (vx_MQ below (XI E K z w' r) (XX E K w' r) args s 2 12 (hA E)) (F0 m 58 ls []) := by
  obtain ⟨hx, hb, hml, hown, hts, hKs, hT, hb0, hlocks, hret⟩ := id C
  intro n
  induction n with
  | zero =>
    intro v1_58 v2_58 v3_58 w H locs ls hH hl hf
    cases hf
  | succ n ih =>
    intro v1_58 v2_58 v3_58 w H locs ls hH hl hf
    rw [f_X12_addHoliday_L58] at hf
    refine lv_iload_n hx hb dX12_addHoliday_58 rfl (lv_at hl 2 rfl) ?_
    refine hl_aload_n hx hb dX12_addHoliday_59 rfl (lv_at hl 3 rfl) ?_
    refine g12_5 hx hb hts hown hKs hH rfl ho m2_214 dX12_addHoliday_60 ?_
    obtain ⟨a14, ha14, hf⟩ := bnd hf
    replace ha14 := chk_some ha14
    refine gn10_0 hx hb hts hown hKs hH ha14.1 ha14.2 m2_115 dX12_addHoliday_63 ?_
    refine lv_iconst (v := 3) hx hb dX12_addHoliday_66 (by decide) ?_
    obtain ⟨a15, ha15, hf⟩ := bnd hf
    replace ha15 := chk_some ha15
    obtain ⟨q16, hq16, hf⟩ := bnd hf
    refine hcV_i hx hb hml hown hts hKs hT hb0 hH (As := [.int 3]) (rest := [.int v3_58]) (k_X9_size l E K H.size a15 3 w ha15.2 hq16) (gV m3_21 m3_22 m3_23 m1_2 m3_24) hd_X9_size ⟨Nat.le_of_ble_eq_true rfl, Nat.le_of_ble_eq_true rfl, rfl, rfl⟩ ha15.1 ha15.2 rfl rfl rfl hl.1 rfl (rcI rc0) rfl dX12_addHoliday_67 ⟨Nat.le_of_ble_eq_true rfl, Nat.le_of_ble_eq_true rfl⟩ (fun H locs hH => ?_)
    refine lv_icmp_ge (tgt := 120) hx hb dX12_addHoliday_70 (by decide) (fun c17 => ?_) (fun c17 => ?_)
    · replace hf := (if_pos c17).symm.trans hf
      exact hk v1_58 v2_58 v3_58 _ _ _ _ hH (lv_sub hl [0, 1, 2, 3] rfl) hf
    · replace hf := (if_neg c17).symm.trans hf
      refine hl_aload_n hx hb dX12_addHoliday_73 rfl (lv_at hl 3 rfl) ?_
      refine g12_5 hx hb hts hown hKs hH rfl ho m2_214 dX12_addHoliday_74 ?_
      obtain ⟨a18, ha18, hf⟩ := bnd hf
      replace ha18 := chk_some ha18
      refine gn10_5 hx hb hts hown hKs hH ha18.1 ha18.2 m2_127 dX12_addHoliday_77 ?_
      refine lv_iload_n hx hb dX12_addHoliday_80 rfl (lv_at hl 2 rfl) ?_
      obtain ⟨a19, ha19, hf⟩ := bnd hf
      replace ha19 := cha_some ha19
      obtain ⟨j20, hj20, hf⟩ := bnd hf
      refine hw_aald27 hx hb hKs hH ha19.1 ha19.2 hj20 dX12_addHoliday_81 ?_
      refine hl_astore (i := 4) (lv' := [(4, rv E (aR q16.2 a19.1 j20)), (1, .int v1_58), (2, .int v2_58), (3, .int v3_58), (0, rv E (some o))]) hx hb dX12_addHoliday_82 hl (by decide) rfl (fun ls hl => ?_)
      refine hl_aload hx hb dX12_addHoliday_84 (lv_at hl 0 rfl) ?_
      obtain ⟨a21, ha21, hf⟩ := bnd hf
      replace ha21 := chk_some ha21
      refine gn7_0 hx hb hts hown hKs hH ha21.1 ha21.2 m2_65 dX12_addHoliday_86 ?_
      refine lv_iconst (v := 1) hx hb dX12_addHoliday_89 (by decide) ?_
      refine lv_icmp_ne (tgt := 114) hx hb dX12_addHoliday_90 (by decide) (fun c22 => ?_) (fun c22 => ?_)
      · replace hf := (if_neg c22).symm.trans hf
        refine lv_iinc (v := (v3_58 + 1)) (lv' := [(3, .int ((v3_58 + 1))), (4, rv E (aR q16.2 a19.1 j20)), (1, .int v1_58), (2, .int v2_58), (0, rv E (some o))]) hx hb dX12_addHoliday_114 hl (k := 3) rfl rfl (by decide) rfl (fun ls hl => ?_)
        refine lv_goto (tgt := 58) hx hb dX12_addHoliday_117 (by decide) ?_
        exact ih v1_58 v2_58 (v3_58 + 1) _ _ _ _ hH (lv_sub hl [2, 3, 0, 4] rfl) hf
      · replace hf := (if_pos c22).symm.trans hf
        refine hl_aload hx hb dX12_addHoliday_93 (lv_at hl 0 rfl) ?_
        refine gn7_2 hx hb hts hown hKs hH ha21.1 ha21.2 m2_70 dX12_addHoliday_95 ?_
        refine lv_iload_n hx hb dX12_addHoliday_98 rfl (lv_at hl 1 rfl) ?_
        refine lv_icmp_ne (tgt := 114) hx hb dX12_addHoliday_99 (by decide) (fun c23 => ?_) (fun c23 => ?_)
        · replace hf := (if_neg c23).symm.trans hf
          refine lv_iinc (v := (v3_58 + 1)) (lv' := [(3, .int ((v3_58 + 1))), (4, rv E (aR q16.2 a19.1 j20)), (1, .int v1_58), (2, .int v2_58), (0, rv E (some o))]) hx hb dX12_addHoliday_114 hl (k := 3) rfl rfl (by decide) rfl (fun ls hl => ?_)
          refine lv_goto (tgt := 58) hx hb dX12_addHoliday_117 (by decide) ?_
          exact ih v1_58 v2_58 (v3_58 + 1) _ _ _ _ hH (lv_sub hl [2, 3, 0, 4] rfl) hf
        · replace hf := (if_pos c23).symm.trans hf
          refine hl_aload_n hx hb dX12_addHoliday_102 rfl (lv_at hl 4 rfl) ?_
          refine g12_5 hx hb hts hown hKs hH rfl ho m2_214 dX12_addHoliday_103 ?_
          refine lv_iload_n hx hb dX12_addHoliday_106 rfl (lv_at hl 3 rfl) ?_
          refine lv_iconst (v := 3) hx hb dX12_addHoliday_107 (by decide) ?_
          obtain ⟨q24, hq24, hf⟩ := bnd hf
          refine hcV_v hx hb hml hown hts hKs hT hb0 hH (As := [.int v3_58, .int 3]) (rest := []) (k_X10_takeAway l E K H.size a18 v3_58 3 q16.2 ha18.2 hq24) (gV m6_138 m6_139 m6_140 m1_12 m6_141) hd_X10_takeAway ⟨Nat.le_of_ble_eq_true rfl, Nat.le_of_ble_eq_true rfl, rfl, rfl⟩ ha18.1 ha18.2 rfl rfl rfl hl.1 rfl rc0 rfl dX12_addHoliday_108 ⟨Nat.le_of_ble_eq_true rfl, Nat.le_of_ble_eq_true rfl⟩ (fun H locs hH => ?_)
          refine lv_iinc (v := (v2_58 + 1)) (lv' := [(2, .int ((v2_58 + 1))), (4, rv E (aR q16.2 a19.1 j20)), (1, .int v1_58), (3, .int v3_58), (0, rv E (some o))]) hx hb dX12_addHoliday_111 hl (k := 2) rfl rfl (by decide) rfl (fun ls hl => ?_)
          refine lv_iinc (v := (v3_58 + 1)) (lv' := [(3, .int ((v3_58 + 1))), (2, .int ((v2_58 + 1))), (4, rv E (aR q16.2 a19.1 j20)), (1, .int v1_58), (0, rv E (some o))]) hx hb dX12_addHoliday_114 hl (k := 3) rfl rfl (by decide) rfl (fun ls hl => ?_)
          refine lv_goto (tgt := 58) hx hb dX12_addHoliday_117 (by decide) ?_
          exact ih v1_58 (v2_58 + 1) (v3_58 + 1) _ _ _ _ hH (lv_sub hl [3, 1, 0, 4] rfl) hf
set_option maxHeartbeats 4000000 in
set_option maxRecDepth 100000 in
theorem k_X12_addHoliday (l : Launch) (hls : l.stackTraces = false) (E : Ev) (K : Kd) (z : Nat) (o : Nat) (a_1 : Int32) (w : Wd) (ho : K o = some (10, 0)) {r : Int32 ⊕ Nat} {w' : Wd} (hf : f_X12_addHoliday K o a_1 w = some (r, w')) : vx_Met l yX12_addHoliday (Cond.code yX12_addHoliday cX12_addHoliday 5 (Option.some Jvm.ClassFile.FieldType.int) :: bt) ({ frames := 7, cells := 2, slots := 12, locals := 125 } : Room) (va_Pc [rv E (some o), .int a_1] (HB E K w z)) (XI E K z w' r) (XX E K w' r) 2 12 (hA E) := by
  refine vx_ofW (cc := cX12_addHoliday) (maxL := 5) (ret := (Option.some Jvm.ClassFile.FieldType.int)) (by decide) rfl ?_
  intro p e s m args below meth c s₁ B hml hout hv
  obtain ⟨rfl, hz, hP, hKs, hT, hb0⟩ := hv
  have C : CX p l e s m _ meth c cX12_addHoliday 5 RX12 (Option.some Jvm.ClassFile.FieldType.int) E := ⟨B.exec, B.bytes, hml, findClass_of_methodNamed B.named, fun w h => atoms_spec (ws := Cond.code yX12_addHoliday cX12_addHoliday 5 (Option.some Jvm.ClassFile.FieldType.int) :: bt) B.pre w (List.mem_cons_of_mem _ h), hKs, hT, by rw [hz]; exact hb0, B.notSynchronized, B.returns⟩
  have hH : HQ E K z w s s.heap [] := ⟨hP, va_S.rf, hz⟩
  obtain ⟨hx, hb, hml, hown, hts, hKs, hT, hb0, hlocks, hret⟩ := id C
  have hl := lv_entry [rv E (some o), .int a_1] (n := 5) (by simp [lg_len_nil, lg_len_i, lg_len_j, lg_len_q, lg_len_f, lg_len_d, lg_len_r])
  rw [lg_entry_eq]
  generalize (lg_sl [rv E (some o), .int a_1] ++ List.replicate (5 - (lg_sl [rv E (some o), .int a_1]).length) Slot.unset).toArray = ls at hl ⊢
  replace hl : lv_has ls 5 [(0, rv E (some o)), (1, .int a_1)] := by simpa only [lv_args, cat_q, cat_i, cat_j, reduceIte, Nat.reduceEqDiff, Nat.reduceAdd, Nat.zero_add] using hl
  generalize s.heap = H at hH ⊢
  unfold f_X12_addHoliday at hf
  refine hl_aload_n hx hb dX12_addHoliday_0 rfl (lv_at hl 0 rfl) ?_
  refine lv_iload_n hx hb dX12_addHoliday_1 rfl (lv_at hl 1 rfl) ?_
  obtain ⟨q1, hq1, hf⟩ := bnd hf
  refine hxV_v hx hb hml hown hts hKs hT hb0 hH (As := [.int a_1]) (rest := []) (k_X12_requireComingDay l hls E K H.size o a_1 w ho hq1) (gV m6_157 m6_159 ms_31 m1_1 m6_160) hd_X12_requireComingDay ⟨Nat.le_of_ble_eq_true rfl, Nat.le_of_ble_eq_true rfl, rfl, rfl⟩ rfl ho rfl rfl rfl hl.1 rfl rc0 rfl dX12_addHoliday_2 ⟨Nat.le_of_ble_eq_true rfl, Nat.le_of_ble_eq_true rfl⟩ ⟨Nat.le_of_ble_eq_true rfl, Nat.le_of_ble_eq_true rfl⟩ hout hlocks (fun x hx9 => (fun h9 => ⟨(congrArg Prod.fst h9).symm, (congrArg Prod.snd h9).symm⟩) (Option.some.inj ((xk_inr hx9).symm.trans hf))) (fun v2 hv2 H locs hH => ?_)
  replace hf := (xk_inl hv2).symm.trans hf
  refine hl_aload_n hx hb dX12_addHoliday_5 rfl (lv_at hl 0 rfl) ?_
  refine g12_5 hx hb hts hown hKs hH rfl ho m2_214 dX12_addHoliday_6 ?_
  refine lv_iload_n hx hb dX12_addHoliday_9 rfl (lv_at hl 1 rfl) ?_
  obtain ⟨a3, ha3, hf⟩ := bnd hf
  replace ha3 := chk_some ha3
  obtain ⟨q4, hq4, hf⟩ := bnd hf
  refine hcV_i hx hb hml hown hts hKs hT hb0 hH (As := [.int a_1]) (rest := []) (k_X10_works l E K H.size a3 a_1 q1.2 ha3.2 hq4) (gV m6_170 m3_149 m3_150 m1_12 m3_151) hd_X10_works ⟨Nat.le_of_ble_eq_true rfl, Nat.le_of_ble_eq_true rfl, rfl, rfl⟩ ha3.1 ha3.2 rfl rfl rfl hl.1 rfl rc0 rfl dX12_addHoliday_10 ⟨Nat.le_of_ble_eq_true rfl, Nat.le_of_ble_eq_true rfl⟩ (fun H locs hH => ?_)
  refine lv_if_eq (tgt := 31) hx hb dX12_addHoliday_13 (by decide) (fun c5 => ?_) (fun c5 => ?_)
  · replace hf := (if_pos c5).symm.trans hf
    exact hx_throw hx hb hls (code := 3) hml hl.1 hown hts hKs hT hb0 hH (by decide) rfl m4_24 m1_32 hat_RX12_333 dX12_addHoliday_31 dX12_addHoliday_34 dX12_addHoliday_35 dX12_addHoliday_38 hout (Nat.le_of_ble_eq_true rfl) rc0 (Nat.le_of_ble_eq_true rfl) (Nat.le_of_ble_eq_true rfl) (Nat.le_of_ble_eq_true rfl) hlocks hf (Nat.le_of_ble_eq_true rfl) (Nat.le_of_ble_eq_true rfl)
  · replace hf := (if_neg c5).symm.trans hf
    refine hl_aload_n hx hb dX12_addHoliday_16 rfl (lv_at hl 0 rfl) ?_
    refine g12_5 hx hb hts hown hKs hH rfl ho m2_214 dX12_addHoliday_17 ?_
    obtain ⟨a6, ha6, hf⟩ := bnd hf
    replace ha6 := chk_some ha6
    refine gn10_2 hx hb hts hown hKs hH ha6.1 ha6.2 m2_120 dX12_addHoliday_20 ?_
    obtain ⟨a7, ha7, hf⟩ := bnd hf
    replace ha7 := chk_some ha7
    refine gn2_1 hx hb hts hown hKs hH ha7.1 ha7.2 m1_61 dX12_addHoliday_23 ?_
    refine lv_bipush (v := 20) hx hb dX12_addHoliday_26 (by decide) ?_
    refine lv_icmp_lt (tgt := 39) hx hb dX12_addHoliday_28 (by decide) (fun c8 => ?_) (fun c8 => ?_)
    · replace hf := (if_pos c8).symm.trans hf
      refine hl_aload_n hx hb dX12_addHoliday_39 rfl (lv_at hl 0 rfl) ?_
      obtain ⟨q9, hq9, hf⟩ := bnd hf
      refine hcV_v hx hb hml hown hts hKs hT hb0 hH (As := []) (rest := []) (k_X12_remember l E K H.size o q4.2 ho hq9) (gV m3_119 m3_121 ms_2 m1_1 m3_122) hd_X12_remember ⟨Nat.le_of_ble_eq_true rfl, Nat.le_of_ble_eq_true rfl, rfl, rfl⟩ rfl ho rfl rfl rfl hl.1 rfl rc0 rfl dX12_addHoliday_40 ⟨Nat.le_of_ble_eq_true rfl, Nat.le_of_ble_eq_true rfl⟩ (fun H locs hH => ?_)
      refine hl_aload_n hx hb dX12_addHoliday_43 rfl (lv_at hl 0 rfl) ?_
      refine g12_5 hx hb hts hown hKs hH rfl ho m2_214 dX12_addHoliday_44 ?_
      obtain ⟨a10, ha10, hf⟩ := bnd hf
      replace ha10 := chk_some ha10
      refine gn10_2 hx hb hts hown hKs hH ha10.1 ha10.2 m2_120 dX12_addHoliday_47 ?_
      refine lv_iload_n hx hb dX12_addHoliday_50 rfl (lv_at hl 1 rfl) ?_
      obtain ⟨a11, ha11, hf⟩ := bnd hf
      replace ha11 := chk_some ha11
      obtain ⟨q12, hq12, hf⟩ := bnd hf
      refine hcV_v hx hb hml hown hts hKs hT hb0 hH (As := [.int a_1]) (rest := []) (k_X2_add l E K H.size a11 a_1 q9 ha11.2 hq12) (gV m6_171 m4_199 m4_200 m1_3 m4_201) hd_X2_add ⟨Nat.le_of_ble_eq_true rfl, Nat.le_of_ble_eq_true rfl, rfl, rfl⟩ ha11.1 ha11.2 rfl rfl rfl hl.1 rfl rc0 rfl dX12_addHoliday_51 ⟨Nat.le_of_ble_eq_true rfl, Nat.le_of_ble_eq_true rfl⟩ (fun H locs hH => ?_)
      refine lv_iconst (v := 0) hx hb dX12_addHoliday_54 (by decide) ?_
      refine lv_istore_n (i := 2) (lv' := [(2, .int 0), (0, rv E (some o)), (1, .int a_1)]) hx hb dX12_addHoliday_55 rfl hl (by decide) rfl (fun ls hl => ?_)
      refine lv_iconst (v := 0) hx hb dX12_addHoliday_56 (by decide) ?_
      refine lv_istore_n (i := 3) (lv' := [(3, .int 0), (2, .int 0), (0, rv E (some o)), (1, .int a_1)]) hx hb dX12_addHoliday_57 rfl hl (by decide) rfl (fun ls hl => ?_)
      refine l_X12_addHoliday_L58  C ho _ (fun v1_58 v2_58 v3_58 w13 H locs ls hH hl hf => ?_) fu a_1 0 0 q12 _ _ _ hH (lv_sub hl [3, 1, 0, 2] rfl) hf
      refine lv_iload_n hx hb dX12_addHoliday_120 rfl (lv_at hl 1 rfl) ?_
      exact hx_iret hx hb (Nat.le_of_ble_eq_true rfl) (Nat.le_of_ble_eq_true rfl) hret hf hH hlocks dX12_addHoliday_121
    · replace hf := (if_neg c8).symm.trans hf
      exact hx_throw hx hb hls (code := 3) hml hl.1 hown hts hKs hT hb0 hH (by decide) rfl m4_24 m1_32 hat_RX12_333 dX12_addHoliday_31 dX12_addHoliday_34 dX12_addHoliday_35 dX12_addHoliday_38 hout (Nat.le_of_ble_eq_true rfl) rc0 (Nat.le_of_ble_eq_true rfl) (Nat.le_of_ble_eq_true rfl) (Nat.le_of_ble_eq_true rfl) hlocks hf (Nat.le_of_ble_eq_true rfl) (Nat.le_of_ble_eq_true rfl)

theorem dX12_addBar_0 : decode cX12_addBar 0 = .ok (.aload_n 0, 1) := by decide +kernel
theorem dX12_addBar_1 : decode cX12_addBar 1 = .ok (.iconst 1, 1) := by decide +kernel
theorem dX12_addBar_2 : decode cX12_addBar 2 = .ok (.iload_n 1, 1) := by decide +kernel
theorem dX12_addBar_3 : decode cX12_addBar 3 = .ok (.invokevirtual 175, 3) := by decide +kernel
theorem dX12_addBar_6 : decode cX12_addBar 6 = .ok (.aload_n 0, 1) := by decide +kernel
theorem dX12_addBar_7 : decode cX12_addBar 7 = .ok (.iconst 3, 1) := by decide +kernel
theorem dX12_addBar_8 : decode cX12_addBar 8 = .ok (.iload_n 2, 1) := by decide +kernel
theorem dX12_addBar_9 : decode cX12_addBar 9 = .ok (.invokevirtual 175, 3) := by decide +kernel
theorem dX12_addBar_12 : decode cX12_addBar 12 = .ok (.aload_n 0, 1) := by decide +kernel
theorem dX12_addBar_13 : decode cX12_addBar 13 = .ok (.getfield 35, 3) := by decide +kernel
theorem dX12_addBar_16 : decode cX12_addBar 16 = .ok (.getfield 359, 3) := by decide +kernel
theorem dX12_addBar_19 : decode cX12_addBar 19 = .ok (.iload_n 2, 1) := by decide +kernel
theorem dX12_addBar_20 : decode cX12_addBar 20 = .ok (.iaload, 1) := by decide +kernel
theorem dX12_addBar_21 : decode cX12_addBar 21 = .ok (.iload_n 1, 1) := by decide +kernel
theorem dX12_addBar_22 : decode cX12_addBar 22 = .ok (.invokestatic 203, 3) := by decide +kernel
theorem dX12_addBar_25 : decode cX12_addBar 25 = .ok (.ifCond .eq 11, 3) := by decide +kernel
theorem dX12_addBar_28 : decode cX12_addBar 28 = .ok (.new 331, 3) := by decide +kernel
theorem dX12_addBar_31 : decode cX12_addBar 31 = .ok (.dup, 1) := by decide +kernel
theorem dX12_addBar_32 : decode cX12_addBar 32 = .ok (.invokespecial 333, 3) := by decide +kernel
theorem dX12_addBar_35 : decode cX12_addBar 35 = .ok (.athrow, 1) := by decide +kernel
theorem dX12_addBar_36 : decode cX12_addBar 36 = .ok (.aload_n 0, 1) := by decide +kernel
theorem dX12_addBar_37 : decode cX12_addBar 37 = .ok (.invokevirtual 325, 3) := by decide +kernel
theorem dX12_addBar_40 : decode cX12_addBar 40 = .ok (.aload_n 0, 1) := by decide +kernel
theorem dX12_addBar_41 : decode cX12_addBar 41 = .ok (.getfield 35, 3) := by decide +kernel
theorem dX12_addBar_44 : decode cX12_addBar 44 = .ok (.getfield 359, 3) := by decide +kernel
theorem dX12_addBar_47 : decode cX12_addBar 47 = .ok (.iload_n 2, 1) := by decide +kernel
theorem dX12_addBar_48 : decode cX12_addBar 48 = .ok (.dup2, 1) := by decide +kernel
theorem dX12_addBar_49 : decode cX12_addBar 49 = .ok (.iaload, 1) := by decide +kernel
theorem dX12_addBar_50 : decode cX12_addBar 50 = .ok (.iconst 1, 1) := by decide +kernel
theorem dX12_addBar_51 : decode cX12_addBar 51 = .ok (.iload_n 1, 1) := by decide +kernel
theorem dX12_addBar_52 : decode cX12_addBar 52 = .ok (.ishl, 1) := by decide +kernel
theorem dX12_addBar_53 : decode cX12_addBar 53 = .ok (.ior, 1) := by decide +kernel
theorem dX12_addBar_54 : decode cX12_addBar 54 = .ok (.iastore, 1) := by decide +kernel
theorem dX12_addBar_55 : decode cX12_addBar 55 = .ok (.aload_n 0, 1) := by decide +kernel
theorem dX12_addBar_56 : decode cX12_addBar 56 = .ok (.getfield 35, 3) := by decide +kernel
theorem dX12_addBar_59 : decode cX12_addBar 59 = .ok (.getfield 213, 3) := by decide +kernel
theorem dX12_addBar_62 : decode cX12_addBar 62 = .ok (.iload_n 2, 1) := by decide +kernel
theorem dX12_addBar_63 : decode cX12_addBar 63 = .ok (.aaload, 1) := by decide +kernel
theorem dX12_addBar_64 : decode cX12_addBar 64 = .ok (.astore_n 3, 1) := by decide +kernel
theorem dX12_addBar_65 : decode cX12_addBar 65 = .ok (.aload_n 3, 1) := by decide +kernel
theorem dX12_addBar_66 : decode cX12_addBar 66 = .ok (.getfield 236, 3) := by decide +kernel
theorem dX12_addBar_69 : decode cX12_addBar 69 = .ok (.iconst 1, 1) := by decide +kernel
theorem dX12_addBar_70 : decode cX12_addBar 70 = .ok (.if_icmp .ne 15, 3) := by decide +kernel
theorem dX12_addBar_73 : decode cX12_addBar 73 = .ok (.aload_n 3, 1) := by decide +kernel
theorem dX12_addBar_74 : decode cX12_addBar 74 = .ok (.getfield 263, 3) := by decide +kernel
theorem dX12_addBar_77 : decode cX12_addBar 77 = .ok (.iload_n 1, 1) := by decide +kernel
theorem dX12_addBar_78 : decode cX12_addBar 78 = .ok (.if_icmp .ne 7, 3) := by decide +kernel
theorem dX12_addBar_81 : decode cX12_addBar 81 = .ok (.iconst 1, 1) := by decide +kernel
theorem dX12_addBar_82 : decode cX12_addBar 82 = .ok (.goto 4, 3) := by decide +kernel
theorem dX12_addBar_85 : decode cX12_addBar 85 = .ok (.iconst 0, 1) := by decide +kernel
theorem dX12_addBar_86 : decode cX12_addBar 86 = .ok (.istore 4, 2) := by decide +kernel
theorem dX12_addBar_88 : decode cX12_addBar 88 = .ok (.iload 4, 2) := by decide +kernel
theorem dX12_addBar_90 : decode cX12_addBar 90 = .ok (.ifCond .eq 12, 3) := by decide +kernel
theorem dX12_addBar_93 : decode cX12_addBar 93 = .ok (.aload_n 0, 1) := by decide +kernel
theorem dX12_addBar_94 : decode cX12_addBar 94 = .ok (.getfield 35, 3) := by decide +kernel
theorem dX12_addBar_97 : decode cX12_addBar 97 = .ok (.iload_n 2, 1) := by decide +kernel
theorem dX12_addBar_98 : decode cX12_addBar 98 = .ok (.iconst 1, 1) := by decide +kernel
theorem dX12_addBar_99 : decode cX12_addBar 99 = .ok (.invokevirtual 345, 3) := by decide +kernel
theorem dX12_addBar_102 : decode cX12_addBar 102 = .ok (.iload 4, 2) := by decide +kernel
theorem dX12_addBar_104 : decode cX12_addBar 104 = .ok (.ireturn, 1) := by decide +kernel
theorem hd_X12_addBar : yX12_addBar.cls = RX12 ∧ yX12_addBar.cls ≠ "java/lang/invoke/MethodHandle" ∧ yX12_addBar.cls ≠ "java/lang/invoke/VarHandle" ∧ (parseMethodDescriptor yX12_addBar.desc).map (fun d => d.parameters.length) = some 2 := by decide +kernel
theorem hs_X12_addBar : yX12_addBar.cls ≠ "java/lang/invoke/MethodHandle" ∧ yX12_addBar.cls ≠ "java/lang/invoke/VarHandle" ∧ (parseMethodDescriptor yX12_addBar.desc).map (fun d => d.parameters.length) = some 2 := by decide +kernel
set_option maxHeartbeats 4000000 in
set_option maxRecDepth 100000 in
theorem k_X12_addBar (l : Launch) (hls : l.stackTraces = false) (E : Ev) (K : Kd) (z : Nat) (o : Nat) (a_1 : Int32) (a_2 : Int32) (w : Wd) (ho : K o = some (10, 0)) {r : Bool ⊕ Nat} {w' : Wd} (hf : f_X12_addBar K o a_1 a_2 w = some (r, w')) : vx_Met l yX12_addBar (Cond.code yX12_addBar cX12_addBar 5 (Option.some Jvm.ClassFile.FieldType.boolean) :: bt) ({ frames := 7, cells := 3, slots := 18, locals := 125 } : Room) (va_Pc [rv E (some o), .int a_1, .int a_2] (HB E K w z)) (XZ E K z w' r) (XX E K w' r) 3 18 (hA E) := by
  refine vx_ofW (cc := cX12_addBar) (maxL := 5) (ret := (Option.some Jvm.ClassFile.FieldType.boolean)) (by decide) rfl ?_
  intro p e s m args below meth c s₁ B hml hout hv
  obtain ⟨rfl, hz, hP, hKs, hT, hb0⟩ := hv
  have C : CX p l e s m _ meth c cX12_addBar 5 RX12 (Option.some Jvm.ClassFile.FieldType.boolean) E := ⟨B.exec, B.bytes, hml, findClass_of_methodNamed B.named, fun w h => atoms_spec (ws := Cond.code yX12_addBar cX12_addBar 5 (Option.some Jvm.ClassFile.FieldType.boolean) :: bt) B.pre w (List.mem_cons_of_mem _ h), hKs, hT, by rw [hz]; exact hb0, B.notSynchronized, B.returns⟩
  have hH : HQ E K z w s s.heap [] := ⟨hP, va_S.rf, hz⟩
  obtain ⟨hx, hb, hml, hown, hts, hKs, hT, hb0, hlocks, hret⟩ := id C
  have hl := lv_entry [rv E (some o), .int a_1, .int a_2] (n := 5) (by simp [lg_len_nil, lg_len_i, lg_len_j, lg_len_q, lg_len_f, lg_len_d, lg_len_r])
  rw [lg_entry_eq]
  generalize (lg_sl [rv E (some o), .int a_1, .int a_2] ++ List.replicate (5 - (lg_sl [rv E (some o), .int a_1, .int a_2]).length) Slot.unset).toArray = ls at hl ⊢
  replace hl : lv_has ls 5 [(0, rv E (some o)), (1, .int a_1), (2, .int a_2)] := by simpa only [lv_args, cat_q, cat_i, cat_j, reduceIte, Nat.reduceEqDiff, Nat.reduceAdd, Nat.zero_add] using hl
  generalize s.heap = H at hH ⊢
  unfold f_X12_addBar at hf
  refine hl_aload_n hx hb dX12_addBar_0 rfl (lv_at hl 0 rfl) ?_
  refine lv_iconst (v := 1) hx hb dX12_addBar_1 (by decide) ?_
  refine lv_iload_n hx hb dX12_addBar_2 rfl (lv_at hl 1 rfl) ?_
  obtain ⟨q1, hq1, hf⟩ := bnd hf
  refine hxV_v hx hb hml hown hts hKs hT hb0 hH (As := [.int 1, .int a_1]) (rest := []) (k_X12_requireExisting l hls E K H.size o 1 a_1 w ho hq1) (gV m6_91 m6_93 ms_29 m1_1 m6_94) hd_X12_requireExisting ⟨Nat.le_of_ble_eq_true rfl, Nat.le_of_ble_eq_true rfl, rfl, rfl⟩ rfl ho rfl rfl rfl hl.1 rfl rc0 rfl dX12_addBar_3 ⟨Nat.le_of_ble_eq_true rfl, Nat.le_of_ble_eq_true rfl⟩ ⟨Nat.le_of_ble_eq_true rfl, Nat.le_of_ble_eq_true rfl⟩ hout hlocks (fun x hx9 => (fun h9 => ⟨(congrArg Prod.fst h9).symm, (congrArg Prod.snd h9).symm⟩) (Option.some.inj ((xk_inr hx9).symm.trans hf))) (fun v2 hv2 H locs hH => ?_)
  replace hf := (xk_inl hv2).symm.trans hf
  refine hl_aload_n hx hb dX12_addBar_6 rfl (lv_at hl 0 rfl) ?_
  refine lv_iconst (v := 3) hx hb dX12_addBar_7 (by decide) ?_
  refine lv_iload_n hx hb dX12_addBar_8 rfl (lv_at hl 2 rfl) ?_
  obtain ⟨q3, hq3, hf⟩ := bnd hf
  refine hxV_v hx hb hml hown hts hKs hT hb0 hH (As := [.int 3, .int a_2]) (rest := []) (k_X12_requireExisting l hls E K H.size o 3 a_2 q1.2 ho hq3) (gV m6_91 m6_93 ms_29 m1_1 m6_94) hd_X12_requireExisting ⟨Nat.le_of_ble_eq_true rfl, Nat.le_of_ble_eq_true rfl, rfl, rfl⟩ rfl ho rfl rfl rfl hl.1 rfl rc0 rfl dX12_addBar_9 ⟨Nat.le_of_ble_eq_true rfl, Nat.le_of_ble_eq_true rfl⟩ ⟨Nat.le_of_ble_eq_true rfl, Nat.le_of_ble_eq_true rfl⟩ hout hlocks (fun x hx9 => (fun h9 => ⟨(congrArg Prod.fst h9).symm, (congrArg Prod.snd h9).symm⟩) (Option.some.inj ((xk_inr hx9).symm.trans hf))) (fun v4 hv4 H locs hH => ?_)
  replace hf := (xk_inl hv4).symm.trans hf
  refine hl_aload_n hx hb dX12_addBar_12 rfl (lv_at hl 0 rfl) ?_
  refine g12_5 hx hb hts hown hKs hH rfl ho m2_214 dX12_addBar_13 ?_
  obtain ⟨a5, ha5, hf⟩ := bnd hf
  replace ha5 := chk_some ha5
  refine gn10_4 hx hb hts hown hKs hH ha5.1 ha5.2 m2_124 dX12_addBar_16 ?_
  refine lv_iload_n hx hb dX12_addBar_19 rfl (lv_at hl 2 rfl) ?_
  obtain ⟨a6, ha6, hf⟩ := bnd hf
  replace ha6 := cha_some ha6
  obtain ⟨j7, hj7, hf⟩ := bnd hf
  refine hw_iald hx hb hKs hH ha6.1 ha6.2 hj7 dX12_addBar_20 ?_
  refine lv_iload_n hx hb dX12_addBar_21 rfl (lv_at hl 1 rfl) ?_
  obtain ⟨q8, hq8, hf⟩ := bnd hf
  refine hcS_i hx hb hml hown hts hKs hT hb0 hH (As := [.int ((aI q3.2 a6.1 j7)), .int a_1]) (rest := []) (k_X12_has l E K H.size (aI q3.2 a6.1 j7) a_1 q3.2 hq8) (gS m6_162 m3_188 m1_1 m3_189) hs_X12_has ⟨Nat.le_of_ble_eq_true rfl, Nat.le_of_ble_eq_true rfl, rfl, rfl⟩ hl.1 rfl rc0 rfl dX12_addBar_22 ⟨Nat.le_of_ble_eq_true rfl, Nat.le_of_ble_eq_true rfl⟩ (fun H locs hH => ?_)
  refine lv_if_eq (tgt := 36) hx hb dX12_addBar_25 (by decide) (fun c9 => ?_) (fun c9 => ?_)
  · replace hf := (if_pos c9).symm.trans hf
    refine hl_aload_n hx hb dX12_addBar_36 rfl (lv_at hl 0 rfl) ?_
    obtain ⟨q10, hq10, hf⟩ := bnd hf
    refine hcV_v hx hb hml hown hts hKs hT hb0 hH (As := []) (rest := []) (k_X12_remember l E K H.size o q8.2 ho hq10) (gV m3_119 m3_121 ms_2 m1_1 m3_122) hd_X12_remember ⟨Nat.le_of_ble_eq_true rfl, Nat.le_of_ble_eq_true rfl, rfl, rfl⟩ rfl ho rfl rfl rfl hl.1 rfl rc0 rfl dX12_addBar_37 ⟨Nat.le_of_ble_eq_true rfl, Nat.le_of_ble_eq_true rfl⟩ (fun H locs hH => ?_)
    refine hl_aload_n hx hb dX12_addBar_40 rfl (lv_at hl 0 rfl) ?_
    refine g12_5 hx hb hts hown hKs hH rfl ho m2_214 dX12_addBar_41 ?_
    obtain ⟨a11, ha11, hf⟩ := bnd hf
    replace ha11 := chk_some ha11
    refine gn10_4 hx hb hts hown hKs hH ha11.1 ha11.2 m2_124 dX12_addBar_44 ?_
    refine lv_iload_n hx hb dX12_addBar_47 rfl (lv_at hl 2 rfl) ?_
    refine lv_dup2_11 hx hb dX12_addBar_48 rfl rv_cat ?_
    obtain ⟨a12, ha12, hf⟩ := bnd hf
    replace ha12 := cha_some ha12
    obtain ⟨j13, hj13, hf⟩ := bnd hf
    refine hw_iald hx hb hKs hH ha12.1 ha12.2 hj13 dX12_addBar_49 ?_
    refine lv_iconst (v := 1) hx hb dX12_addBar_50 (by decide) ?_
    refine lv_iload_n hx hb dX12_addBar_51 rfl (lv_at hl 1 rfl) ?_
    refine lv_ishl hx hb dX12_addBar_52 ?_
    refine lv_ior hx hb dX12_addBar_53 ?_
    obtain ⟨j14, hj14, hf⟩ := bnd hf
    obtain ⟨w15, hw15, hf⟩ := bnd hf
    replace hw15 := Option.some.inj hw15
    refine hw_iast (x := ((aI q10 a12.1 j13) ||| (1 <<< (a_1 &&& 31)))) hx hb hKs hH ha12.1 ha12.2 hj14 dX12_addBar_54 (fun H locs hH => ?_)
    rw [hw15] at hH
    refine hl_aload_n hx hb dX12_addBar_55 rfl (lv_at hl 0 rfl) ?_
    refine g12_5 hx hb hts hown hKs hH rfl ho m2_214 dX12_addBar_56 ?_
    obtain ⟨a16, ha16, hf⟩ := bnd hf
    replace ha16 := chk_some ha16
    refine gn10_5 hx hb hts hown hKs hH ha16.1 ha16.2 m2_127 dX12_addBar_59 ?_
    refine lv_iload_n hx hb dX12_addBar_62 rfl (lv_at hl 2 rfl) ?_
    obtain ⟨a17, ha17, hf⟩ := bnd hf
    replace ha17 := cha_some ha17
    obtain ⟨j18, hj18, hf⟩ := bnd hf
    refine hw_aald27 hx hb hKs hH ha17.1 ha17.2 hj18 dX12_addBar_63 ?_
    refine hl_astore_n (i := 3) (lv' := [(3, rv E (aR w15 a17.1 j18)), (0, rv E (some o)), (1, .int a_1), (2, .int a_2)]) hx hb dX12_addBar_64 rfl hl (by decide) rfl (fun ls hl => ?_)
    refine hl_aload_n hx hb dX12_addBar_65 rfl (lv_at hl 0 rfl) ?_
    obtain ⟨a19, ha19, hf⟩ := bnd hf
    replace ha19 := chk_some ha19
    refine gn7_0 hx hb hts hown hKs hH ha19.1 ha19.2 m2_65 dX12_addBar_66 ?_
    refine lv_iconst (v := 1) hx hb dX12_addBar_69 (by decide) ?_
    refine lv_icmp_ne (tgt := 85) hx hb dX12_addBar_70 (by decide) (fun c20 => ?_) (fun c20 => ?_)
    · replace hf := (if_neg c20).symm.trans hf
      refine lv_iconst (v := 0) hx hb dX12_addBar_85 (by decide) ?_
      refine lv_istore (i := 4) (lv' := [(4, .int 0), (3, rv E (aR w15 a17.1 j18)), (0, rv E (some o)), (1, .int a_1), (2, .int a_2)]) hx hb dX12_addBar_86 hl (by decide) (by simp [List.filter_cons, cat_q, cat_i, cat_j, imax, imin]) (fun ls hl => ?_)
      refine lv_iload hx hb dX12_addBar_88 (lv_at hl 0 rfl) ?_
      refine lv_if_eq (tgt := 102) hx hb dX12_addBar_90 (by decide) (fun c21 => ?_) (fun c21 => ?_)
      · skip
        refine lv_iload hx hb dX12_addBar_102 (lv_at hl 0 rfl) ?_
        exact hx_zret hx hb (Nat.le_of_ble_eq_true rfl) (Nat.le_of_ble_eq_true rfl) hret rfl hf hH hlocks dX12_addBar_104
      · exact (by revert c21; decide : False).elim
    · replace hf := (if_pos c20).symm.trans hf
      refine hl_aload_n hx hb dX12_addBar_73 rfl (lv_at hl 0 rfl) ?_
      refine gn7_5 hx hb hts hown hKs hH ha19.1 ha19.2 m2_82 dX12_addBar_74 ?_
      refine lv_iload_n hx hb dX12_addBar_77 rfl (lv_at hl 2 rfl) ?_
      refine lv_icmp_ne (tgt := 85) hx hb dX12_addBar_78 (by decide) (fun c22 => ?_) (fun c22 => ?_)
      · replace hf := (if_neg c22).symm.trans hf
        refine lv_iconst (v := 0) hx hb dX12_addBar_85 (by decide) ?_
        refine lv_istore (i := 4) (lv' := [(4, .int 0), (3, rv E (aR w15 a17.1 j18)), (0, rv E (some o)), (1, .int a_1), (2, .int a_2)]) hx hb dX12_addBar_86 hl (by decide) (by simp [List.filter_cons, cat_q, cat_i, cat_j, imax, imin]) (fun ls hl => ?_)
        refine lv_iload hx hb dX12_addBar_88 (lv_at hl 0 rfl) ?_
        refine lv_if_eq (tgt := 102) hx hb dX12_addBar_90 (by decide) (fun c23 => ?_) (fun c23 => ?_)
        · skip
          refine lv_iload hx hb dX12_addBar_102 (lv_at hl 0 rfl) ?_
          exact hx_zret hx hb (Nat.le_of_ble_eq_true rfl) (Nat.le_of_ble_eq_true rfl) hret rfl hf hH hlocks dX12_addBar_104
        · exact (by revert c23; decide : False).elim
      · replace hf := (if_pos c22).symm.trans hf
        refine lv_iconst (v := 1) hx hb dX12_addBar_81 (by decide) ?_
        refine lv_goto (tgt := 86) hx hb dX12_addBar_82 (by decide) ?_
        refine lv_istore (i := 4) (lv' := [(4, .int 1), (3, rv E (aR w15 a17.1 j18)), (0, rv E (some o)), (1, .int a_1), (2, .int a_2)]) hx hb dX12_addBar_86 hl (by decide) (by simp [List.filter_cons, cat_q, cat_i, cat_j, imax, imin]) (fun ls hl => ?_)
        refine lv_iload hx hb dX12_addBar_88 (lv_at hl 0 rfl) ?_
        refine lv_if_eq (tgt := 102) hx hb dX12_addBar_90 (by decide) (fun c24 => ?_) (fun c24 => ?_)
        · exact (by revert c24; decide : False).elim
        · skip
          refine hl_aload_n hx hb dX12_addBar_93 rfl (lv_at hl 2 rfl) ?_
          refine g12_5 hx hb hts hown hKs hH rfl ho m2_214 dX12_addBar_94 ?_
          refine lv_iload_n hx hb dX12_addBar_97 rfl (lv_at hl 4 rfl) ?_
          refine lv_iconst (v := 1) hx hb dX12_addBar_98 (by decide) ?_
          obtain ⟨q25, hq25, hf⟩ := bnd hf
          refine hcV_v hx hb hml hown hts hKs hT hb0 hH (As := [.int a_2, .int 1]) (rest := []) (k_X10_takeAway l E K H.size a16 a_2 1 w15 ha16.2 hq25) (gV m6_138 m6_139 m6_140 m1_12 m6_141) hd_X10_takeAway ⟨Nat.le_of_ble_eq_true rfl, Nat.le_of_ble_eq_true rfl, rfl, rfl⟩ ha16.1 ha16.2 rfl rfl rfl hl.1 rfl rc0 rfl dX12_addBar_99 ⟨Nat.le_of_ble_eq_true rfl, Nat.le_of_ble_eq_true rfl⟩ (fun H locs hH => ?_)
          refine lv_iload hx hb dX12_addBar_102 (lv_at hl 0 rfl) ?_
          exact hx_zret hx hb (Nat.le_of_ble_eq_true rfl) (Nat.le_of_ble_eq_true rfl) hret rfl hf hH hlocks dX12_addBar_104
  · replace hf := (if_neg c9).symm.trans hf
    exact hx_throw hx hb hls (code := 3) hml hl.1 hown hts hKs hT hb0 hH (by decide) rfl m4_24 m1_32 hat_RX12_333 dX12_addBar_28 dX12_addBar_31 dX12_addBar_32 dX12_addBar_35 hout (Nat.le_of_ble_eq_true rfl) rc0 (Nat.le_of_ble_eq_true rfl) (Nat.le_of_ble_eq_true rfl) (Nat.le_of_ble_eq_true rfl) hlocks hf (Nat.le_of_ble_eq_true rfl) (Nat.le_of_ble_eq_true rfl)

theorem dX5_takesHoliday_0 : decode cX5_takesHoliday 0 = .ok (.aload_n 0, 1) := by decide +kernel
theorem dX5_takesHoliday_1 : decode cX5_takesHoliday 1 = .ok (.getfield 21, 3) := by decide +kernel
theorem dX5_takesHoliday_4 : decode cX5_takesHoliday 4 = .ok (.getfield 103, 3) := by decide +kernel
theorem dX5_takesHoliday_7 : decode cX5_takesHoliday 7 = .ok (.getfield 107, 3) := by decide +kernel
theorem dX5_takesHoliday_10 : decode cX5_takesHoliday 10 = .ok (.bipush 20, 2) := by decide +kernel
theorem dX5_takesHoliday_12 : decode cX5_takesHoliday 12 = .ok (.if_icmp .lt 9, 3) := by decide +kernel
theorem dX5_takesHoliday_15 : decode cX5_takesHoliday 15 = .ok (.aload_n 0, 1) := by decide +kernel
theorem dX5_takesHoliday_16 : decode cX5_takesHoliday 16 = .ok (.iconst 4, 1) := by decide +kernel
theorem dX5_takesHoliday_17 : decode cX5_takesHoliday 17 = .ok (.invokevirtual 99, 3) := by decide +kernel
theorem dX5_takesHoliday_20 : decode cX5_takesHoliday 20 = .ok (.ireturn, 1) := by decide +kernel
theorem dX5_takesHoliday_21 : decode cX5_takesHoliday 21 = .ok (.aload_n 0, 1) := by decide +kernel
theorem dX5_takesHoliday_22 : decode cX5_takesHoliday 22 = .ok (.getfield 12, 3) := by decide +kernel
theorem dX5_takesHoliday_25 : decode cX5_takesHoliday 25 = .ok (.invokevirtual 112, 3) := by decide +kernel
theorem dX5_takesHoliday_28 : decode cX5_takesHoliday 28 = .ok (.aload_n 0, 1) := by decide +kernel
theorem dX5_takesHoliday_29 : decode cX5_takesHoliday 29 = .ok (.iconst 0, 1) := by decide +kernel
theorem dX5_takesHoliday_30 : decode cX5_takesHoliday 30 = .ok (.sipush 599, 3) := by decide +kernel
theorem dX5_takesHoliday_33 : decode cX5_takesHoliday 33 = .ok (.invokevirtual 115, 3) := by decide +kernel
theorem dX5_takesHoliday_36 : decode cX5_takesHoliday 36 = .ok (.ifCond .ne 5, 3) := by decide +kernel
theorem dX5_takesHoliday_39 : decode cX5_takesHoliday 39 = .ok (.iconst 0, 1) := by decide +kernel
theorem dX5_takesHoliday_40 : decode cX5_takesHoliday 40 = .ok (.ireturn, 1) := by decide +kernel
theorem dX5_takesHoliday_41 : decode cX5_takesHoliday 41 = .ok (.aload_n 0, 1) := by decide +kernel
theorem dX5_takesHoliday_42 : decode cX5_takesHoliday 42 = .ok (.getfield 21, 3) := by decide +kernel
theorem dX5_takesHoliday_45 : decode cX5_takesHoliday 45 = .ok (.getfield 103, 3) := by decide +kernel
theorem dX5_takesHoliday_48 : decode cX5_takesHoliday 48 = .ok (.aload_n 0, 1) := by decide +kernel
theorem dX5_takesHoliday_49 : decode cX5_takesHoliday 49 = .ok (.getfield 12, 3) := by decide +kernel
theorem dX5_takesHoliday_52 : decode cX5_takesHoliday 52 = .ok (.getfield 119, 3) := by decide +kernel
theorem dX5_takesHoliday_55 : decode cX5_takesHoliday 55 = .ok (.invokevirtual 122, 3) := by decide +kernel
theorem dX5_takesHoliday_58 : decode cX5_takesHoliday 58 = .ok (.ifCond .eq 9, 3) := by decide +kernel
theorem dX5_takesHoliday_61 : decode cX5_takesHoliday 61 = .ok (.aload_n 0, 1) := by decide +kernel
theorem dX5_takesHoliday_62 : decode cX5_takesHoliday 62 = .ok (.iconst 3, 1) := by decide +kernel
theorem dX5_takesHoliday_63 : decode cX5_takesHoliday 63 = .ok (.invokevirtual 99, 3) := by decide +kernel
theorem dX5_takesHoliday_66 : decode cX5_takesHoliday 66 = .ok (.ireturn, 1) := by decide +kernel
theorem dX5_takesHoliday_67 : decode cX5_takesHoliday 67 = .ok (.aload_n 0, 1) := by decide +kernel
theorem dX5_takesHoliday_68 : decode cX5_takesHoliday 68 = .ok (.getfield 21, 3) := by decide +kernel
theorem dX5_takesHoliday_71 : decode cX5_takesHoliday 71 = .ok (.getfield 103, 3) := by decide +kernel
theorem dX5_takesHoliday_74 : decode cX5_takesHoliday 74 = .ok (.aload_n 0, 1) := by decide +kernel
theorem dX5_takesHoliday_75 : decode cX5_takesHoliday 75 = .ok (.getfield 12, 3) := by decide +kernel
theorem dX5_takesHoliday_78 : decode cX5_takesHoliday 78 = .ok (.getfield 119, 3) := by decide +kernel
theorem dX5_takesHoliday_81 : decode cX5_takesHoliday 81 = .ok (.invokevirtual 125, 3) := by decide +kernel
theorem dX5_takesHoliday_84 : decode cX5_takesHoliday 84 = .ok (.aload_n 0, 1) := by decide +kernel
theorem dX5_takesHoliday_85 : decode cX5_takesHoliday 85 = .ok (.getfield 12, 3) := by decide +kernel
theorem dX5_takesHoliday_88 : decode cX5_takesHoliday 88 = .ok (.invokevirtual 112, 3) := by decide +kernel
theorem dX5_takesHoliday_91 : decode cX5_takesHoliday 91 = .ok (.iconst 1, 1) := by decide +kernel
theorem dX5_takesHoliday_92 : decode cX5_takesHoliday 92 = .ok (.ireturn, 1) := by decide +kernel
theorem hd_X5_takesHoliday : yX5_takesHoliday.cls = RX5 ∧ yX5_takesHoliday.cls ≠ "java/lang/invoke/MethodHandle" ∧ yX5_takesHoliday.cls ≠ "java/lang/invoke/VarHandle" ∧ (parseMethodDescriptor yX5_takesHoliday.desc).map (fun d => d.parameters.length) = some 0 := by decide +kernel
theorem hs_X5_takesHoliday : yX5_takesHoliday.cls ≠ "java/lang/invoke/MethodHandle" ∧ yX5_takesHoliday.cls ≠ "java/lang/invoke/VarHandle" ∧ (parseMethodDescriptor yX5_takesHoliday.desc).map (fun d => d.parameters.length) = some 0 := by decide +kernel
set_option maxHeartbeats 4000000 in
set_option maxRecDepth 100000 in
theorem k_X5_takesHoliday (l : Launch) (E : Ev) (K : Kd) (z : Nat) (o : Nat) (w : Wd) (ho : K o = some (4, 0)) {r : Bool} {w' : Wd} (hf : f_X5_takesHoliday K o w = some (r, w')) : Met l yX5_takesHoliday (Cond.code yX5_takesHoliday cX5_takesHoliday 1 (Option.some Jvm.ClassFile.FieldType.boolean) :: bt) ({ frames := 2, cells := 0, slots := 0, locals := 43 } : Room) (va_Pc [rv E (some o)] (HB E K w z)) (QI E K z w' (b2i r)) 0 0 (hA E) := by
  refine Met.ofW (cc := cX5_takesHoliday) (maxL := 1) (ret := (Option.some Jvm.ClassFile.FieldType.boolean)) (by decide) rfl ?_
  intro p e s m args below meth c s₁ B hml hv
  obtain ⟨rfl, hz, hP, hKs, hT, hb0⟩ := hv
  have C : CX p l e s m _ meth c cX5_takesHoliday 1 RX5 (Option.some Jvm.ClassFile.FieldType.boolean) E := ⟨B.exec, B.bytes, hml, findClass_of_methodNamed B.named, fun w h => atoms_spec (ws := Cond.code yX5_takesHoliday cX5_takesHoliday 1 (Option.some Jvm.ClassFile.FieldType.boolean) :: bt) B.pre w (List.mem_cons_of_mem _ h), hKs, hT, by rw [hz]; exact hb0, B.notSynchronized, B.returns⟩
  have hH : HQ E K z w s s.heap [] := ⟨hP, va_S.rf, hz⟩
  obtain ⟨hx, hb, hml, hown, hts, hKs, hT, hb0, hlocks, hret⟩ := id C
  have hl := lv_entry [rv E (some o)] (n := 1) (by simp [lg_len_nil, lg_len_i, lg_len_j, lg_len_q, lg_len_f, lg_len_d, lg_len_r])
  rw [lg_entry_eq]
  generalize (lg_sl [rv E (some o)] ++ List.replicate (1 - (lg_sl [rv E (some o)]).length) Slot.unset).toArray = ls at hl ⊢
  replace hl : lv_has ls 1 [(0, rv E (some o))] := by simpa only [lv_args, cat_q, cat_i, cat_j, reduceIte, Nat.reduceEqDiff, Nat.reduceAdd, Nat.zero_add] using hl
  generalize s.heap = H at hH ⊢
  unfold f_X5_takesHoliday at hf
  refine hl_aload_n hx hb dX5_takesHoliday_0 rfl (lv_at hl 0 rfl) ?_
  refine g5_1 hx hb hts hown hKs hH rfl ho m2_25 dX5_takesHoliday_1 ?_
  obtain ⟨a1, ha1, hf⟩ := bnd hf
  replace ha1 := chk_some ha1
  refine gn9_10 hx hb hts hown hKs hH ha1.1 ha1.2 m1_178 dX5_takesHoliday_4 ?_
  obtain ⟨a2, ha2, hf⟩ := bnd hf
  replace ha2 := chk_some ha2
  refine gn2_1 hx hb hts hown hKs hH ha2.1 ha2.2 m1_60 dX5_takesHoliday_7 ?_
  refine lv_bipush (v := 20) hx hb dX5_takesHoliday_10 (by decide) ?_
  refine lv_icmp_lt (tgt := 21) hx hb dX5_takesHoliday_12 (by decide) (fun c3 => ?_) (fun c3 => ?_)
  · replace hf := (if_pos c3).symm.trans hf
    refine hl_aload_n hx hb dX5_takesHoliday_21 rfl (lv_at hl 0 rfl) ?_
    refine g5_0 hx hb hts hown hKs hH rfl ho m2_24 dX5_takesHoliday_22 ?_
    obtain ⟨a4, ha4, hf⟩ := bnd hf
    replace ha4 := chk_some ha4
    obtain ⟨q5, hq5, hf⟩ := bnd hf
    refine hcV_v hx hb hml hown hts hKs hT hb0 hH (As := []) (rest := []) (k_X8_advance l E K H.size a4 w ha4.2 hq5) (gV m4_191 m4_148 m4_149 m1_9 m4_150) hd_X8_advance ⟨Nat.le_of_ble_eq_true rfl, Nat.le_of_ble_eq_true rfl, rfl, rfl⟩ ha4.1 ha4.2 rfl rfl rfl hl.1 rfl rc0 rfl dX5_takesHoliday_25 ⟨Nat.zero_le _, Nat.zero_le _⟩ (fun H locs hH => ?_)
    refine hl_aload_n hx hb dX5_takesHoliday_28 rfl (lv_at hl 0 rfl) ?_
    refine lv_iconst (v := 0) hx hb dX5_takesHoliday_29 (by decide) ?_
    refine lv_sipush (v := 599) hx hb dX5_takesHoliday_30 (by decide) ?_
    obtain ⟨q6, hq6, hf⟩ := bnd hf
    refine hcV_i hx hb hml hown hts hKs hT hb0 hH (As := [.int 0, .int 599]) (rest := []) (k_X5_seesNumber l E K H.size o 0 599 q5 ho hq6) (gV m4_192 m4_194 ms_14 m1_8 m4_195) hd_X5_seesNumber ⟨Nat.le_of_ble_eq_true rfl, Nat.le_of_ble_eq_true rfl, rfl, rfl⟩ rfl ho rfl rfl rfl hl.1 rfl rc0 rfl dX5_takesHoliday_33 ⟨Nat.zero_le _, Nat.zero_le _⟩ (fun H locs hH => ?_)
    refine lv_if_ne (tgt := 41) hx hb dX5_takesHoliday_36 (by decide) (fun c7 => ?_) (fun c7 => ?_)
    · replace hf := (if_neg c7).symm.trans hf
      refine hl_aload_n hx hb dX5_takesHoliday_41 rfl (lv_at hl 0 rfl) ?_
      refine g5_1 hx hb hts hown hKs hH rfl ho m2_25 dX5_takesHoliday_42 ?_
      obtain ⟨a8, ha8, hf⟩ := bnd hf
      replace ha8 := chk_some ha8
      refine gn9_10 hx hb hts hown hKs hH ha8.1 ha8.2 m1_178 dX5_takesHoliday_45 ?_
      refine hl_aload_n hx hb dX5_takesHoliday_48 rfl (lv_at hl 0 rfl) ?_
      refine g5_0 hx hb hts hown hKs hH rfl ho m2_24 dX5_takesHoliday_49 ?_
      obtain ⟨a9, ha9, hf⟩ := bnd hf
      replace ha9 := chk_some ha9
      refine gn8_6 hx hb hts hown hKs hH ha9.1 ha9.2 m2_5 dX5_takesHoliday_52 ?_
      obtain ⟨a10, ha10, hf⟩ := bnd hf
      replace ha10 := chk_some ha10
      obtain ⟨q11, hq11, hf⟩ := bnd hf
      refine hcV_i hx hb hml hown hts hKs hT hb0 hH (As := [.int ((wI q6.2 806 a9))]) (rest := []) (k_X2_contains l E K H.size a10 (wI q6.2 806 a9) q6.2 ha10.2 hq11) (gV m4_197 m3_153 m3_154 m1_3 m3_155) hd_X2_contains ⟨Nat.le_of_ble_eq_true rfl, Nat.le_of_ble_eq_true rfl, rfl, rfl⟩ ha10.1 ha10.2 rfl rfl rfl hl.1 rfl rc0 rfl dX5_takesHoliday_55 ⟨Nat.zero_le _, Nat.zero_le _⟩ (fun H locs hH => ?_)
      refine lv_if_eq (tgt := 67) hx hb dX5_takesHoliday_58 (by decide) (fun c12 => ?_) (fun c12 => ?_)
      · replace hf := (if_pos c12).symm.trans hf
        refine hl_aload_n hx hb dX5_takesHoliday_67 rfl (lv_at hl 0 rfl) ?_
        refine g5_1 hx hb hts hown hKs hH rfl ho m2_25 dX5_takesHoliday_68 ?_
        obtain ⟨a13, ha13, hf⟩ := bnd hf
        replace ha13 := chk_some ha13
        refine gn9_10 hx hb hts hown hKs hH ha13.1 ha13.2 m1_178 dX5_takesHoliday_71 ?_
        refine hl_aload_n hx hb dX5_takesHoliday_74 rfl (lv_at hl 0 rfl) ?_
        refine g5_0 hx hb hts hown hKs hH rfl ho m2_24 dX5_takesHoliday_75 ?_
        obtain ⟨a14, ha14, hf⟩ := bnd hf
        replace ha14 := chk_some ha14
        refine gn8_6 hx hb hts hown hKs hH ha14.1 ha14.2 m2_5 dX5_takesHoliday_78 ?_
        obtain ⟨a15, ha15, hf⟩ := bnd hf
        replace ha15 := chk_some ha15
        obtain ⟨q16, hq16, hf⟩ := bnd hf
        refine hcV_v hx hb hml hown hts hKs hT hb0 hH (As := [.int ((wI q11.2 806 a14))]) (rest := []) (k_X2_add l E K H.size a15 (wI q11.2 806 a14) q11.2 ha15.2 hq16) (gV m4_198 m4_199 m4_200 m1_3 m4_201) hd_X2_add ⟨Nat.le_of_ble_eq_true rfl, Nat.le_of_ble_eq_true rfl, rfl, rfl⟩ ha15.1 ha15.2 rfl rfl rfl hl.1 rfl rc0 rfl dX5_takesHoliday_81 ⟨Nat.zero_le _, Nat.zero_le _⟩ (fun H locs hH => ?_)
        refine hl_aload_n hx hb dX5_takesHoliday_84 rfl (lv_at hl 0 rfl) ?_
        refine g5_0 hx hb hts hown hKs hH rfl ho m2_24 dX5_takesHoliday_85 ?_
        obtain ⟨a17, ha17, hf⟩ := bnd hf
        replace ha17 := chk_some ha17
        obtain ⟨q18, hq18, hf⟩ := bnd hf
        refine hcV_v hx hb hml hown hts hKs hT hb0 hH (As := []) (rest := []) (k_X8_advance l E K H.size a17 q16 ha17.2 hq18) (gV m4_191 m4_148 m4_149 m1_9 m4_150) hd_X8_advance ⟨Nat.le_of_ble_eq_true rfl, Nat.le_of_ble_eq_true rfl, rfl, rfl⟩ ha17.1 ha17.2 rfl rfl rfl hl.1 rfl rc0 rfl dX5_takesHoliday_88 ⟨Nat.zero_le _, Nat.zero_le _⟩ (fun H locs hH => ?_)
        refine lv_iconst (v := 1) hx hb dX5_takesHoliday_91 (by decide) ?_
        exact hw_zret hx hb hret rfl hf hH hlocks dX5_takesHoliday_92
      · replace hf := (if_neg c12).symm.trans hf
        refine hl_aload_n hx hb dX5_takesHoliday_61 rfl (lv_at hl 0 rfl) ?_
        refine lv_iconst (v := 3) hx hb dX5_takesHoliday_62 (by decide) ?_
        obtain ⟨q19, hq19, hf⟩ := bnd hf
        refine hcV_i hx hb hml hown hts hKs hT hb0 hH (As := [.int 3]) (rest := []) (k_X5_fail l E K H.size o 3 q11.2 ho hq19) (gV m4_187 m4_189 ms_13 m1_8 m4_190) hd_X5_fail ⟨Nat.le_of_ble_eq_true rfl, Nat.le_of_ble_eq_true rfl, rfl, rfl⟩ rfl ho rfl rfl rfl hl.1 rfl rc0 rfl dX5_takesHoliday_63 ⟨Nat.zero_le _, Nat.zero_le _⟩ (fun H locs hH => ?_)
        exact hw_zret hx hb hret rfl hf hH hlocks dX5_takesHoliday_66
    · replace hf := (if_pos c7).symm.trans hf
      refine lv_iconst (v := 0) hx hb dX5_takesHoliday_39 (by decide) ?_
      exact hw_zret hx hb hret rfl hf hH hlocks dX5_takesHoliday_40
  · replace hf := (if_neg c3).symm.trans hf
    refine hl_aload_n hx hb dX5_takesHoliday_15 rfl (lv_at hl 0 rfl) ?_
    refine lv_iconst (v := 4) hx hb dX5_takesHoliday_16 (by decide) ?_
    obtain ⟨q20, hq20, hf⟩ := bnd hf
    refine hcV_i hx hb hml hown hts hKs hT hb0 hH (As := [.int 4]) (rest := []) (k_X5_fail l E K H.size o 4 w ho hq20) (gV m4_187 m4_189 ms_13 m1_8 m4_190) hd_X5_fail ⟨Nat.le_of_ble_eq_true rfl, Nat.le_of_ble_eq_true rfl, rfl, rfl⟩ rfl ho rfl rfl rfl hl.1 rfl rc0 rfl dX5_takesHoliday_17 ⟨Nat.zero_le _, Nat.zero_le _⟩ (fun H locs hH => ?_)
    exact hw_zret hx hb hret rfl hf hH hlocks dX5_takesHoliday_20

theorem dX5_takesNeeds_0 : decode cX5_takesNeeds 0 = .ok (.iconst 0, 1) := by decide +kernel
theorem dX5_takesNeeds_1 : decode cX5_takesNeeds 1 = .ok (.istore_n 2, 1) := by decide +kernel
theorem dX5_takesNeeds_2 : decode cX5_takesNeeds 2 = .ok (.aload_n 0, 1) := by decide +kernel
theorem dX5_takesNeeds_3 : decode cX5_takesNeeds 3 = .ok (.getfield 12, 3) := by decide +kernel
theorem dX5_takesNeeds_6 : decode cX5_takesNeeds 6 = .ok (.getfield 39, 3) := by decide +kernel
theorem dX5_takesNeeds_9 : decode cX5_takesNeeds 9 = .ok (.getstatic 214, 3) := by decide +kernel
theorem dX5_takesNeeds_12 : decode cX5_takesNeeds 12 = .ok (.if_acmp .ne 79, 3) := by decide +kernel
theorem dX5_takesNeeds_15 : decode cX5_takesNeeds 15 = .ok (.iload_n 2, 1) := by decide +kernel
theorem dX5_takesNeeds_16 : decode cX5_takesNeeds 16 = .ok (.iconst 4, 1) := by decide +kernel
theorem dX5_takesNeeds_17 : decode cX5_takesNeeds 17 = .ok (.if_icmp .lt 9, 3) := by decide +kernel
theorem dX5_takesNeeds_20 : decode cX5_takesNeeds 20 = .ok (.aload_n 0, 1) := by decide +kernel
theorem dX5_takesNeeds_21 : decode cX5_takesNeeds 21 = .ok (.iconst 4, 1) := by decide +kernel
theorem dX5_takesNeeds_22 : decode cX5_takesNeeds 22 = .ok (.invokevirtual 99, 3) := by decide +kernel
theorem dX5_takesNeeds_25 : decode cX5_takesNeeds 25 = .ok (.ireturn, 1) := by decide +kernel
theorem dX5_takesNeeds_26 : decode cX5_takesNeeds 26 = .ok (.aload_n 0, 1) := by decide +kernel
theorem dX5_takesNeeds_27 : decode cX5_takesNeeds 27 = .ok (.getfield 12, 3) := by decide +kernel
theorem dX5_takesNeeds_30 : decode cX5_takesNeeds 30 = .ok (.invokevirtual 112, 3) := by decide +kernel
theorem dX5_takesNeeds_33 : decode cX5_takesNeeds 33 = .ok (.aload_n 0, 1) := by decide +kernel
theorem dX5_takesNeeds_34 : decode cX5_takesNeeds 34 = .ok (.iconst 2, 1) := by decide +kernel
theorem dX5_takesNeeds_35 : decode cX5_takesNeeds 35 = .ok (.invokevirtual 217, 3) := by decide +kernel
theorem dX5_takesNeeds_38 : decode cX5_takesNeeds 38 = .ok (.ifCond .ne 5, 3) := by decide +kernel
theorem dX5_takesNeeds_41 : decode cX5_takesNeeds 41 = .ok (.iconst 0, 1) := by decide +kernel
theorem dX5_takesNeeds_42 : decode cX5_takesNeeds 42 = .ok (.ireturn, 1) := by decide +kernel
theorem dX5_takesNeeds_43 : decode cX5_takesNeeds 43 = .ok (.aload_n 1, 1) := by decide +kernel
theorem dX5_takesNeeds_44 : decode cX5_takesNeeds 44 = .ok (.getfield 220, 3) := by decide +kernel
theorem dX5_takesNeeds_47 : decode cX5_takesNeeds 47 = .ok (.aload_n 0, 1) := by decide +kernel
theorem dX5_takesNeeds_48 : decode cX5_takesNeeds 48 = .ok (.getfield 186, 3) := by decide +kernel
theorem dX5_takesNeeds_51 : decode cX5_takesNeeds 51 = .ok (.invokestatic 223, 3) := by decide +kernel
theorem dX5_takesNeeds_54 : decode cX5_takesNeeds 54 = .ok (.ifCond .eq 9, 3) := by decide +kernel
theorem dX5_takesNeeds_57 : decode cX5_takesNeeds 57 = .ok (.aload_n 0, 1) := by decide +kernel
theorem dX5_takesNeeds_58 : decode cX5_takesNeeds 58 = .ok (.iconst 3, 1) := by decide +kernel
theorem dX5_takesNeeds_59 : decode cX5_takesNeeds 59 = .ok (.invokevirtual 99, 3) := by decide +kernel
theorem dX5_takesNeeds_62 : decode cX5_takesNeeds 62 = .ok (.ireturn, 1) := by decide +kernel
theorem dX5_takesNeeds_63 : decode cX5_takesNeeds 63 = .ok (.aload_n 1, 1) := by decide +kernel
theorem dX5_takesNeeds_64 : decode cX5_takesNeeds 64 = .ok (.dup, 1) := by decide +kernel
theorem dX5_takesNeeds_65 : decode cX5_takesNeeds 65 = .ok (.getfield 220, 3) := by decide +kernel
theorem dX5_takesNeeds_68 : decode cX5_takesNeeds 68 = .ok (.iconst 1, 1) := by decide +kernel
theorem dX5_takesNeeds_69 : decode cX5_takesNeeds 69 = .ok (.aload_n 0, 1) := by decide +kernel
theorem dX5_takesNeeds_70 : decode cX5_takesNeeds 70 = .ok (.getfield 186, 3) := by decide +kernel
theorem dX5_takesNeeds_73 : decode cX5_takesNeeds 73 = .ok (.ishl, 1) := by decide +kernel
theorem dX5_takesNeeds_74 : decode cX5_takesNeeds 74 = .ok (.ior, 1) := by decide +kernel
theorem dX5_takesNeeds_75 : decode cX5_takesNeeds 75 = .ok (.putfield 220, 3) := by decide +kernel
theorem dX5_takesNeeds_78 : decode cX5_takesNeeds 78 = .ok (.aload_n 0, 1) := by decide +kernel
theorem dX5_takesNeeds_79 : decode cX5_takesNeeds 79 = .ok (.getfield 12, 3) := by decide +kernel
theorem dX5_takesNeeds_82 : decode cX5_takesNeeds 82 = .ok (.invokevirtual 112, 3) := by decide +kernel
theorem dX5_takesNeeds_85 : decode cX5_takesNeeds 85 = .ok (.iinc 2 1, 3) := by decide +kernel
theorem dX5_takesNeeds_88 : decode cX5_takesNeeds 88 = .ok (.goto (-86), 3) := by decide +kernel
theorem dX5_takesNeeds_91 : decode cX5_takesNeeds 91 = .ok (.iconst 1, 1) := by decide +kernel
theorem dX5_takesNeeds_92 : decode cX5_takesNeeds 92 = .ok (.ireturn, 1) := by decide +kernel
theorem hd_X5_takesNeeds : yX5_takesNeeds.cls = RX5 ∧ yX5_takesNeeds.cls ≠ "java/lang/invoke/MethodHandle" ∧ yX5_takesNeeds.cls ≠ "java/lang/invoke/VarHandle" ∧ (parseMethodDescriptor yX5_takesNeeds.desc).map (fun d => d.parameters.length) = some 1 := by decide +kernel
theorem hs_X5_takesNeeds : yX5_takesNeeds.cls ≠ "java/lang/invoke/MethodHandle" ∧ yX5_takesNeeds.cls ≠ "java/lang/invoke/VarHandle" ∧ (parseMethodDescriptor yX5_takesNeeds.desc).map (fun d => d.parameters.length) = some 1 := by decide +kernel
set_option maxHeartbeats 4000000 in
set_option maxRecDepth 100000 in
theorem l_X5_takesNeeds_L2 (C : CX p l e s m args meth c cX5_takesNeeds 3 RX5 (Option.some Jvm.ClassFile.FieldType.boolean) E) {o : Nat} (ho : K o = some (4, 0)) {r : Bool} {w' : Wd} (k : Option Nat → Int32 → Wd → Option (Bool × Wd)) (hk : ∀ (v1_2 : Option Nat) (v2_2 : Int32) (w : Wd) (H : Heap) (locs : List Loc) (ls : Array Slot), HQ E K z w s H locs → lv_has ls 3 [(1, rv E v1_2), (2, .int v2_2), (0, rv E (some o))] → k v1_2 v2_2 w = some (r, w') → W p l e ({ frames := 2, cells := 0, slots := 0, locals := 44 } : Room) s m args below meth c H locs 0 0 (MQ below (QI E K z w' (b2i r)) args s 0 0 (hA E)) (F0 m 91 ls [])) : ∀ (n : Nat) (v1_2 : Option Nat) (v2_2 : Int32) (w : Wd) (H : Heap) (locs : List Loc) (ls : Array Slot), HQ E K z w s H locs → lv_has ls 3 [(1, rv E v1_2), (2, .int v2_2), (0, rv E (some o))] → f_X5_takesNeeds_L2 K o k n v1_2 v2_2 w = some (r, w') → W p l e ({ frames := 2, cells := 0, slots := 0, locals := 44 } : Room) s m args below meth c H locs 0 0 (MQ below (QI E K z w' (b2i r)) args s 0 0 (hA E)) (F0 m 2 ls []) := by
  obtain ⟨hx, hb, hml, hown, hts, hKs, hT, hb0, hlocks, hret⟩ := id C
  intro n
  induction n with
  | zero =>
    intro v1_2 v2_2 w H locs ls hH hl hf
    cases hf
  | succ n ih =>
    intro v1_2 v2_2 w H locs ls hH hl hf
    rw [f_X5_takesNeeds_L2] at hf
    refine hl_aload_n hx hb dX5_takesNeeds_2 rfl (lv_at hl 2 rfl) ?_
    refine g5_0 hx hb hts hown hKs hH rfl ho m2_24 dX5_takesNeeds_3 ?_
    obtain ⟨a2, ha2, hf⟩ := bnd hf
    replace ha2 := chk_some ha2
    refine gn8_4 hx hb hts hown hKs hH ha2.1 ha2.2 m2_1 dX5_takesNeeds_6 ?_
    refine hw_tok hx hb 11 (by decide) hts hown hT hH m5_30 dX5_takesNeeds_9 ?_
    obtain ⟨_, hg3, hf⟩ := bnd hf
    refine hw_acmp_ne (tgt := 91) hx hb hT (grd_some hg3) rfl dX5_takesNeeds_12 (by decide) (fun c4 => ?_) (fun c4 => ?_)
    · replace hf := (if_neg c4).symm.trans hf
      exact hk v1_2 v2_2 _ _ _ _ hH (lv_sub hl [0, 1, 2] rfl) hf
    · replace hf := (if_pos c4).symm.trans hf
      refine lv_iload_n hx hb dX5_takesNeeds_15 rfl (lv_at hl 1 rfl) ?_
      refine lv_iconst (v := 4) hx hb dX5_takesNeeds_16 (by decide) ?_
      refine lv_icmp_lt (tgt := 26) hx hb dX5_takesNeeds_17 (by decide) (fun c5 => ?_) (fun c5 => ?_)
      · replace hf := (if_pos c5).symm.trans hf
        refine hl_aload_n hx hb dX5_takesNeeds_26 rfl (lv_at hl 2 rfl) ?_
        refine g5_0 hx hb hts hown hKs hH rfl ho m2_24 dX5_takesNeeds_27 ?_
        obtain ⟨q6, hq6, hf⟩ := bnd hf
        refine hcV_v hx hb hml hown hts hKs hT hb0 hH (As := []) (rest := []) (k_X8_advance l E K H.size a2 w ha2.2 hq6) (gV m4_191 m4_148 m4_149 m1_9 m4_150) hd_X8_advance ⟨Nat.le_of_ble_eq_true rfl, Nat.le_of_ble_eq_true rfl, rfl, rfl⟩ ha2.1 ha2.2 rfl rfl rfl hl.1 rfl rc0 rfl dX5_takesNeeds_30 ⟨Nat.zero_le _, Nat.zero_le _⟩ (fun H locs hH => ?_)
        refine hl_aload_n hx hb dX5_takesNeeds_33 rfl (lv_at hl 2 rfl) ?_
        refine lv_iconst (v := 2) hx hb dX5_takesNeeds_34 (by decide) ?_
        obtain ⟨q7, hq7, hf⟩ := bnd hf
        refine hcV_i hx hb hml hown hts hKs hT hb0 hH (As := [.int 2]) (rest := []) (k_X5_seesToldName l E K H.size o 2 q6 ho hq7) (gV m5_32 m5_34 ms_24 m1_8 m5_35) hd_X5_seesToldName ⟨Nat.le_of_ble_eq_true rfl, Nat.le_of_ble_eq_true rfl, rfl, rfl⟩ rfl ho rfl rfl rfl hl.1 rfl rc0 rfl dX5_takesNeeds_35 ⟨Nat.zero_le _, Nat.zero_le _⟩ (fun H locs hH => ?_)
        refine lv_if_ne (tgt := 43) hx hb dX5_takesNeeds_38 (by decide) (fun c8 => ?_) (fun c8 => ?_)
        · replace hf := (if_neg c8).symm.trans hf
          refine hl_aload_n hx hb dX5_takesNeeds_43 rfl (lv_at hl 0 rfl) ?_
          obtain ⟨a9, ha9, hf⟩ := bnd hf
          replace ha9 := chk_some ha9
          refine gn3_4 hx hb hts hown hKs hH ha9.1 ha9.2 m1_109 dX5_takesNeeds_44 ?_
          refine hl_aload_n hx hb dX5_takesNeeds_47 rfl (lv_at hl 2 rfl) ?_
          refine g5_4 hx hb hts hown hKs hH rfl ho m2_30 dX5_takesNeeds_48 ?_
          obtain ⟨q10, hq10, hf⟩ := bnd hf
          refine hcM_i hx hb hml hown hts hKs hT hb0 hH (As := [.int ((wI q7.2 304 a9)), .int ((wI q7.2 504 o))]) (rest := []) (k_X12_has l E K H.size (wI q7.2 304 a9) (wI q7.2 504 o) q7.2 hq10) m5_36 m3_188 m1_1 m3_189 hs_X12_has ⟨Nat.le_of_ble_eq_true rfl, Nat.le_of_ble_eq_true rfl, rfl, rfl⟩ hl.1 rfl rc0 rfl dX5_takesNeeds_51 ⟨Nat.zero_le _, Nat.zero_le _⟩ (fun H locs hH => ?_)
          refine lv_if_eq (tgt := 63) hx hb dX5_takesNeeds_54 (by decide) (fun c11 => ?_) (fun c11 => ?_)
          · replace hf := (if_pos c11).symm.trans hf
            refine hl_aload_n hx hb dX5_takesNeeds_63 rfl (lv_at hl 0 rfl) ?_
            refine lv_dup hx hb dX5_takesNeeds_64 rv_cat ?_
            refine gn3_4 hx hb hts hown hKs hH ha9.1 ha9.2 m1_109 dX5_takesNeeds_65 ?_
            refine lv_iconst (v := 1) hx hb dX5_takesNeeds_68 (by decide) ?_
            refine hl_aload_n hx hb dX5_takesNeeds_69 rfl (lv_at hl 2 rfl) ?_
            refine g5_4 hx hb hts hown hKs hH rfl ho m2_30 dX5_takesNeeds_70 ?_
            refine lv_ishl hx hb dX5_takesNeeds_73 ?_
            refine lv_ior hx hb dX5_takesNeeds_74 ?_
            obtain ⟨w12, hw12, hf⟩ := bnd hf
            replace hw12 := Option.some.inj hw12
            refine pn3_4 (v := ((wI q10.2 304 a9) ||| (1 <<< ((wI q10.2 504 o) &&& 31)))) hx hb hts hown hKs hH ha9.1 ha9.2 m1_109 dX5_takesNeeds_75 (fun H locs hH => ?_)
            rw [hw12] at hH
            refine hl_aload_n hx hb dX5_takesNeeds_78 rfl (lv_at hl 2 rfl) ?_
            refine g5_0 hx hb hts hown hKs hH rfl ho m2_24 dX5_takesNeeds_79 ?_
            obtain ⟨a13, ha13, hf⟩ := bnd hf
            replace ha13 := chk_some ha13
            obtain ⟨q14, hq14, hf⟩ := bnd hf
            refine hcV_v hx hb hml hown hts hKs hT hb0 hH (As := []) (rest := []) (k_X8_advance l E K H.size a13 w12 ha13.2 hq14) (gV m4_191 m4_148 m4_149 m1_9 m4_150) hd_X8_advance ⟨Nat.le_of_ble_eq_true rfl, Nat.le_of_ble_eq_true rfl, rfl, rfl⟩ ha13.1 ha13.2 rfl rfl rfl hl.1 rfl rc0 rfl dX5_takesNeeds_82 ⟨Nat.zero_le _, Nat.zero_le _⟩ (fun H locs hH => ?_)
            refine lv_iinc (v := (v2_2 + 1)) (lv' := [(2, .int ((v2_2 + 1))), (1, rv E v1_2), (0, rv E (some o))]) hx hb dX5_takesNeeds_85 hl (k := 1) rfl rfl (by decide) (by simp [List.filter_cons, cat_q, cat_i, cat_j, imax, imin]) (fun ls hl => ?_)
            refine lv_goto (tgt := 2) hx hb dX5_takesNeeds_88 (by decide) ?_
            exact ih v1_2 (v2_2 + 1) _ _ _ _ hH (lv_sub hl [1, 0, 2] rfl) hf
          · replace hf := (if_neg c11).symm.trans hf
            refine hl_aload_n hx hb dX5_takesNeeds_57 rfl (lv_at hl 2 rfl) ?_
            refine lv_iconst (v := 3) hx hb dX5_takesNeeds_58 (by decide) ?_
            obtain ⟨q15, hq15, hf⟩ := bnd hf
            refine hcV_i hx hb hml hown hts hKs hT hb0 hH (As := [.int 3]) (rest := []) (k_X5_fail l E K H.size o 3 q10.2 ho hq15) (gV m4_187 m4_189 ms_13 m1_8 m4_190) hd_X5_fail ⟨Nat.le_of_ble_eq_true rfl, Nat.le_of_ble_eq_true rfl, rfl, rfl⟩ rfl ho rfl rfl rfl hl.1 rfl rc0 rfl dX5_takesNeeds_59 ⟨Nat.zero_le _, Nat.zero_le _⟩ (fun H locs hH => ?_)
            exact hw_zret hx hb hret rfl hf hH hlocks dX5_takesNeeds_62
        · replace hf := (if_pos c8).symm.trans hf
          refine lv_iconst (v := 0) hx hb dX5_takesNeeds_41 (by decide) ?_
          exact hw_zret hx hb hret rfl hf hH hlocks dX5_takesNeeds_42
      · replace hf := (if_neg c5).symm.trans hf
        refine hl_aload_n hx hb dX5_takesNeeds_20 rfl (lv_at hl 2 rfl) ?_
        refine lv_iconst (v := 4) hx hb dX5_takesNeeds_21 (by decide) ?_
        obtain ⟨q16, hq16, hf⟩ := bnd hf
        refine hcV_i hx hb hml hown hts hKs hT hb0 hH (As := [.int 4]) (rest := []) (k_X5_fail l E K H.size o 4 w ho hq16) (gV m4_187 m4_189 ms_13 m1_8 m4_190) hd_X5_fail ⟨Nat.le_of_ble_eq_true rfl, Nat.le_of_ble_eq_true rfl, rfl, rfl⟩ rfl ho rfl rfl rfl hl.1 rfl rc0 rfl dX5_takesNeeds_22 ⟨Nat.zero_le _, Nat.zero_le _⟩ (fun H locs hH => ?_)
        exact hw_zret hx hb hret rfl hf hH hlocks dX5_takesNeeds_25
set_option maxHeartbeats 4000000 in
set_option maxRecDepth 100000 in
theorem k_X5_takesNeeds (l : Launch) (E : Ev) (K : Kd) (z : Nat) (o : Nat) (a_1 : Option Nat) (w : Wd) (ho : K o = some (4, 0)) {r : Bool} {w' : Wd} (hf : f_X5_takesNeeds K o a_1 w = some (r, w')) : Met l yX5_takesNeeds (Cond.code yX5_takesNeeds cX5_takesNeeds 3 (Option.some Jvm.ClassFile.FieldType.boolean) :: bt) ({ frames := 2, cells := 0, slots := 0, locals := 44 } : Room) (va_Pc [rv E (some o), rv E a_1] (HB E K w z)) (QI E K z w' (b2i r)) 0 0 (hA E) := by
  refine Met.ofW (cc := cX5_takesNeeds) (maxL := 3) (ret := (Option.some Jvm.ClassFile.FieldType.boolean)) (by decide) rfl ?_
  intro p e s m args below meth c s₁ B hml hv
  obtain ⟨rfl, hz, hP, hKs, hT, hb0⟩ := hv
  have C : CX p l e s m _ meth c cX5_takesNeeds 3 RX5 (Option.some Jvm.ClassFile.FieldType.boolean) E := ⟨B.exec, B.bytes, hml, findClass_of_methodNamed B.named, fun w h => atoms_spec (ws := Cond.code yX5_takesNeeds cX5_takesNeeds 3 (Option.some Jvm.ClassFile.FieldType.boolean) :: bt) B.pre w (List.mem_cons_of_mem _ h), hKs, hT, by rw [hz]; exact hb0, B.notSynchronized, B.returns⟩
  have hH : HQ E K z w s s.heap [] := ⟨hP, va_S.rf, hz⟩
  obtain ⟨hx, hb, hml, hown, hts, hKs, hT, hb0, hlocks, hret⟩ := id C
  have hl := lv_entry [rv E (some o), rv E a_1] (n := 3) (by simp [lg_len_nil, lg_len_i, lg_len_j, lg_len_q, lg_len_f, lg_len_d, lg_len_r])
  rw [lg_entry_eq]
  generalize (lg_sl [rv E (some o), rv E a_1] ++ List.replicate (3 - (lg_sl [rv E (some o), rv E a_1]).length) Slot.unset).toArray = ls at hl ⊢
  replace hl : lv_has ls 3 [(0, rv E (some o)), (1, rv E a_1)] := by simpa only [lv_args, cat_q, cat_i, cat_j, reduceIte, Nat.reduceEqDiff, Nat.reduceAdd, Nat.zero_add] using hl
  generalize s.heap = H at hH ⊢
  unfold f_X5_takesNeeds at hf
  refine lv_iconst (v := 0) hx hb dX5_takesNeeds_0 (by decide) ?_
  refine lv_istore_n (i := 2) (lv' := [(2, .int 0), (0, rv E (some o)), (1, rv E a_1)]) hx hb dX5_takesNeeds_1 rfl hl (by decide) (by simp [List.filter_cons, cat_q, cat_i, cat_j, imax, imin]) (fun ls hl => ?_)
  refine l_X5_takesNeeds_L2  C ho _ (fun v1_2 v2_2 w1 H locs ls hH hl hf => ?_) fu a_1 0 w _ _ _ hH (lv_sub hl [2, 0, 1] rfl) hf
  refine lv_iconst (v := 1) hx hb dX5_takesNeeds_91 (by decide) ?_
  exact hw_zret hx hb hret rfl hf hH hlocks dX5_takesNeeds_92
end
