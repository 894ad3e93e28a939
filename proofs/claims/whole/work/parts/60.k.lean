section
variable {p : Program} {l : Launch} {e : Env} {s : State} {m : MethodId} {args : Array Value} {below : List Frame} {meth : Method} {c : Code} {E : Ev} {K : Kd} {z : Nat}

theorem dX12_append_0 : decode cX12_append 0 = .ok (.bipush 24, 2) := by decide +kernel
theorem dX12_append_2 : decode cX12_append 2 = .ok (.istore_n 2, 1) := by decide +kernel
theorem dX12_append_3 : decode cX12_append 3 = .ok (.iload_n 2, 1) := by decide +kernel
theorem dX12_append_4 : decode cX12_append 4 = .ok (.ifCond .lt 44, 3) := by decide +kernel
theorem dX12_append_7 : decode cX12_append 7 = .ok (.aload_n 0, 1) := by decide +kernel
theorem dX12_append_8 : decode cX12_append 8 = .ok (.getfield 70, 3) := by decide +kernel
theorem dX12_append_11 : decode cX12_append 11 = .ok (.aload_n 0, 1) := by decide +kernel
theorem dX12_append_12 : decode cX12_append 12 = .ok (.getfield 12, 3) := by decide +kernel
theorem dX12_append_15 : decode cX12_append 15 = .ok (.arraylength, 1) := by decide +kernel
theorem dX12_append_16 : decode cX12_append 16 = .ok (.if_icmp .ge 26, 3) := by decide +kernel
theorem dX12_append_19 : decode cX12_append 19 = .ok (.aload_n 0, 1) := by decide +kernel
theorem dX12_append_20 : decode cX12_append 20 = .ok (.getfield 12, 3) := by decide +kernel
theorem dX12_append_23 : decode cX12_append 23 = .ok (.aload_n 0, 1) := by decide +kernel
theorem dX12_append_24 : decode cX12_append 24 = .ok (.getfield 70, 3) := by decide +kernel
theorem dX12_append_27 : decode cX12_append 27 = .ok (.iload_n 1, 1) := by decide +kernel
theorem dX12_append_28 : decode cX12_append 28 = .ok (.iload_n 2, 1) := by decide +kernel
theorem dX12_append_29 : decode cX12_append 29 = .ok (.iushr, 1) := by decide +kernel
theorem dX12_append_30 : decode cX12_append 30 = .ok (.i2b, 1) := by decide +kernel
theorem dX12_append_31 : decode cX12_append 31 = .ok (.bastore, 1) := by decide +kernel
theorem dX12_append_32 : decode cX12_append 32 = .ok (.aload_n 0, 1) := by decide +kernel
theorem dX12_append_33 : decode cX12_append 33 = .ok (.dup, 1) := by decide +kernel
theorem dX12_append_34 : decode cX12_append 34 = .ok (.getfield 70, 3) := by decide +kernel
theorem dX12_append_37 : decode cX12_append 37 = .ok (.iconst 1, 1) := by decide +kernel
theorem dX12_append_38 : decode cX12_append 38 = .ok (.iadd, 1) := by decide +kernel
theorem dX12_append_39 : decode cX12_append 39 = .ok (.putfield 70, 3) := by decide +kernel
theorem dX12_append_42 : decode cX12_append 42 = .ok (.iinc 2 (-8), 3) := by decide +kernel
theorem dX12_append_45 : decode cX12_append 45 = .ok (.goto (-42), 3) := by decide +kernel
theorem dX12_append_48 : decode cX12_append 48 = .ok (.return_, 1) := by decide +kernel
theorem hd_X12_append : yX12_append.cls = RX12 ∧ yX12_append.cls ≠ "java/lang/invoke/MethodHandle" ∧ yX12_append.cls ≠ "java/lang/invoke/VarHandle" ∧ (parseMethodDescriptor yX12_append.desc).map (fun d => d.parameters.length) = some 1 := by decide +kernel
theorem hs_X12_append : yX12_append.cls ≠ "java/lang/invoke/MethodHandle" ∧ yX12_append.cls ≠ "java/lang/invoke/VarHandle" ∧ (parseMethodDescriptor yX12_append.desc).map (fun d => d.parameters.length) = some 1 := by decide +kernel
set_option maxHeartbeats 4000000 in
set_option maxRecDepth 100000 in
theorem l_X12_append_L3 (C : CX p l e s m args meth c cX12_append 3 RX12 (Option.none : Option Jvm.ClassFile.FieldType) E) {o : Nat} (ho : K o = some (10, 0)) {w' : Wd} (k : Int32 → Int32 → Wd → Option Wd) (hk : ∀ (v1_3 : Int32) (v2_3 : Int32) (w : Wd) (H : Heap) (locs : List Loc) (ls : Array Slot), HQ E K z w s H locs → lv_has ls 3 [(1, .int v1_3), (2, .int v2_3), (0, rv E (some o))] → k v1_3 v2_3 w = some w' → W p l e ({ frames := 0, cells := 0, slots := 0, locals := 0 } : Room) s m args below meth c H locs 0 0 (MQ below (QV E K z w') args s 0 0 (hA E)) (F0 m 48 ls [])) : ∀ (n : Nat) (v1_3 : Int32) (v2_3 : Int32) (w : Wd) (H : Heap) (locs : List Loc) (ls : Array Slot), HQ E K z w s H locs → lv_has ls 3 [(1, .int v1_3), (2, .int v2_3), (0, rv E (some o))] → f_X12_append_L3 K o k n v1_3 v2_3 w = some w' → W p l e ({ frames := 0, cells := 0, slots := 0, locals := 0 } : Room) s m args below meth c H locs 0 0 (MQ below (QV E K z w') args s 0 0 (hA E)) (F0 m 3 ls []) := by
  obtain ⟨hx, hb, hml, hown, hts, hKs, hT, hb0, hlocks, hret⟩ := id C
  intro n
  induction n with
  | zero =>
    intro v1_3 v2_3 w H locs ls hH hl hf
    cases hf
  | succ n ih =>
    intro v1_3 v2_3 w H locs ls hH hl hf
    rw [f_X12_append_L3] at hf
    refine lv_iload_n hx hb dX12_append_3 rfl (lv_at hl 1 rfl) ?_
    refine lv_if_lt (tgt := 48) hx hb dX12_append_4 (by decide) (fun c2 => ?_) (fun c2 => ?_)
    · replace hf := (if_pos c2).symm.trans hf
      exact hk v1_3 v2_3 _ _ _ _ hH (lv_sub hl [0, 1, 2] rfl) hf
    · replace hf := (if_neg c2).symm.trans hf
      refine hl_aload_n hx hb dX12_append_7 rfl (lv_at hl 2 rfl) ?_
      refine g12_1 hx hb hts hown hKs hH rfl ho m2_220 dX12_append_8 ?_
      refine hl_aload_n hx hb dX12_append_11 rfl (lv_at hl 2 rfl) ?_
      refine g12_0 hx hb hts hown hKs hH rfl ho m2_219 dX12_append_12 ?_
      obtain ⟨a3, ha3, hf⟩ := bnd hf
      replace ha3 := cha_some ha3
      refine hw_alen21 hx hb hKs hH ha3.1 ha3.2 dX12_append_15 ?_
      refine lv_icmp_ge (tgt := 42) hx hb dX12_append_16 (by decide) (fun c4 => ?_) (fun c4 => ?_)
      · replace hf := (if_pos c4).symm.trans hf
        refine lv_iinc (v := (v2_3 + (-8))) (lv' := [(2, .int ((v2_3 + (-8)))), (1, .int v1_3), (0, rv E (some o))]) hx hb dX12_append_42 hl (k := 1) rfl rfl (by decide) rfl (fun ls hl => ?_)
        refine lv_goto (tgt := 3) hx hb dX12_append_45 (by decide) ?_
        exact ih v1_3 (v2_3 + (-8)) _ _ _ _ hH (lv_sub hl [1, 0, 2] rfl) hf
      · replace hf := (if_neg c4).symm.trans hf
        refine hl_aload_n hx hb dX12_append_19 rfl (lv_at hl 2 rfl) ?_
        refine g12_0 hx hb hts hown hKs hH rfl ho m2_219 dX12_append_20 ?_
        refine hl_aload_n hx hb dX12_append_23 rfl (lv_at hl 2 rfl) ?_
        refine g12_1 hx hb hts hown hKs hH rfl ho m2_220 dX12_append_24 ?_
        refine lv_iload_n hx hb dX12_append_27 rfl (lv_at hl 0 rfl) ?_
        refine lv_iload_n hx hb dX12_append_28 rfl (lv_at hl 1 rfl) ?_
        refine lv_iushr (v := (ushr v1_3 v2_3)) hx hb dX12_append_29 rfl ?_
        refine lv_i2b (v := ((ushr v1_3 v2_3).toInt8.toInt32)) hx hb dX12_append_30 rfl ?_
        obtain ⟨j5, hj5, hf⟩ := bnd hf
        obtain ⟨w6, hw6, hf⟩ := bnd hf
        replace hw6 := Option.some.inj hw6
        refine hw_bast (x := ((ushr v1_3 v2_3).toInt8.toInt32)) hx hb hKs hH ha3.1 ha3.2 hj5 dX12_append_31 (fun H locs hH => ?_)
        rw [hw6] at hH
        refine hl_aload_n hx hb dX12_append_32 rfl (lv_at hl 2 rfl) ?_
        refine lv_dup hx hb dX12_append_33 rv_cat ?_
        refine g12_1 hx hb hts hown hKs hH rfl ho m2_220 dX12_append_34 ?_
        refine lv_iconst (v := 1) hx hb dX12_append_37 (by decide) ?_
        refine lv_iadd hx hb dX12_append_38 ?_
        obtain ⟨w7, hw7, hf⟩ := bnd hf
        replace hw7 := Option.some.inj hw7
        refine p12_1 (v := ((wI w6 1201 o) + 1)) hx hb hts hown hKs hH rfl ho m2_220 dX12_append_39 (fun H locs hH => ?_)
        rw [hw7] at hH
        refine lv_iinc (v := (v2_3 + (-8))) (lv' := [(2, .int ((v2_3 + (-8)))), (1, .int v1_3), (0, rv E (some o))]) hx hb dX12_append_42 hl (k := 1) rfl rfl (by decide) rfl (fun ls hl => ?_)
        refine lv_goto (tgt := 3) hx hb dX12_append_45 (by decide) ?_
        exact ih v1_3 (v2_3 + (-8)) _ _ _ _ hH (lv_sub hl [1, 0, 2] rfl) hf
set_option maxHeartbeats 4000000 in
set_option maxRecDepth 100000 in
theorem k_X12_append (l : Launch) (E : Ev) (K : Kd) (z : Nat) (o : Nat) (a_1 : Int32) (w : Wd) (ho : K o = some (10, 0)) {w' : Wd} (hf : f_X12_append K o a_1 w = some w') : Met l yX12_append (Cond.code yX12_append cX12_append 3 (Option.none : Option Jvm.ClassFile.FieldType) :: bt) ({ frames := 0, cells := 0, slots := 0, locals := 0 } : Room) (va_Pc [rv E (some o), .int a_1] (HB E K w z)) (QV E K z w') 0 0 (hA E) := by
  refine Met.ofW (cc := cX12_append) (maxL := 3) (ret := (Option.none : Option Jvm.ClassFile.FieldType)) (by decide) rfl ?_
  intro p e s m args below meth c s₁ B hml hv
  obtain ⟨rfl, hz, hP, hKs, hT, hb0⟩ := hv
  have C : CX p l e s m _ meth c cX12_append 3 RX12 (Option.none : Option Jvm.ClassFile.FieldType) E := ⟨B.exec, B.bytes, hml, findClass_of_methodNamed B.named, fun w h => atoms_spec (ws := Cond.code yX12_append cX12_append 3 (Option.none : Option Jvm.ClassFile.FieldType) :: bt) B.pre w (List.mem_cons_of_mem _ h), hKs, hT, by rw [hz]; exact hb0, B.notSynchronized, B.returns⟩
  have hH : HQ E K z w s s.heap [] := ⟨hP, va_S.rf, hz⟩
  obtain ⟨hx, hb, hml, hown, hts, hKs, hT, hb0, hlocks, hret⟩ := id C
  have hl := lv_entry [rv E (some o), .int a_1] (n := 3) (by simp [lg_len_nil, lg_len_i, lg_len_j, lg_len_q, lg_len_f, lg_len_d, lg_len_r])
  rw [lg_entry_eq]
  generalize (lg_sl [rv E (some o), .int a_1] ++ List.replicate (3 - (lg_sl [rv E (some o), .int a_1]).length) Slot.unset).toArray = ls at hl ⊢
  replace hl : lv_has ls 3 [(0, rv E (some o)), (1, .int a_1)] := by simpa only [lv_args, cat_q, cat_i, cat_j, reduceIte, Nat.reduceEqDiff, Nat.reduceAdd, Nat.zero_add] using hl
  generalize s.heap = H at hH ⊢
  unfold f_X12_append at hf
  refine lv_bipush (v := 24) hx hb dX12_append_0 (by decide) ?_
  refine lv_istore_n (i := 2) (lv' := [(2, .int 24), (0, rv E (some o)), (1, .int a_1)]) hx hb dX12_append_2 rfl hl (by decide) rfl (fun ls hl => ?_)
  refine l_X12_append_L3  C ho _ (fun v1_3 v2_3 w1 H locs ls hH hl hf => ?_) fu a_1 24 w _ _ _ hH (lv_sub hl [2, 0, 1] rfl) hf
  exact hw_vret hx hb hret hf hH hlocks dX12_append_48

theorem dX12_truncate_0 : decode cX12_truncate 0 = .ok (.iload_n 1, 1) := by decide +kernel
theorem dX12_truncate_1 : decode cX12_truncate 1 = .ok (.ifCond .lt 11, 3) := by decide +kernel
theorem dX12_truncate_4 : decode cX12_truncate 4 = .ok (.iload_n 1, 1) := by decide +kernel
theorem dX12_truncate_5 : decode cX12_truncate 5 = .ok (.aload_n 0, 1) := by decide +kernel
theorem dX12_truncate_6 : decode cX12_truncate 6 = .ok (.getfield 70, 3) := by decide +kernel
theorem dX12_truncate_9 : decode cX12_truncate 9 = .ok (.if_icmp .le 5, 3) := by decide +kernel
theorem dX12_truncate_12 : decode cX12_truncate 12 = .ok (.iconst 0, 1) := by decide +kernel
theorem dX12_truncate_13 : decode cX12_truncate 13 = .ok (.ireturn, 1) := by decide +kernel
theorem dX12_truncate_14 : decode cX12_truncate 14 = .ok (.aload_n 0, 1) := by decide +kernel
theorem dX12_truncate_15 : decode cX12_truncate 15 = .ok (.iload_n 1, 1) := by decide +kernel
theorem dX12_truncate_16 : decode cX12_truncate 16 = .ok (.putfield 70, 3) := by decide +kernel
theorem dX12_truncate_19 : decode cX12_truncate 19 = .ok (.iconst 1, 1) := by decide +kernel
theorem dX12_truncate_20 : decode cX12_truncate 20 = .ok (.ireturn, 1) := by decide +kernel
theorem hd_X12_truncate : yX12_truncate.cls = RX12 ∧ yX12_truncate.cls ≠ "java/lang/invoke/MethodHandle" ∧ yX12_truncate.cls ≠ "java/lang/invoke/VarHandle" ∧ (parseMethodDescriptor yX12_truncate.desc).map (fun d => d.parameters.length) = some 1 := by decide +kernel
theorem hs_X12_truncate : yX12_truncate.cls ≠ "java/lang/invoke/MethodHandle" ∧ yX12_truncate.cls ≠ "java/lang/invoke/VarHandle" ∧ (parseMethodDescriptor yX12_truncate.desc).map (fun d => d.parameters.length) = some 1 := by decide +kernel
set_option maxHeartbeats 4000000 in
set_option maxRecDepth 100000 in
theorem k_X12_truncate (l : Launch) (E : Ev) (K : Kd) (z : Nat) (o : Nat) (a_1 : Int32) (w : Wd) (ho : K o = some (10, 0)) {r : Bool} {w' : Wd} (hf : f_X12_truncate K o a_1 w = some (r, w')) : Met l yX12_truncate (Cond.code yX12_truncate cX12_truncate 2 (Option.some Jvm.ClassFile.FieldType.boolean) :: bt) ({ frames := 0, cells := 0, slots := 0, locals := 0 } : Room) (va_Pc [rv E (some o), .int a_1] (HB E K w z)) (QI E K z w' (b2i r)) 0 0 (hA E) := by
  refine Met.ofW (cc := cX12_truncate) (maxL := 2) (ret := (Option.some Jvm.ClassFile.FieldType.boolean)) (by decide) rfl ?_
  intro p e s m args below meth c s₁ B hml hv
  obtain ⟨rfl, hz, hP, hKs, hT, hb0⟩ := hv
  have C : CX p l e s m _ meth c cX12_truncate 2 RX12 (Option.some Jvm.ClassFile.FieldType.boolean) E := ⟨B.exec, B.bytes, hml, findClass_of_methodNamed B.named, fun w h => atoms_spec (ws := Cond.code yX12_truncate cX12_truncate 2 (Option.some Jvm.ClassFile.FieldType.boolean) :: bt) B.pre w (List.mem_cons_of_mem _ h), hKs, hT, by rw [hz]; exact hb0, B.notSynchronized, B.returns⟩
  have hH : HQ E K z w s s.heap [] := ⟨hP, va_S.rf, hz⟩
  obtain ⟨hx, hb, hml, hown, hts, hKs, hT, hb0, hlocks, hret⟩ := id C
  have hl := lv_entry [rv E (some o), .int a_1] (n := 2) (by simp [lg_len_nil, lg_len_i, lg_len_j, lg_len_q, lg_len_f, lg_len_d, lg_len_r])
  rw [lg_entry_eq]
  generalize (lg_sl [rv E (some o), .int a_1] ++ List.replicate (2 - (lg_sl [rv E (some o), .int a_1]).length) Slot.unset).toArray = ls at hl ⊢
  replace hl : lv_has ls 2 [(0, rv E (some o)), (1, .int a_1)] := by simpa only [lv_args, cat_q, cat_i, cat_j, reduceIte, Nat.reduceEqDiff, Nat.reduceAdd, Nat.zero_add] using hl
  generalize s.heap = H at hH ⊢
  unfold f_X12_truncate at hf
  refine lv_iload_n hx hb dX12_truncate_0 rfl (lv_at hl 1 rfl) ?_
  refine lv_if_lt (tgt := 12) hx hb dX12_truncate_1 (by decide) (fun c1 => ?_) (fun c1 => ?_)
  · replace hf := (if_pos c1).symm.trans hf
    refine lv_iconst (v := 0) hx hb dX12_truncate_12 (by decide) ?_
    exact hw_zret hx hb hret rfl hf hH hlocks dX12_truncate_13
  · replace hf := (if_neg c1).symm.trans hf
    refine lv_iload_n hx hb dX12_truncate_4 rfl (lv_at hl 1 rfl) ?_
    refine hl_aload_n hx hb dX12_truncate_5 rfl (lv_at hl 0 rfl) ?_
    refine g12_1 hx hb hts hown hKs hH rfl ho m2_220 dX12_truncate_6 ?_
    refine lv_icmp_le (tgt := 14) hx hb dX12_truncate_9 (by decide) (fun c2 => ?_) (fun c2 => ?_)
    · replace hf := (if_pos c2).symm.trans hf
      refine hl_aload_n hx hb dX12_truncate_14 rfl (lv_at hl 0 rfl) ?_
      refine lv_iload_n hx hb dX12_truncate_15 rfl (lv_at hl 1 rfl) ?_
      obtain ⟨w3, hw3, hf⟩ := bnd hf
      replace hw3 := Option.some.inj hw3
      refine p12_1 (v := a_1) hx hb hts hown hKs hH rfl ho m2_220 dX12_truncate_16 (fun H locs hH => ?_)
      rw [hw3] at hH
      refine lv_iconst (v := 1) hx hb dX12_truncate_19 (by decide) ?_
      exact hw_zret hx hb hret rfl hf hH hlocks dX12_truncate_20
    · replace hf := (if_neg c2).symm.trans hf
      refine lv_iconst (v := 0) hx hb dX12_truncate_12 (by decide) ?_
      exact hw_zret hx hb hret rfl hf hH hlocks dX12_truncate_13

theorem dX12_errorCode_0 : decode cX12_errorCode 0 = .ok (.aload_n 0, 1) := by decide +kernel
theorem dX12_errorCode_1 : decode cX12_errorCode 1 = .ok (.getfield 23, 3) := by decide +kernel
theorem dX12_errorCode_4 : decode cX12_errorCode 4 = .ok (.ireturn, 1) := by decide +kernel
theorem hd_X12_errorCode : yX12_errorCode.cls = RX12 ∧ yX12_errorCode.cls ≠ "java/lang/invoke/MethodHandle" ∧ yX12_errorCode.cls ≠ "java/lang/invoke/VarHandle" ∧ (parseMethodDescriptor yX12_errorCode.desc).map (fun d => d.parameters.length) = some 0 := by decide +kernel
theorem hs_X12_errorCode : yX12_errorCode.cls ≠ "java/lang/invoke/MethodHandle" ∧ yX12_errorCode.cls ≠ "java/lang/invoke/VarHandle" ∧ (parseMethodDescriptor yX12_errorCode.desc).map (fun d => d.parameters.length) = some 0 := by decide +kernel
set_option maxHeartbeats 4000000 in
set_option maxRecDepth 100000 in
theorem k_X12_errorCode (l : Launch) (E : Ev) (K : Kd) (z : Nat) (o : Nat) (w : Wd) (ho : K o = some (10, 0)) {r : Int32} {w' : Wd} (hf : f_X12_errorCode K o w = some (r, w')) : Met l yX12_errorCode (Cond.code yX12_errorCode cX12_errorCode 1 (Option.some Jvm.ClassFile.FieldType.int) :: bt) ({ frames := 0, cells := 0, slots := 0, locals := 0 } : Room) (va_Pc [rv E (some o)] (HB E K w z)) (QI E K z w' r) 0 0 (hA E) := by
  refine Met.ofW (cc := cX12_errorCode) (maxL := 1) (ret := (Option.some Jvm.ClassFile.FieldType.int)) (by decide) rfl ?_
  intro p e s m args below meth c s₁ B hml hv
  obtain ⟨rfl, hz, hP, hKs, hT, hb0⟩ := hv
  have C : CX p l e s m _ meth c cX12_errorCode 1 RX12 (Option.some Jvm.ClassFile.FieldType.int) E := ⟨B.exec, B.bytes, hml, findClass_of_methodNamed B.named, fun w h => atoms_spec (ws := Cond.code yX12_errorCode cX12_errorCode 1 (Option.some Jvm.ClassFile.FieldType.int) :: bt) B.pre w (List.mem_cons_of_mem _ h), hKs, hT, by rw [hz]; exact hb0, B.notSynchronized, B.returns⟩
  have hH : HQ E K z w s s.heap [] := ⟨hP, va_S.rf, hz⟩
  obtain ⟨hx, hb, hml, hown, hts, hKs, hT, hb0, hlocks, hret⟩ := id C
  have hl := lv_entry [rv E (some o)] (n := 1) (by simp [lg_len_nil, lg_len_i, lg_len_j, lg_len_q, lg_len_f, lg_len_d, lg_len_r])
  rw [lg_entry_eq]
  generalize (lg_sl [rv E (some o)] ++ List.replicate (1 - (lg_sl [rv E (some o)]).length) Slot.unset).toArray = ls at hl ⊢
  replace hl : lv_has ls 1 [(0, rv E (some o))] := by simpa only [lv_args, cat_q, cat_i, cat_j, reduceIte, Nat.reduceEqDiff, Nat.reduceAdd, Nat.zero_add] using hl
  generalize s.heap = H at hH ⊢
  unfold f_X12_errorCode at hf
  refine hl_aload_n hx hb dX12_errorCode_0 rfl (lv_at hl 0 rfl) ?_
  refine g12_3 hx hb hts hown hKs hH rfl ho m2_222 dX12_errorCode_1 ?_
  exact hw_iret hx hb hret hf hH hlocks dX12_errorCode_4

theorem dX12_errorOffset_0 : decode cX12_errorOffset 0 = .ok (.aload_n 0, 1) := by decide +kernel
theorem dX12_errorOffset_1 : decode cX12_errorOffset 1 = .ok (.getfield 27, 3) := by decide +kernel
theorem dX12_errorOffset_4 : decode cX12_errorOffset 4 = .ok (.ireturn, 1) := by decide +kernel
theorem hd_X12_errorOffset : yX12_errorOffset.cls = RX12 ∧ yX12_errorOffset.cls ≠ "java/lang/invoke/MethodHandle" ∧ yX12_errorOffset.cls ≠ "java/lang/invoke/VarHandle" ∧ (parseMethodDescriptor yX12_errorOffset.desc).map (fun d => d.parameters.length) = some 0 := by decide +kernel
theorem hs_X12_errorOffset : yX12_errorOffset.cls ≠ "java/lang/invoke/MethodHandle" ∧ yX12_errorOffset.cls ≠ "java/lang/invoke/VarHandle" ∧ (parseMethodDescriptor yX12_errorOffset.desc).map (fun d => d.parameters.length) = some 0 := by decide +kernel
set_option maxHeartbeats 4000000 in
set_option maxRecDepth 100000 in
theorem k_X12_errorOffset (l : Launch) (E : Ev) (K : Kd) (z : Nat) (o : Nat) (w : Wd) (ho : K o = some (10, 0)) {r : Int32} {w' : Wd} (hf : f_X12_errorOffset K o w = some (r, w')) : Met l yX12_errorOffset (Cond.code yX12_errorOffset cX12_errorOffset 1 (Option.some Jvm.ClassFile.FieldType.int) :: bt) ({ frames := 0, cells := 0, slots := 0, locals := 0 } : Room) (va_Pc [rv E (some o)] (HB E K w z)) (QI E K z w' r) 0 0 (hA E) := by
  refine Met.ofW (cc := cX12_errorOffset) (maxL := 1) (ret := (Option.some Jvm.ClassFile.FieldType.int)) (by decide) rfl ?_
  intro p e s m args below meth c s₁ B hml hv
  obtain ⟨rfl, hz, hP, hKs, hT, hb0⟩ := hv
  have C : CX p l e s m _ meth c cX12_errorOffset 1 RX12 (Option.some Jvm.ClassFile.FieldType.int) E := ⟨B.exec, B.bytes, hml, findClass_of_methodNamed B.named, fun w h => atoms_spec (ws := Cond.code yX12_errorOffset cX12_errorOffset 1 (Option.some Jvm.ClassFile.FieldType.int) :: bt) B.pre w (List.mem_cons_of_mem _ h), hKs, hT, by rw [hz]; exact hb0, B.notSynchronized, B.returns⟩
  have hH : HQ E K z w s s.heap [] := ⟨hP, va_S.rf, hz⟩
  obtain ⟨hx, hb, hml, hown, hts, hKs, hT, hb0, hlocks, hret⟩ := id C
  have hl := lv_entry [rv E (some o)] (n := 1) (by simp [lg_len_nil, lg_len_i, lg_len_j, lg_len_q, lg_len_f, lg_len_d, lg_len_r])
  rw [lg_entry_eq]
  generalize (lg_sl [rv E (some o)] ++ List.replicate (1 - (lg_sl [rv E (some o)]).length) Slot.unset).toArray = ls at hl ⊢
  replace hl : lv_has ls 1 [(0, rv E (some o))] := by simpa only [lv_args, cat_q, cat_i, cat_j, reduceIte, Nat.reduceEqDiff, Nat.reduceAdd, Nat.zero_add] using hl
  generalize s.heap = H at hH ⊢
  unfold f_X12_errorOffset at hf
  refine hl_aload_n hx hb dX12_errorOffset_0 rfl (lv_at hl 0 rfl) ?_
  refine g12_4 hx hb hts hown hKs hH rfl ho m2_223 dX12_errorOffset_1 ?_
  exact hw_iret hx hb hret hf hH hlocks dX12_errorOffset_4

theorem dX12_print_0 : decode cX12_print 0 = .ok (.aload_n 0, 1) := by decide +kernel
theorem dX12_print_1 : decode cX12_print 1 = .ok (.getfield 369, 3) := by decide +kernel
theorem dX12_print_4 : decode cX12_print 4 = .ok (.aload_n 0, 1) := by decide +kernel
theorem dX12_print_5 : decode cX12_print 5 = .ok (.getfield 67, 3) := by decide +kernel
theorem dX12_print_8 : decode cX12_print 8 = .ok (.arraylength, 1) := by decide +kernel
theorem dX12_print_9 : decode cX12_print 9 = .ok (.if_icmp .ge 23, 3) := by decide +kernel
theorem dX12_print_12 : decode cX12_print 12 = .ok (.aload_n 0, 1) := by decide +kernel
theorem dX12_print_13 : decode cX12_print 13 = .ok (.getfield 67, 3) := by decide +kernel
theorem dX12_print_16 : decode cX12_print 16 = .ok (.aload_n 0, 1) := by decide +kernel
theorem dX12_print_17 : decode cX12_print 17 = .ok (.getfield 369, 3) := by decide +kernel
theorem dX12_print_20 : decode cX12_print 20 = .ok (.iload_n 1, 1) := by decide +kernel
theorem dX12_print_21 : decode cX12_print 21 = .ok (.bastore, 1) := by decide +kernel
theorem dX12_print_22 : decode cX12_print 22 = .ok (.aload_n 0, 1) := by decide +kernel
theorem dX12_print_23 : decode cX12_print 23 = .ok (.dup, 1) := by decide +kernel
theorem dX12_print_24 : decode cX12_print 24 = .ok (.getfield 369, 3) := by decide +kernel
theorem dX12_print_27 : decode cX12_print 27 = .ok (.iconst 1, 1) := by decide +kernel
theorem dX12_print_28 : decode cX12_print 28 = .ok (.iadd, 1) := by decide +kernel
theorem dX12_print_29 : decode cX12_print 29 = .ok (.putfield 369, 3) := by decide +kernel
theorem dX12_print_32 : decode cX12_print 32 = .ok (.return_, 1) := by decide +kernel
theorem hd_X12_print : yX12_print.cls = RX12 ∧ yX12_print.cls ≠ "java/lang/invoke/MethodHandle" ∧ yX12_print.cls ≠ "java/lang/invoke/VarHandle" ∧ (parseMethodDescriptor yX12_print.desc).map (fun d => d.parameters.length) = some 1 := by decide +kernel
theorem hs_X12_print : yX12_print.cls ≠ "java/lang/invoke/MethodHandle" ∧ yX12_print.cls ≠ "java/lang/invoke/VarHandle" ∧ (parseMethodDescriptor yX12_print.desc).map (fun d => d.parameters.length) = some 1 := by decide +kernel
set_option maxHeartbeats 4000000 in
set_option maxRecDepth 100000 in
theorem k_X12_print (l : Launch) (E : Ev) (K : Kd) (z : Nat) (o : Nat) (a_1 : Int32) (w : Wd) (ho : K o = some (10, 0)) {w' : Wd} (hf : f_X12_print K o a_1 w = some w') : Met l yX12_print (Cond.code yX12_print cX12_print 2 (Option.none : Option Jvm.ClassFile.FieldType) :: bt) ({ frames := 0, cells := 0, slots := 0, locals := 0 } : Room) (va_Pc [rv E (some o), .int a_1] (HB E K w z)) (QV E K z w') 0 0 (hA E) := by
  refine Met.ofW (cc := cX12_print) (maxL := 2) (ret := (Option.none : Option Jvm.ClassFile.FieldType)) (by decide) rfl ?_
  intro p e s m args below meth c s₁ B hml hv
  obtain ⟨rfl, hz, hP, hKs, hT, hb0⟩ := hv
  have C : CX p l e s m _ meth c cX12_print 2 RX12 (Option.none : Option Jvm.ClassFile.FieldType) E := ⟨B.exec, B.bytes, hml, findClass_of_methodNamed B.named, fun w h => atoms_spec (ws := Cond.code yX12_print cX12_print 2 (Option.none : Option Jvm.ClassFile.FieldType) :: bt) B.pre w (List.mem_cons_of_mem _ h), hKs, hT, by rw [hz]; exact hb0, B.notSynchronized, B.returns⟩
  have hH : HQ E K z w s s.heap [] := ⟨hP, va_S.rf, hz⟩
  obtain ⟨hx, hb, hml, hown, hts, hKs, hT, hb0, hlocks, hret⟩ := id C
  have hl := lv_entry [rv E (some o), .int a_1] (n := 2) (by simp [lg_len_nil, lg_len_i, lg_len_j, lg_len_q, lg_len_f, lg_len_d, lg_len_r])
  rw [lg_entry_eq]
  generalize (lg_sl [rv E (some o), .int a_1] ++ List.replicate (2 - (lg_sl [rv E (some o), .int a_1]).length) Slot.unset).toArray = ls at hl ⊢
  replace hl : lv_has ls 2 [(0, rv E (some o)), (1, .int a_1)] := by simpa only [lv_args, cat_q, cat_i, cat_j, reduceIte, Nat.reduceEqDiff, Nat.reduceAdd, Nat.zero_add] using hl
  generalize s.heap = H at hH ⊢
  unfold f_X12_print at hf
  refine hl_aload_n hx hb dX12_print_0 rfl (lv_at hl 0 rfl) ?_
  refine g12_15 hx hb hts hown hKs hH rfl ho m2_234 dX12_print_1 ?_
  refine hl_aload_n hx hb dX12_print_4 rfl (lv_at hl 0 rfl) ?_
  refine g12_14 hx hb hts hown hKs hH rfl ho m2_233 dX12_print_5 ?_
  obtain ⟨a1, ha1, hf⟩ := bnd hf
  replace ha1 := cha_some ha1
  refine hw_alen21 hx hb hKs hH ha1.1 ha1.2 dX12_print_8 ?_
  refine lv_icmp_ge (tgt := 32) hx hb dX12_print_9 (by decide) (fun c2 => ?_) (fun c2 => ?_)
  · replace hf := (if_pos c2).symm.trans hf
    exact hw_vret hx hb hret hf hH hlocks dX12_print_32
  · replace hf := (if_neg c2).symm.trans hf
    refine hl_aload_n hx hb dX12_print_12 rfl (lv_at hl 0 rfl) ?_
    refine g12_14 hx hb hts hown hKs hH rfl ho m2_233 dX12_print_13 ?_
    refine hl_aload_n hx hb dX12_print_16 rfl (lv_at hl 0 rfl) ?_
    refine g12_15 hx hb hts hown hKs hH rfl ho m2_234 dX12_print_17 ?_
    refine lv_iload_n hx hb dX12_print_20 rfl (lv_at hl 1 rfl) ?_
    obtain ⟨j3, hj3, hf⟩ := bnd hf
    obtain ⟨w4, hw4, hf⟩ := bnd hf
    replace hw4 := Option.some.inj hw4
    refine hw_bast (x := a_1) hx hb hKs hH ha1.1 ha1.2 hj3 dX12_print_21 (fun H locs hH => ?_)
    rw [hw4] at hH
    refine hl_aload_n hx hb dX12_print_22 rfl (lv_at hl 0 rfl) ?_
    refine lv_dup hx hb dX12_print_23 rv_cat ?_
    refine g12_15 hx hb hts hown hKs hH rfl ho m2_234 dX12_print_24 ?_
    refine lv_iconst (v := 1) hx hb dX12_print_27 (by decide) ?_
    refine lv_iadd hx hb dX12_print_28 ?_
    obtain ⟨w5, hw5, hf⟩ := bnd hf
    replace hw5 := Option.some.inj hw5
    refine p12_15 (v := ((wI w4 1215 o) + 1)) hx hb hts hown hKs hH rfl ho m2_234 dX12_print_29 (fun H locs hH => ?_)
    rw [hw5] at hH
    exact hw_vret hx hb hret hf hH hlocks dX12_print_32

theorem dX12_outputByte_0 : decode cX12_outputByte 0 = .ok (.iload_n 1, 1) := by decide +kernel
theorem dX12_outputByte_1 : decode cX12_outputByte 1 = .ok (.ifCond .lt 11, 3) := by decide +kernel
theorem dX12_outputByte_4 : decode cX12_outputByte 4 = .ok (.iload_n 1, 1) := by decide +kernel
theorem dX12_outputByte_5 : decode cX12_outputByte 5 = .ok (.aload_n 0, 1) := by decide +kernel
theorem dX12_outputByte_6 : decode cX12_outputByte 6 = .ok (.getfield 369, 3) := by decide +kernel
theorem dX12_outputByte_9 : decode cX12_outputByte 9 = .ok (.if_icmp .lt 7, 3) := by decide +kernel
theorem dX12_outputByte_12 : decode cX12_outputByte 12 = .ok (.iconst (-1), 1) := by decide +kernel
theorem dX12_outputByte_13 : decode cX12_outputByte 13 = .ok (.goto 9, 3) := by decide +kernel
theorem dX12_outputByte_16 : decode cX12_outputByte 16 = .ok (.aload_n 0, 1) := by decide +kernel
theorem dX12_outputByte_17 : decode cX12_outputByte 17 = .ok (.getfield 67, 3) := by decide +kernel
theorem dX12_outputByte_20 : decode cX12_outputByte 20 = .ok (.iload_n 1, 1) := by decide +kernel
theorem dX12_outputByte_21 : decode cX12_outputByte 21 = .ok (.baload, 1) := by decide +kernel
theorem dX12_outputByte_22 : decode cX12_outputByte 22 = .ok (.ireturn, 1) := by decide +kernel
theorem hd_X12_outputByte : yX12_outputByte.cls = RX12 ∧ yX12_outputByte.cls ≠ "java/lang/invoke/MethodHandle" ∧ yX12_outputByte.cls ≠ "java/lang/invoke/VarHandle" ∧ (parseMethodDescriptor yX12_outputByte.desc).map (fun d => d.parameters.length) = some 1 := by decide +kernel
theorem hs_X12_outputByte : yX12_outputByte.cls ≠ "java/lang/invoke/MethodHandle" ∧ yX12_outputByte.cls ≠ "java/lang/invoke/VarHandle" ∧ (parseMethodDescriptor yX12_outputByte.desc).map (fun d => d.parameters.length) = some 1 := by decide +kernel
set_option maxHeartbeats 4000000 in
set_option maxRecDepth 100000 in
theorem k_X12_outputByte (l : Launch) (E : Ev) (K : Kd) (z : Nat) (o : Nat) (a_1 : Int32) (w : Wd) (ho : K o = some (10, 0)) {r : Int32} {w' : Wd} (hf : f_X12_outputByte K o a_1 w = some (r, w')) : Met l yX12_outputByte (Cond.code yX12_outputByte cX12_outputByte 2 (Option.some Jvm.ClassFile.FieldType.int) :: bt) ({ frames := 0, cells := 0, slots := 0, locals := 0 } : Room) (va_Pc [rv E (some o), .int a_1] (HB E K w z)) (QI E K z w' r) 0 0 (hA E) := by
  refine Met.ofW (cc := cX12_outputByte) (maxL := 2) (ret := (Option.some Jvm.ClassFile.FieldType.int)) (by decide) rfl ?_
  intro p e s m args below meth c s₁ B hml hv
  obtain ⟨rfl, hz, hP, hKs, hT, hb0⟩ := hv
  have C : CX p l e s m _ meth c cX12_outputByte 2 RX12 (Option.some Jvm.ClassFile.FieldType.int) E := ⟨B.exec, B.bytes, hml, findClass_of_methodNamed B.named, fun w h => atoms_spec (ws := Cond.code yX12_outputByte cX12_outputByte 2 (Option.some Jvm.ClassFile.FieldType.int) :: bt) B.pre w (List.mem_cons_of_mem _ h), hKs, hT, by rw [hz]; exact hb0, B.notSynchronized, B.returns⟩
  have hH : HQ E K z w s s.heap [] := ⟨hP, va_S.rf, hz⟩
  obtain ⟨hx, hb, hml, hown, hts, hKs, hT, hb0, hlocks, hret⟩ := id C
  have hl := lv_entry [rv E (some o), .int a_1] (n := 2) (by simp [lg_len_nil, lg_len_i, lg_len_j, lg_len_q, lg_len_f, lg_len_d, lg_len_r])
  rw [lg_entry_eq]
  generalize (lg_sl [rv E (some o), .int a_1] ++ List.replicate (2 - (lg_sl [rv E (some o), .int a_1]).length) Slot.unset).toArray = ls at hl ⊢
  replace hl : lv_has ls 2 [(0, rv E (some o)), (1, .int a_1)] := by simpa only [lv_args, cat_q, cat_i, cat_j, reduceIte, Nat.reduceEqDiff, Nat.reduceAdd, Nat.zero_add] using hl
  generalize s.heap = H at hH ⊢
  unfold f_X12_outputByte at hf
  refine lv_iload_n hx hb dX12_outputByte_0 rfl (lv_at hl 1 rfl) ?_
  refine lv_if_lt (tgt := 12) hx hb dX12_outputByte_1 (by decide) (fun c1 => ?_) (fun c1 => ?_)
  · replace hf := (if_pos c1).symm.trans hf
    refine lv_iconst (v := (-1)) hx hb dX12_outputByte_12 (by decide) ?_
    refine lv_goto (tgt := 22) hx hb dX12_outputByte_13 (by decide) ?_
    exact hw_iret hx hb hret hf hH hlocks dX12_outputByte_22
  · replace hf := (if_neg c1).symm.trans hf
    refine lv_iload_n hx hb dX12_outputByte_4 rfl (lv_at hl 1 rfl) ?_
    refine hl_aload_n hx hb dX12_outputByte_5 rfl (lv_at hl 0 rfl) ?_
    refine g12_15 hx hb hts hown hKs hH rfl ho m2_234 dX12_outputByte_6 ?_
    refine lv_icmp_lt (tgt := 16) hx hb dX12_outputByte_9 (by decide) (fun c2 => ?_) (fun c2 => ?_)
    · replace hf := (if_pos c2).symm.trans hf
      refine hl_aload_n hx hb dX12_outputByte_16 rfl (lv_at hl 0 rfl) ?_
      refine g12_14 hx hb hts hown hKs hH rfl ho m2_233 dX12_outputByte_17 ?_
      refine lv_iload_n hx hb dX12_outputByte_20 rfl (lv_at hl 1 rfl) ?_
      obtain ⟨a3, ha3, hf⟩ := bnd hf
      replace ha3 := cha_some ha3
      obtain ⟨j4, hj4, hf⟩ := bnd hf
      refine hw_bald hx hb hKs hH ha3.1 ha3.2 hj4 dX12_outputByte_21 ?_
      exact hw_iret hx hb hret hf hH hlocks dX12_outputByte_22
    · replace hf := (if_neg c2).symm.trans hf
      refine lv_iconst (v := (-1)) hx hb dX12_outputByte_12 (by decide) ?_
      refine lv_goto (tgt := 22) hx hb dX12_outputByte_13 (by decide) ?_
      exact hw_iret hx hb hret hf hH hlocks dX12_outputByte_22

theorem dX12_requireDay_0 : decode cX12_requireDay 0 = .ok (.iload_n 1, 1) := by decide +kernel
theorem dX12_requireDay_1 : decode cX12_requireDay 1 = .ok (.ifCond .lt 10, 3) := by decide +kernel
theorem dX12_requireDay_4 : decode cX12_requireDay 4 = .ok (.iload_n 1, 1) := by decide +kernel
theorem dX12_requireDay_5 : decode cX12_requireDay 5 = .ok (.sipush 600, 3) := by decide +kernel
theorem dX12_requireDay_8 : decode cX12_requireDay 8 = .ok (.if_icmp .lt 11, 3) := by decide +kernel
theorem dX12_requireDay_11 : decode cX12_requireDay 11 = .ok (.new 133, 3) := by decide +kernel
theorem dX12_requireDay_14 : decode cX12_requireDay 14 = .ok (.dup, 1) := by decide +kernel
theorem dX12_requireDay_15 : decode cX12_requireDay 15 = .ok (.invokespecial 135, 3) := by decide +kernel
theorem dX12_requireDay_18 : decode cX12_requireDay 18 = .ok (.athrow, 1) := by decide +kernel
theorem dX12_requireDay_19 : decode cX12_requireDay 19 = .ok (.return_, 1) := by decide +kernel
theorem hd_X12_requireDay : yX12_requireDay.cls = RX12 ∧ yX12_requireDay.cls ≠ "java/lang/invoke/MethodHandle" ∧ yX12_requireDay.cls ≠ "java/lang/invoke/VarHandle" ∧ (parseMethodDescriptor yX12_requireDay.desc).map (fun d => d.parameters.length) = some 1 := by decide +kernel
theorem hs_X12_requireDay : yX12_requireDay.cls ≠ "java/lang/invoke/MethodHandle" ∧ yX12_requireDay.cls ≠ "java/lang/invoke/VarHandle" ∧ (parseMethodDescriptor yX12_requireDay.desc).map (fun d => d.parameters.length) = some 1 := by decide +kernel
set_option maxHeartbeats 4000000 in
set_option maxRecDepth 100000 in
theorem k_X12_requireDay (l : Launch) (hls : l.stackTraces = false) (E : Ev) (K : Kd) (z : Nat) (o : Nat) (a_1 : Int32) (w : Wd) (ho : K o = some (10, 0)) {r : Unit ⊕ Nat} {w' : Wd} (hf : f_X12_requireDay K o a_1 w = some (r, w')) : vx_Met l yX12_requireDay (Cond.code yX12_requireDay cX12_requireDay 2 (Option.none : Option Jvm.ClassFile.FieldType) :: bt) ({ frames := 6, cells := 1, slots := 6, locals := 90 } : Room) (va_Pc [rv E (some o), .int a_1] (HB E K w z)) (XV E K z w' r) (XX E K w' r) 1 6 (hA E) := by
  refine vx_ofW (cc := cX12_requireDay) (maxL := 2) (ret := (Option.none : Option Jvm.ClassFile.FieldType)) (by decide) rfl ?_
  intro p e s m args below meth c s₁ B hml hout hv
  obtain ⟨rfl, hz, hP, hKs, hT, hb0⟩ := hv
  have C : CX p l e s m _ meth c cX12_requireDay 2 RX12 (Option.none : Option Jvm.ClassFile.FieldType) E := ⟨B.exec, B.bytes, hml, findClass_of_methodNamed B.named, fun w h => atoms_spec (ws := Cond.code yX12_requireDay cX12_requireDay 2 (Option.none : Option Jvm.ClassFile.FieldType) :: bt) B.pre w (List.mem_cons_of_mem _ h), hKs, hT, by rw [hz]; exact hb0, B.notSynchronized, B.returns⟩
  have hH : HQ E K z w s s.heap [] := ⟨hP, va_S.rf, hz⟩
  obtain ⟨hx, hb, hml, hown, hts, hKs, hT, hb0, hlocks, hret⟩ := id C
  have hl := lv_entry [rv E (some o), .int a_1] (n := 2) (by simp [lg_len_nil, lg_len_i, lg_len_j, lg_len_q, lg_len_f, lg_len_d, lg_len_r])
  rw [lg_entry_eq]
  generalize (lg_sl [rv E (some o), .int a_1] ++ List.replicate (2 - (lg_sl [rv E (some o), .int a_1]).length) Slot.unset).toArray = ls at hl ⊢
  replace hl : lv_has ls 2 [(0, rv E (some o)), (1, .int a_1)] := by simpa only [lv_args, cat_q, cat_i, cat_j, reduceIte, Nat.reduceEqDiff, Nat.reduceAdd, Nat.zero_add] using hl
  generalize s.heap = H at hH ⊢
  unfold f_X12_requireDay at hf
  refine lv_iload_n hx hb dX12_requireDay_0 rfl (lv_at hl 1 rfl) ?_
  refine lv_if_lt (tgt := 11) hx hb dX12_requireDay_1 (by decide) (fun c1 => ?_) (fun c1 => ?_)
  · replace hf := (if_pos c1).symm.trans hf
    exact hx_throw hx hb hls (code := 2) hml hl.1 hown hts hKs hT hb0 hH (by decide) rfl m4_217 m1_27 hat_RX12_135 dX12_requireDay_11 dX12_requireDay_14 dX12_requireDay_15 dX12_requireDay_18 hout (Nat.le_of_ble_eq_true rfl) rc0 (Nat.le_of_ble_eq_true rfl) (Nat.le_of_ble_eq_true rfl) (Nat.le_of_ble_eq_true rfl) hlocks hf (Nat.le_of_ble_eq_true rfl) (Nat.le_of_ble_eq_true rfl)
  · replace hf := (if_neg c1).symm.trans hf
    refine lv_iload_n hx hb dX12_requireDay_4 rfl (lv_at hl 1 rfl) ?_
    refine lv_sipush (v := 600) hx hb dX12_requireDay_5 (by decide) ?_
    refine lv_icmp_lt (tgt := 19) hx hb dX12_requireDay_8 (by decide) (fun c2 => ?_) (fun c2 => ?_)
    · replace hf := (if_pos c2).symm.trans hf
      exact hx_vret hx hb (Nat.le_of_ble_eq_true rfl) (Nat.le_of_ble_eq_true rfl) hret hf hH hlocks dX12_requireDay_19
    · replace hf := (if_neg c2).symm.trans hf
      exact hx_throw hx hb hls (code := 2) hml hl.1 hown hts hKs hT hb0 hH (by decide) rfl m4_217 m1_27 hat_RX12_135 dX12_requireDay_11 dX12_requireDay_14 dX12_requireDay_15 dX12_requireDay_18 hout (Nat.le_of_ble_eq_true rfl) rc0 (Nat.le_of_ble_eq_true rfl) (Nat.le_of_ble_eq_true rfl) (Nat.le_of_ble_eq_true rfl) hlocks hf (Nat.le_of_ble_eq_true rfl) (Nat.le_of_ble_eq_true rfl)

theorem dX12_requireComingDay_0 : decode cX12_requireComingDay 0 = .ok (.iload_n 1, 1) := by decide +kernel
theorem dX12_requireComingDay_1 : decode cX12_requireComingDay 1 = .ok (.aload_n 0, 1) := by decide +kernel
theorem dX12_requireComingDay_2 : decode cX12_requireComingDay 2 = .ok (.getfield 35, 3) := by decide +kernel
theorem dX12_requireComingDay_5 : decode cX12_requireComingDay 5 = .ok (.getfield 124, 3) := by decide +kernel
theorem dX12_requireComingDay_8 : decode cX12_requireComingDay 8 = .ok (.if_icmp .lt 10, 3) := by decide +kernel
theorem dX12_requireComingDay_11 : decode cX12_requireComingDay 11 = .ok (.iload_n 1, 1) := by decide +kernel
theorem dX12_requireComingDay_12 : decode cX12_requireComingDay 12 = .ok (.sipush 600, 3) := by decide +kernel
theorem dX12_requireComingDay_15 : decode cX12_requireComingDay 15 = .ok (.if_icmp .lt 11, 3) := by decide +kernel
theorem dX12_requireComingDay_18 : decode cX12_requireComingDay 18 = .ok (.new 133, 3) := by decide +kernel
theorem dX12_requireComingDay_21 : decode cX12_requireComingDay 21 = .ok (.dup, 1) := by decide +kernel
theorem dX12_requireComingDay_22 : decode cX12_requireComingDay 22 = .ok (.invokespecial 135, 3) := by decide +kernel
theorem dX12_requireComingDay_25 : decode cX12_requireComingDay 25 = .ok (.athrow, 1) := by decide +kernel
theorem dX12_requireComingDay_26 : decode cX12_requireComingDay 26 = .ok (.return_, 1) := by decide +kernel
theorem hd_X12_requireComingDay : yX12_requireComingDay.cls = RX12 ∧ yX12_requireComingDay.cls ≠ "java/lang/invoke/MethodHandle" ∧ yX12_requireComingDay.cls ≠ "java/lang/invoke/VarHandle" ∧ (parseMethodDescriptor yX12_requireComingDay.desc).map (fun d => d.parameters.length) = some 1 := by decide +kernel
theorem hs_X12_requireComingDay : yX12_requireComingDay.cls ≠ "java/lang/invoke/MethodHandle" ∧ yX12_requireComingDay.cls ≠ "java/lang/invoke/VarHandle" ∧ (parseMethodDescriptor yX12_requireComingDay.desc).map (fun d => d.parameters.length) = some 1 := by decide +kernel
set_option maxHeartbeats 4000000 in
set_option maxRecDepth 100000 in
theorem k_X12_requireComingDay (l : Launch) (hls : l.stackTraces = false) (E : Ev) (K : Kd) (z : Nat) (o : Nat) (a_1 : Int32) (w : Wd) (ho : K o = some (10, 0)) {r : Unit ⊕ Nat} {w' : Wd} (hf : f_X12_requireComingDay K o a_1 w = some (r, w')) : vx_Met l yX12_requireComingDay (Cond.code yX12_requireComingDay cX12_requireComingDay 2 (Option.none : Option Jvm.ClassFile.FieldType) :: bt) ({ frames := 6, cells := 1, slots := 6, locals := 90 } : Room) (va_Pc [rv E (some o), .int a_1] (HB E K w z)) (XV E K z w' r) (XX E K w' r) 1 6 (hA E) := by
  refine vx_ofW (cc := cX12_requireComingDay) (maxL := 2) (ret := (Option.none : Option Jvm.ClassFile.FieldType)) (by decide) rfl ?_
  intro p e s m args below meth c s₁ B hml hout hv
  obtain ⟨rfl, hz, hP, hKs, hT, hb0⟩ := hv
  have C : CX p l e s m _ meth c cX12_requireComingDay 2 RX12 (Option.none : Option Jvm.ClassFile.FieldType) E := ⟨B.exec, B.bytes, hml, findClass_of_methodNamed B.named, fun w h => atoms_spec (ws := Cond.code yX12_requireComingDay cX12_requireComingDay 2 (Option.none : Option Jvm.ClassFile.FieldType) :: bt) B.pre w (List.mem_cons_of_mem _ h), hKs, hT, by rw [hz]; exact hb0, B.notSynchronized, B.returns⟩
  have hH : HQ E K z w s s.heap [] := ⟨hP, va_S.rf, hz⟩
  obtain ⟨hx, hb, hml, hown, hts, hKs, hT, hb0, hlocks, hret⟩ := id C
  have hl := lv_entry [rv E (some o), .int a_1] (n := 2) (by simp [lg_len_nil, lg_len_i, lg_len_j, lg_len_q, lg_len_f, lg_len_d, lg_len_r])
  rw [lg_entry_eq]
  generalize (lg_sl [rv E (some o), .int a_1] ++ List.replicate (2 - (lg_sl [rv E (some o), .int a_1]).length) Slot.unset).toArray = ls at hl ⊢
  replace hl : lv_has ls 2 [(0, rv E (some o)), (1, .int a_1)] := by simpa only [lv_args, cat_q, cat_i, cat_j, reduceIte, Nat.reduceEqDiff, Nat.reduceAdd, Nat.zero_add] using hl
  generalize s.heap = H at hH ⊢
  unfold f_X12_requireComingDay at hf
  refine lv_iload_n hx hb dX12_requireComingDay_0 rfl (lv_at hl 1 rfl) ?_
  refine hl_aload_n hx hb dX12_requireComingDay_1 rfl (lv_at hl 0 rfl) ?_
  refine g12_5 hx hb hts hown hKs hH rfl ho m2_224 dX12_requireComingDay_2 ?_
  obtain ⟨a1, ha1, hf⟩ := bnd hf
  replace ha1 := chk_some ha1
  refine gn10_1 hx hb hts hown hKs hH ha1.1 ha1.2 m2_125 dX12_requireComingDay_5 ?_
  refine lv_icmp_lt (tgt := 18) hx hb dX12_requireComingDay_8 (by decide) (fun c2 => ?_) (fun c2 => ?_)
  · replace hf := (if_pos c2).symm.trans hf
    exact hx_throw hx hb hls (code := 2) hml hl.1 hown hts hKs hT hb0 hH (by decide) rfl m4_217 m1_27 hat_RX12_135 dX12_requireComingDay_18 dX12_requireComingDay_21 dX12_requireComingDay_22 dX12_requireComingDay_25 hout (Nat.le_of_ble_eq_true rfl) rc0 (Nat.le_of_ble_eq_true rfl) (Nat.le_of_ble_eq_true rfl) (Nat.le_of_ble_eq_true rfl) hlocks hf (Nat.le_of_ble_eq_true rfl) (Nat.le_of_ble_eq_true rfl)
  · replace hf := (if_neg c2).symm.trans hf
    refine lv_iload_n hx hb dX12_requireComingDay_11 rfl (lv_at hl 1 rfl) ?_
    refine lv_sipush (v := 600) hx hb dX12_requireComingDay_12 (by decide) ?_
    refine lv_icmp_lt (tgt := 26) hx hb dX12_requireComingDay_15 (by decide) (fun c3 => ?_) (fun c3 => ?_)
    · replace hf := (if_pos c3).symm.trans hf
      exact hx_vret hx hb (Nat.le_of_ble_eq_true rfl) (Nat.le_of_ble_eq_true rfl) hret hf hH hlocks dX12_requireComingDay_26
    · replace hf := (if_neg c3).symm.trans hf
      exact hx_throw hx hb hls (code := 2) hml hl.1 hown hts hKs hT hb0 hH (by decide) rfl m4_217 m1_27 hat_RX12_135 dX12_requireComingDay_18 dX12_requireComingDay_21 dX12_requireComingDay_22 dX12_requireComingDay_25 hout (Nat.le_of_ble_eq_true rfl) rc0 (Nat.le_of_ble_eq_true rfl) (Nat.le_of_ble_eq_true rfl) (Nat.le_of_ble_eq_true rfl) hlocks hf (Nat.le_of_ble_eq_true rfl) (Nat.le_of_ble_eq_true rfl)

theorem dX12_requireSpan_0 : decode cX12_requireSpan 0 = .ok (.iload_n 1, 1) := by decide +kernel
theorem dX12_requireSpan_1 : decode cX12_requireSpan 1 = .ok (.ifCond .lt 15, 3) := by decide +kernel
theorem dX12_requireSpan_4 : decode cX12_requireSpan 4 = .ok (.iload_n 2, 1) := by decide +kernel
theorem dX12_requireSpan_5 : decode cX12_requireSpan 5 = .ok (.iload_n 1, 1) := by decide +kernel
theorem dX12_requireSpan_6 : decode cX12_requireSpan 6 = .ok (.if_icmp .lt 10, 3) := by decide +kernel
theorem dX12_requireSpan_9 : decode cX12_requireSpan 9 = .ok (.iload_n 2, 1) := by decide +kernel
theorem dX12_requireSpan_10 : decode cX12_requireSpan 10 = .ok (.sipush 600, 3) := by decide +kernel
theorem dX12_requireSpan_13 : decode cX12_requireSpan 13 = .ok (.if_icmp .lt 11, 3) := by decide +kernel
theorem dX12_requireSpan_16 : decode cX12_requireSpan 16 = .ok (.new 133, 3) := by decide +kernel
theorem dX12_requireSpan_19 : decode cX12_requireSpan 19 = .ok (.dup, 1) := by decide +kernel
theorem dX12_requireSpan_20 : decode cX12_requireSpan 20 = .ok (.invokespecial 135, 3) := by decide +kernel
theorem dX12_requireSpan_23 : decode cX12_requireSpan 23 = .ok (.athrow, 1) := by decide +kernel
theorem dX12_requireSpan_24 : decode cX12_requireSpan 24 = .ok (.return_, 1) := by decide +kernel
theorem hd_X12_requireSpan : yX12_requireSpan.cls = RX12 ∧ yX12_requireSpan.cls ≠ "java/lang/invoke/MethodHandle" ∧ yX12_requireSpan.cls ≠ "java/lang/invoke/VarHandle" ∧ (parseMethodDescriptor yX12_requireSpan.desc).map (fun d => d.parameters.length) = some 2 := by decide +kernel
theorem hs_X12_requireSpan : yX12_requireSpan.cls ≠ "java/lang/invoke/MethodHandle" ∧ yX12_requireSpan.cls ≠ "java/lang/invoke/VarHandle" ∧ (parseMethodDescriptor yX12_requireSpan.desc).map (fun d => d.parameters.length) = some 2 := by decide +kernel
set_option maxHeartbeats 4000000 in
set_option maxRecDepth 100000 in
theorem k_X12_requireSpan (l : Launch) (hls : l.stackTraces = false) (E : Ev) (K : Kd) (z : Nat) (o : Nat) (a_1 : Int32) (a_2 : Int32) (w : Wd) (ho : K o = some (10, 0)) {r : Unit ⊕ Nat} {w' : Wd} (hf : f_X12_requireSpan K o a_1 a_2 w = some (r, w')) : vx_Met l yX12_requireSpan (Cond.code yX12_requireSpan cX12_requireSpan 3 (Option.none : Option Jvm.ClassFile.FieldType) :: bt) ({ frames := 6, cells := 1, slots := 6, locals := 90 } : Room) (va_Pc [rv E (some o), .int a_1, .int a_2] (HB E K w z)) (XV E K z w' r) (XX E K w' r) 1 6 (hA E) := by
  refine vx_ofW (cc := cX12_requireSpan) (maxL := 3) (ret := (Option.none : Option Jvm.ClassFile.FieldType)) (by decide) rfl ?_
  intro p e s m args below meth c s₁ B hml hout hv
  obtain ⟨rfl, hz, hP, hKs, hT, hb0⟩ := hv
  have C : CX p l e s m _ meth c cX12_requireSpan 3 RX12 (Option.none : Option Jvm.ClassFile.FieldType) E := ⟨B.exec, B.bytes, hml, findClass_of_methodNamed B.named, fun w h => atoms_spec (ws := Cond.code yX12_requireSpan cX12_requireSpan 3 (Option.none : Option Jvm.ClassFile.FieldType) :: bt) B.pre w (List.mem_cons_of_mem _ h), hKs, hT, by rw [hz]; exact hb0, B.notSynchronized, B.returns⟩
  have hH : HQ E K z w s s.heap [] := ⟨hP, va_S.rf, hz⟩
  obtain ⟨hx, hb, hml, hown, hts, hKs, hT, hb0, hlocks, hret⟩ := id C
  have hl := lv_entry [rv E (some o), .int a_1, .int a_2] (n := 3) (by simp [lg_len_nil, lg_len_i, lg_len_j, lg_len_q, lg_len_f, lg_len_d, lg_len_r])
  rw [lg_entry_eq]
  generalize (lg_sl [rv E (some o), .int a_1, .int a_2] ++ List.replicate (3 - (lg_sl [rv E (some o), .int a_1, .int a_2]).length) Slot.unset).toArray = ls at hl ⊢
  replace hl : lv_has ls 3 [(0, rv E (some o)), (1, .int a_1), (2, .int a_2)] := by simpa only [lv_args, cat_q, cat_i, cat_j, reduceIte, Nat.reduceEqDiff, Nat.reduceAdd, Nat.zero_add] using hl
  generalize s.heap = H at hH ⊢
  unfold f_X12_requireSpan at hf
  refine lv_iload_n hx hb dX12_requireSpan_0 rfl (lv_at hl 1 rfl) ?_
  refine lv_if_lt (tgt := 16) hx hb dX12_requireSpan_1 (by decide) (fun c1 => ?_) (fun c1 => ?_)
  · replace hf := (if_pos c1).symm.trans hf
    exact hx_throw hx hb hls (code := 2) hml hl.1 hown hts hKs hT hb0 hH (by decide) rfl m4_217 m1_27 hat_RX12_135 dX12_requireSpan_16 dX12_requireSpan_19 dX12_requireSpan_20 dX12_requireSpan_23 hout (Nat.le_of_ble_eq_true rfl) rc0 (Nat.le_of_ble_eq_true rfl) (Nat.le_of_ble_eq_true rfl) (Nat.le_of_ble_eq_true rfl) hlocks hf (Nat.le_of_ble_eq_true rfl) (Nat.le_of_ble_eq_true rfl)
  · replace hf := (if_neg c1).symm.trans hf
    refine lv_iload_n hx hb dX12_requireSpan_4 rfl (lv_at hl 2 rfl) ?_
    refine lv_iload_n hx hb dX12_requireSpan_5 rfl (lv_at hl 1 rfl) ?_
    refine lv_icmp_lt (tgt := 16) hx hb dX12_requireSpan_6 (by decide) (fun c2 => ?_) (fun c2 => ?_)
    · replace hf := (if_pos c2).symm.trans hf
      exact hx_throw hx hb hls (code := 2) hml hl.1 hown hts hKs hT hb0 hH (by decide) rfl m4_217 m1_27 hat_RX12_135 dX12_requireSpan_16 dX12_requireSpan_19 dX12_requireSpan_20 dX12_requireSpan_23 hout (Nat.le_of_ble_eq_true rfl) rc0 (Nat.le_of_ble_eq_true rfl) (Nat.le_of_ble_eq_true rfl) (Nat.le_of_ble_eq_true rfl) hlocks hf (Nat.le_of_ble_eq_true rfl) (Nat.le_of_ble_eq_true rfl)
    · replace hf := (if_neg c2).symm.trans hf
      refine lv_iload_n hx hb dX12_requireSpan_9 rfl (lv_at hl 2 rfl) ?_
      refine lv_sipush (v := 600) hx hb dX12_requireSpan_10 (by decide) ?_
      refine lv_icmp_lt (tgt := 24) hx hb dX12_requireSpan_13 (by decide) (fun c3 => ?_) (fun c3 => ?_)
      · replace hf := (if_pos c3).symm.trans hf
        exact hx_vret hx hb (Nat.le_of_ble_eq_true rfl) (Nat.le_of_ble_eq_true rfl) hret hf hH hlocks dX12_requireSpan_24
      · replace hf := (if_neg c3).symm.trans hf
        exact hx_throw hx hb hls (code := 2) hml hl.1 hown hts hKs hT hb0 hH (by decide) rfl m4_217 m1_27 hat_RX12_135 dX12_requireSpan_16 dX12_requireSpan_19 dX12_requireSpan_20 dX12_requireSpan_23 hout (Nat.le_of_ble_eq_true rfl) rc0 (Nat.le_of_ble_eq_true rfl) (Nat.le_of_ble_eq_true rfl) (Nat.le_of_ble_eq_true rfl) hlocks hf (Nat.le_of_ble_eq_true rfl) (Nat.le_of_ble_eq_true rfl)

theorem dX12_requireSlot_0 : decode cX12_requireSlot 0 = .ok (.iload_n 1, 1) := by decide +kernel
theorem dX12_requireSlot_1 : decode cX12_requireSlot 1 = .ok (.ifCond .lt 9, 3) := by decide +kernel
theorem dX12_requireSlot_4 : decode cX12_requireSlot 4 = .ok (.iload_n 1, 1) := by decide +kernel
theorem dX12_requireSlot_5 : decode cX12_requireSlot 5 = .ok (.bipush 8, 2) := by decide +kernel
theorem dX12_requireSlot_7 : decode cX12_requireSlot 7 = .ok (.if_icmp .lt 11, 3) := by decide +kernel
theorem dX12_requireSlot_10 : decode cX12_requireSlot 10 = .ok (.new 133, 3) := by decide +kernel
theorem dX12_requireSlot_13 : decode cX12_requireSlot 13 = .ok (.dup, 1) := by decide +kernel
theorem dX12_requireSlot_14 : decode cX12_requireSlot 14 = .ok (.invokespecial 135, 3) := by decide +kernel
theorem dX12_requireSlot_17 : decode cX12_requireSlot 17 = .ok (.athrow, 1) := by decide +kernel
theorem dX12_requireSlot_18 : decode cX12_requireSlot 18 = .ok (.return_, 1) := by decide +kernel
theorem hd_X12_requireSlot : yX12_requireSlot.cls = RX12 ∧ yX12_requireSlot.cls ≠ "java/lang/invoke/MethodHandle" ∧ yX12_requireSlot.cls ≠ "java/lang/invoke/VarHandle" ∧ (parseMethodDescriptor yX12_requireSlot.desc).map (fun d => d.parameters.length) = some 1 := by decide +kernel
theorem hs_X12_requireSlot : yX12_requireSlot.cls ≠ "java/lang/invoke/MethodHandle" ∧ yX12_requireSlot.cls ≠ "java/lang/invoke/VarHandle" ∧ (parseMethodDescriptor yX12_requireSlot.desc).map (fun d => d.parameters.length) = some 1 := by decide +kernel
set_option maxHeartbeats 4000000 in
set_option maxRecDepth 100000 in
theorem k_X12_requireSlot (l : Launch) (hls : l.stackTraces = false) (E : Ev) (K : Kd) (z : Nat) (o : Nat) (a_1 : Int32) (w : Wd) (ho : K o = some (10, 0)) {r : Unit ⊕ Nat} {w' : Wd} (hf : f_X12_requireSlot K o a_1 w = some (r, w')) : vx_Met l yX12_requireSlot (Cond.code yX12_requireSlot cX12_requireSlot 2 (Option.none : Option Jvm.ClassFile.FieldType) :: bt) ({ frames := 6, cells := 1, slots := 6, locals := 90 } : Room) (va_Pc [rv E (some o), .int a_1] (HB E K w z)) (XV E K z w' r) (XX E K w' r) 1 6 (hA E) := by
  refine vx_ofW (cc := cX12_requireSlot) (maxL := 2) (ret := (Option.none : Option Jvm.ClassFile.FieldType)) (by decide) rfl ?_
  intro p e s m args below meth c s₁ B hml hout hv
  obtain ⟨rfl, hz, hP, hKs, hT, hb0⟩ := hv
  have C : CX p l e s m _ meth c cX12_requireSlot 2 RX12 (Option.none : Option Jvm.ClassFile.FieldType) E := ⟨B.exec, B.bytes, hml, findClass_of_methodNamed B.named, fun w h => atoms_spec (ws := Cond.code yX12_requireSlot cX12_requireSlot 2 (Option.none : Option Jvm.ClassFile.FieldType) :: bt) B.pre w (List.mem_cons_of_mem _ h), hKs, hT, by rw [hz]; exact hb0, B.notSynchronized, B.returns⟩
  have hH : HQ E K z w s s.heap [] := ⟨hP, va_S.rf, hz⟩
  obtain ⟨hx, hb, hml, hown, hts, hKs, hT, hb0, hlocks, hret⟩ := id C
  have hl := lv_entry [rv E (some o), .int a_1] (n := 2) (by simp [lg_len_nil, lg_len_i, lg_len_j, lg_len_q, lg_len_f, lg_len_d, lg_len_r])
  rw [lg_entry_eq]
  generalize (lg_sl [rv E (some o), .int a_1] ++ List.replicate (2 - (lg_sl [rv E (some o), .int a_1]).length) Slot.unset).toArray = ls at hl ⊢
  replace hl : lv_has ls 2 [(0, rv E (some o)), (1, .int a_1)] := by simpa only [lv_args, cat_q, cat_i, cat_j, reduceIte, Nat.reduceEqDiff, Nat.reduceAdd, Nat.zero_add] using hl
  generalize s.heap = H at hH ⊢
  unfold f_X12_requireSlot at hf
  refine lv_iload_n hx hb dX12_requireSlot_0 rfl (lv_at hl 1 rfl) ?_
  refine lv_if_lt (tgt := 10) hx hb dX12_requireSlot_1 (by decide) (fun c1 => ?_) (fun c1 => ?_)
  · replace hf := (if_pos c1).symm.trans hf
    exact hx_throw hx hb hls (code := 2) hml hl.1 hown hts hKs hT hb0 hH (by decide) rfl m4_217 m1_27 hat_RX12_135 dX12_requireSlot_10 dX12_requireSlot_13 dX12_requireSlot_14 dX12_requireSlot_17 hout (Nat.le_of_ble_eq_true rfl) rc0 (Nat.le_of_ble_eq_true rfl) (Nat.le_of_ble_eq_true rfl) (Nat.le_of_ble_eq_true rfl) hlocks hf (Nat.le_of_ble_eq_true rfl) (Nat.le_of_ble_eq_true rfl)
  · replace hf := (if_neg c1).symm.trans hf
    refine lv_iload_n hx hb dX12_requireSlot_4 rfl (lv_at hl 1 rfl) ?_
    refine lv_bipush (v := 8) hx hb dX12_requireSlot_5 (by decide) ?_
    refine lv_icmp_lt (tgt := 18) hx hb dX12_requireSlot_7 (by decide) (fun c2 => ?_) (fun c2 => ?_)
    · replace hf := (if_pos c2).symm.trans hf
      exact hx_vret hx hb (Nat.le_of_ble_eq_true rfl) (Nat.le_of_ble_eq_true rfl) hret hf hH hlocks dX12_requireSlot_18
    · replace hf := (if_neg c2).symm.trans hf
      exact hx_throw hx hb hls (code := 2) hml hl.1 hown hts hKs hT hb0 hH (by decide) rfl m4_217 m1_27 hat_RX12_135 dX12_requireSlot_10 dX12_requireSlot_13 dX12_requireSlot_14 dX12_requireSlot_17 hout (Nat.le_of_ble_eq_true rfl) rc0 (Nat.le_of_ble_eq_true rfl) (Nat.le_of_ble_eq_true rfl) (Nat.le_of_ble_eq_true rfl) hlocks hf (Nat.le_of_ble_eq_true rfl) (Nat.le_of_ble_eq_true rfl)

theorem dX12_requireReason_0 : decode cX12_requireReason 0 = .ok (.iload_n 1, 1) := by decide +kernel
theorem dX12_requireReason_1 : decode cX12_requireReason 1 = .ok (.ifCond .lt 8, 3) := by decide +kernel
theorem dX12_requireReason_4 : decode cX12_requireReason 4 = .ok (.iload_n 1, 1) := by decide +kernel
theorem dX12_requireReason_5 : decode cX12_requireReason 5 = .ok (.iconst 4, 1) := by decide +kernel
theorem dX12_requireReason_6 : decode cX12_requireReason 6 = .ok (.if_icmp .lt 11, 3) := by decide +kernel
theorem dX12_requireReason_9 : decode cX12_requireReason 9 = .ok (.new 133, 3) := by decide +kernel
theorem dX12_requireReason_12 : decode cX12_requireReason 12 = .ok (.dup, 1) := by decide +kernel
theorem dX12_requireReason_13 : decode cX12_requireReason 13 = .ok (.invokespecial 135, 3) := by decide +kernel
theorem dX12_requireReason_16 : decode cX12_requireReason 16 = .ok (.athrow, 1) := by decide +kernel
theorem dX12_requireReason_17 : decode cX12_requireReason 17 = .ok (.return_, 1) := by decide +kernel
theorem hd_X12_requireReason : yX12_requireReason.cls = RX12 ∧ yX12_requireReason.cls ≠ "java/lang/invoke/MethodHandle" ∧ yX12_requireReason.cls ≠ "java/lang/invoke/VarHandle" ∧ (parseMethodDescriptor yX12_requireReason.desc).map (fun d => d.parameters.length) = some 1 := by decide +kernel
theorem hs_X12_requireReason : yX12_requireReason.cls ≠ "java/lang/invoke/MethodHandle" ∧ yX12_requireReason.cls ≠ "java/lang/invoke/VarHandle" ∧ (parseMethodDescriptor yX12_requireReason.desc).map (fun d => d.parameters.length) = some 1 := by decide +kernel
set_option maxHeartbeats 4000000 in
set_option maxRecDepth 100000 in
theorem k_X12_requireReason (l : Launch) (hls : l.stackTraces = false) (E : Ev) (K : Kd) (z : Nat) (o : Nat) (a_1 : Int32) (w : Wd) (ho : K o = some (10, 0)) {r : Unit ⊕ Nat} {w' : Wd} (hf : f_X12_requireReason K o a_1 w = some (r, w')) : vx_Met l yX12_requireReason (Cond.code yX12_requireReason cX12_requireReason 2 (Option.none : Option Jvm.ClassFile.FieldType) :: bt) ({ frames := 6, cells := 1, slots := 6, locals := 90 } : Room) (va_Pc [rv E (some o), .int a_1] (HB E K w z)) (XV E K z w' r) (XX E K w' r) 1 6 (hA E) := by
  refine vx_ofW (cc := cX12_requireReason) (maxL := 2) (ret := (Option.none : Option Jvm.ClassFile.FieldType)) (by decide) rfl ?_
  intro p e s m args below meth c s₁ B hml hout hv
  obtain ⟨rfl, hz, hP, hKs, hT, hb0⟩ := hv
  have C : CX p l e s m _ meth c cX12_requireReason 2 RX12 (Option.none : Option Jvm.ClassFile.FieldType) E := ⟨B.exec, B.bytes, hml, findClass_of_methodNamed B.named, fun w h => atoms_spec (ws := Cond.code yX12_requireReason cX12_requireReason 2 (Option.none : Option Jvm.ClassFile.FieldType) :: bt) B.pre w (List.mem_cons_of_mem _ h), hKs, hT, by rw [hz]; exact hb0, B.notSynchronized, B.returns⟩
  have hH : HQ E K z w s s.heap [] := ⟨hP, va_S.rf, hz⟩
  obtain ⟨hx, hb, hml, hown, hts, hKs, hT, hb0, hlocks, hret⟩ := id C
  have hl := lv_entry [rv E (some o), .int a_1] (n := 2) (by simp [lg_len_nil, lg_len_i, lg_len_j, lg_len_q, lg_len_f, lg_len_d, lg_len_r])
  rw [lg_entry_eq]
  generalize (lg_sl [rv E (some o), .int a_1] ++ List.replicate (2 - (lg_sl [rv E (some o), .int a_1]).length) Slot.unset).toArray = ls at hl ⊢
  replace hl : lv_has ls 2 [(0, rv E (some o)), (1, .int a_1)] := by simpa only [lv_args, cat_q, cat_i, cat_j, reduceIte, Nat.reduceEqDiff, Nat.reduceAdd, Nat.zero_add] using hl
  generalize s.heap = H at hH ⊢
  unfold f_X12_requireReason at hf
  refine lv_iload_n hx hb dX12_requireReason_0 rfl (lv_at hl 1 rfl) ?_
  refine lv_if_lt (tgt := 9) hx hb dX12_requireReason_1 (by decide) (fun c1 => ?_) (fun c1 => ?_)
  · replace hf := (if_pos c1).symm.trans hf
    exact hx_throw hx hb hls (code := 2) hml hl.1 hown hts hKs hT hb0 hH (by decide) rfl m4_217 m1_27 hat_RX12_135 dX12_requireReason_9 dX12_requireReason_12 dX12_requireReason_13 dX12_requireReason_16 hout (Nat.le_of_ble_eq_true rfl) rc0 (Nat.le_of_ble_eq_true rfl) (Nat.le_of_ble_eq_true rfl) (Nat.le_of_ble_eq_true rfl) hlocks hf (Nat.le_of_ble_eq_true rfl) (Nat.le_of_ble_eq_true rfl)
  · replace hf := (if_neg c1).symm.trans hf
    refine lv_iload_n hx hb dX12_requireReason_4 rfl (lv_at hl 1 rfl) ?_
    refine lv_iconst (v := 4) hx hb dX12_requireReason_5 (by decide) ?_
    refine lv_icmp_lt (tgt := 17) hx hb dX12_requireReason_6 (by decide) (fun c2 => ?_) (fun c2 => ?_)
    · replace hf := (if_pos c2).symm.trans hf
      exact hx_vret hx hb (Nat.le_of_ble_eq_true rfl) (Nat.le_of_ble_eq_true rfl) hret hf hH hlocks dX12_requireReason_17
    · replace hf := (if_neg c2).symm.trans hf
      exact hx_throw hx hb hls (code := 2) hml hl.1 hown hts hKs hT hb0 hH (by decide) rfl m4_217 m1_27 hat_RX12_135 dX12_requireReason_9 dX12_requireReason_12 dX12_requireReason_13 dX12_requireReason_16 hout (Nat.le_of_ble_eq_true rfl) rc0 (Nat.le_of_ble_eq_true rfl) (Nat.le_of_ble_eq_true rfl) (Nat.le_of_ble_eq_true rfl) hlocks hf (Nat.le_of_ble_eq_true rfl) (Nat.le_of_ble_eq_true rfl)

theorem dX12_requirePassable_0 : decode cX12_requirePassable 0 = .ok (.iload_n 1, 1) := by decide +kernel
theorem dX12_requirePassable_1 : decode cX12_requirePassable 1 = .ok (.iconst 1, 1) := by decide +kernel
theorem dX12_requirePassable_2 : decode cX12_requirePassable 2 = .ok (.if_icmp .lt 24, 3) := by decide +kernel
theorem dX12_requirePassable_5 : decode cX12_requirePassable 5 = .ok (.iload_n 1, 1) := by decide +kernel
theorem dX12_requirePassable_6 : decode cX12_requirePassable 6 = .ok (.bipush 99, 2) := by decide +kernel
theorem dX12_requirePassable_8 : decode cX12_requirePassable 8 = .ok (.if_icmp .gt 18, 3) := by decide +kernel
theorem dX12_requirePassable_11 : decode cX12_requirePassable 11 = .ok (.aload_n 0, 1) := by decide +kernel
theorem dX12_requirePassable_12 : decode cX12_requirePassable 12 = .ok (.getfield 35, 3) := by decide +kernel
theorem dX12_requirePassable_15 : decode cX12_requirePassable 15 = .ok (.getfield 124, 3) := by decide +kernel
theorem dX12_requirePassable_18 : decode cX12_requirePassable 18 = .ok (.iload_n 1, 1) := by decide +kernel
theorem dX12_requirePassable_19 : decode cX12_requirePassable 19 = .ok (.iadd, 1) := by decide +kernel
theorem dX12_requirePassable_20 : decode cX12_requirePassable 20 = .ok (.sipush 600, 3) := by decide +kernel
theorem dX12_requirePassable_23 : decode cX12_requirePassable 23 = .ok (.if_icmp .lt 11, 3) := by decide +kernel
theorem dX12_requirePassable_26 : decode cX12_requirePassable 26 = .ok (.new 133, 3) := by decide +kernel
theorem dX12_requirePassable_29 : decode cX12_requirePassable 29 = .ok (.dup, 1) := by decide +kernel
theorem dX12_requirePassable_30 : decode cX12_requirePassable 30 = .ok (.invokespecial 135, 3) := by decide +kernel
theorem dX12_requirePassable_33 : decode cX12_requirePassable 33 = .ok (.athrow, 1) := by decide +kernel
theorem dX12_requirePassable_34 : decode cX12_requirePassable 34 = .ok (.return_, 1) := by decide +kernel
theorem hd_X12_requirePassable : yX12_requirePassable.cls = RX12 ∧ yX12_requirePassable.cls ≠ "java/lang/invoke/MethodHandle" ∧ yX12_requirePassable.cls ≠ "java/lang/invoke/VarHandle" ∧ (parseMethodDescriptor yX12_requirePassable.desc).map (fun d => d.parameters.length) = some 1 := by decide +kernel
theorem hs_X12_requirePassable : yX12_requirePassable.cls ≠ "java/lang/invoke/MethodHandle" ∧ yX12_requirePassable.cls ≠ "java/lang/invoke/VarHandle" ∧ (parseMethodDescriptor yX12_requirePassable.desc).map (fun d => d.parameters.length) = some 1 := by decide +kernel
set_option maxHeartbeats 4000000 in
set_option maxRecDepth 100000 in
theorem k_X12_requirePassable (l : Launch) (hls : l.stackTraces = false) (E : Ev) (K : Kd) (z : Nat) (o : Nat) (a_1 : Int32) (w : Wd) (ho : K o = some (10, 0)) {r : Unit ⊕ Nat} {w' : Wd} (hf : f_X12_requirePassable K o a_1 w = some (r, w')) : vx_Met l yX12_requirePassable (Cond.code yX12_requirePassable cX12_requirePassable 2 (Option.none : Option Jvm.ClassFile.FieldType) :: bt) ({ frames := 6, cells := 1, slots := 6, locals := 90 } : Room) (va_Pc [rv E (some o), .int a_1] (HB E K w z)) (XV E K z w' r) (XX E K w' r) 1 6 (hA E) := by
  refine vx_ofW (cc := cX12_requirePassable) (maxL := 2) (ret := (Option.none : Option Jvm.ClassFile.FieldType)) (by decide) rfl ?_
  intro p e s m args below meth c s₁ B hml hout hv
  obtain ⟨rfl, hz, hP, hKs, hT, hb0⟩ := hv
  have C : CX p l e s m _ meth c cX12_requirePassable 2 RX12 (Option.none : Option Jvm.ClassFile.FieldType) E := ⟨B.exec, B.bytes, hml, findClass_of_methodNamed B.named, fun w h => atoms_spec (ws := Cond.code yX12_requirePassable cX12_requirePassable 2 (Option.none : Option Jvm.ClassFile.FieldType) :: bt) B.pre w (List.mem_cons_of_mem _ h), hKs, hT, by rw [hz]; exact hb0, B.notSynchronized, B.returns⟩
  have hH : HQ E K z w s s.heap [] := ⟨hP, va_S.rf, hz⟩
  obtain ⟨hx, hb, hml, hown, hts, hKs, hT, hb0, hlocks, hret⟩ := id C
  have hl := lv_entry [rv E (some o), .int a_1] (n := 2) (by simp [lg_len_nil, lg_len_i, lg_len_j, lg_len_q, lg_len_f, lg_len_d, lg_len_r])
  rw [lg_entry_eq]
  generalize (lg_sl [rv E (some o), .int a_1] ++ List.replicate (2 - (lg_sl [rv E (some o), .int a_1]).length) Slot.unset).toArray = ls at hl ⊢
  replace hl : lv_has ls 2 [(0, rv E (some o)), (1, .int a_1)] := by simpa only [lv_args, cat_q, cat_i, cat_j, reduceIte, Nat.reduceEqDiff, Nat.reduceAdd, Nat.zero_add] using hl
  generalize s.heap = H at hH ⊢
  unfold f_X12_requirePassable at hf
  refine lv_iload_n hx hb dX12_requirePassable_0 rfl (lv_at hl 1 rfl) ?_
  refine lv_iconst (v := 1) hx hb dX12_requirePassable_1 (by decide) ?_
  refine lv_icmp_lt (tgt := 26) hx hb dX12_requirePassable_2 (by decide) (fun c1 => ?_) (fun c1 => ?_)
  · replace hf := (if_pos c1).symm.trans hf
    exact hx_throw hx hb hls (code := 2) hml hl.1 hown hts hKs hT hb0 hH (by decide) rfl m4_217 m1_27 hat_RX12_135 dX12_requirePassable_26 dX12_requirePassable_29 dX12_requirePassable_30 dX12_requirePassable_33 hout (Nat.le_of_ble_eq_true rfl) rc0 (Nat.le_of_ble_eq_true rfl) (Nat.le_of_ble_eq_true rfl) (Nat.le_of_ble_eq_true rfl) hlocks hf (Nat.le_of_ble_eq_true rfl) (Nat.le_of_ble_eq_true rfl)
  · replace hf := (if_neg c1).symm.trans hf
    refine lv_iload_n hx hb dX12_requirePassable_5 rfl (lv_at hl 1 rfl) ?_
    refine lv_bipush (v := 99) hx hb dX12_requirePassable_6 (by decide) ?_
    refine lv_icmp_gt (tgt := 26) hx hb dX12_requirePassable_8 (by decide) (fun c2 => ?_) (fun c2 => ?_)
    · replace hf := (if_pos c2).symm.trans hf
      exact hx_throw hx hb hls (code := 2) hml hl.1 hown hts hKs hT hb0 hH (by decide) rfl m4_217 m1_27 hat_RX12_135 dX12_requirePassable_26 dX12_requirePassable_29 dX12_requirePassable_30 dX12_requirePassable_33 hout (Nat.le_of_ble_eq_true rfl) rc0 (Nat.le_of_ble_eq_true rfl) (Nat.le_of_ble_eq_true rfl) (Nat.le_of_ble_eq_true rfl) hlocks hf (Nat.le_of_ble_eq_true rfl) (Nat.le_of_ble_eq_true rfl)
    · replace hf := (if_neg c2).symm.trans hf
      refine hl_aload_n hx hb dX12_requirePassable_11 rfl (lv_at hl 0 rfl) ?_
      refine g12_5 hx hb hts hown hKs hH rfl ho m2_224 dX12_requirePassable_12 ?_
      obtain ⟨a3, ha3, hf⟩ := bnd hf
      replace ha3 := chk_some ha3
      refine gn10_1 hx hb hts hown hKs hH ha3.1 ha3.2 m2_125 dX12_requirePassable_15 ?_
      refine lv_iload_n hx hb dX12_requirePassable_18 rfl (lv_at hl 1 rfl) ?_
      refine lv_iadd hx hb dX12_requirePassable_19 ?_
      refine lv_sipush (v := 600) hx hb dX12_requirePassable_20 (by decide) ?_
      refine lv_icmp_lt (tgt := 34) hx hb dX12_requirePassable_23 (by decide) (fun c4 => ?_) (fun c4 => ?_)
      · replace hf := (if_pos c4).symm.trans hf
        exact hx_vret hx hb (Nat.le_of_ble_eq_true rfl) (Nat.le_of_ble_eq_true rfl) hret hf hH hlocks dX12_requirePassable_34
      · replace hf := (if_neg c4).symm.trans hf
        exact hx_throw hx hb hls (code := 2) hml hl.1 hown hts hKs hT hb0 hH (by decide) rfl m4_217 m1_27 hat_RX12_135 dX12_requirePassable_26 dX12_requirePassable_29 dX12_requirePassable_30 dX12_requirePassable_33 hout (Nat.le_of_ble_eq_true rfl) rc0 (Nat.le_of_ble_eq_true rfl) (Nat.le_of_ble_eq_true rfl) (Nat.le_of_ble_eq_true rfl) hlocks hf (Nat.le_of_ble_eq_true rfl) (Nat.le_of_ble_eq_true rfl)

theorem dX12_requireUnfinished_0 : decode cX12_requireUnfinished 0 = .ok (.aload_n 0, 1) := by decide +kernel
theorem dX12_requireUnfinished_1 : decode cX12_requireUnfinished 1 = .ok (.getfield 35, 3) := by decide +kernel
theorem dX12_requireUnfinished_4 : decode cX12_requireUnfinished 4 = .ok (.getfield 213, 3) := by decide +kernel
theorem dX12_requireUnfinished_7 : decode cX12_requireUnfinished 7 = .ok (.iload_n 1, 1) := by decide +kernel
theorem dX12_requireUnfinished_8 : decode cX12_requireUnfinished 8 = .ok (.aaload, 1) := by decide +kernel
theorem dX12_requireUnfinished_9 : decode cX12_requireUnfinished 9 = .ok (.getfield 236, 3) := by decide +kernel
theorem dX12_requireUnfinished_12 : decode cX12_requireUnfinished 12 = .ok (.istore_n 2, 1) := by decide +kernel
theorem dX12_requireUnfinished_13 : decode cX12_requireUnfinished 13 = .ok (.iload_n 2, 1) := by decide +kernel
theorem dX12_requireUnfinished_14 : decode cX12_requireUnfinished 14 = .ok (.ifCond .eq 16, 3) := by decide +kernel
theorem dX12_requireUnfinished_17 : decode cX12_requireUnfinished 17 = .ok (.iload_n 2, 1) := by decide +kernel
theorem dX12_requireUnfinished_18 : decode cX12_requireUnfinished 18 = .ok (.iconst 1, 1) := by decide +kernel
theorem dX12_requireUnfinished_19 : decode cX12_requireUnfinished 19 = .ok (.if_icmp .eq 11, 3) := by decide +kernel
theorem dX12_requireUnfinished_22 : decode cX12_requireUnfinished 22 = .ok (.new 331, 3) := by decide +kernel
theorem dX12_requireUnfinished_25 : decode cX12_requireUnfinished 25 = .ok (.dup, 1) := by decide +kernel
theorem dX12_requireUnfinished_26 : decode cX12_requireUnfinished 26 = .ok (.invokespecial 333, 3) := by decide +kernel
theorem dX12_requireUnfinished_29 : decode cX12_requireUnfinished 29 = .ok (.athrow, 1) := by decide +kernel
theorem dX12_requireUnfinished_30 : decode cX12_requireUnfinished 30 = .ok (.return_, 1) := by decide +kernel
theorem hd_X12_requireUnfinished : yX12_requireUnfinished.cls = RX12 ∧ yX12_requireUnfinished.cls ≠ "java/lang/invoke/MethodHandle" ∧ yX12_requireUnfinished.cls ≠ "java/lang/invoke/VarHandle" ∧ (parseMethodDescriptor yX12_requireUnfinished.desc).map (fun d => d.parameters.length) = some 1 := by decide +kernel
theorem hs_X12_requireUnfinished : yX12_requireUnfinished.cls ≠ "java/lang/invoke/MethodHandle" ∧ yX12_requireUnfinished.cls ≠ "java/lang/invoke/VarHandle" ∧ (parseMethodDescriptor yX12_requireUnfinished.desc).map (fun d => d.parameters.length) = some 1 := by decide +kernel
set_option maxHeartbeats 4000000 in
set_option maxRecDepth 100000 in
theorem k_X12_requireUnfinished (l : Launch) (hls : l.stackTraces = false) (E : Ev) (K : Kd) (z : Nat) (o : Nat) (a_1 : Int32) (w : Wd) (ho : K o = some (10, 0)) {r : Unit ⊕ Nat} {w' : Wd} (hf : f_X12_requireUnfinished K o a_1 w = some (r, w')) : vx_Met l yX12_requireUnfinished (Cond.code yX12_requireUnfinished cX12_requireUnfinished 3 (Option.none : Option Jvm.ClassFile.FieldType) :: bt) ({ frames := 6, cells := 1, slots := 6, locals := 90 } : Room) (va_Pc [rv E (some o), .int a_1] (HB E K w z)) (XV E K z w' r) (XX E K w' r) 1 6 (hA E) := by
  refine vx_ofW (cc := cX12_requireUnfinished) (maxL := 3) (ret := (Option.none : Option Jvm.ClassFile.FieldType)) (by decide) rfl ?_
  intro p e s m args below meth c s₁ B hml hout hv
  obtain ⟨rfl, hz, hP, hKs, hT, hb0⟩ := hv
  have C : CX p l e s m _ meth c cX12_requireUnfinished 3 RX12 (Option.none : Option Jvm.ClassFile.FieldType) E := ⟨B.exec, B.bytes, hml, findClass_of_methodNamed B.named, fun w h => atoms_spec (ws := Cond.code yX12_requireUnfinished cX12_requireUnfinished 3 (Option.none : Option Jvm.ClassFile.FieldType) :: bt) B.pre w (List.mem_cons_of_mem _ h), hKs, hT, by rw [hz]; exact hb0, B.notSynchronized, B.returns⟩
  have hH : HQ E K z w s s.heap [] := ⟨hP, va_S.rf, hz⟩
  obtain ⟨hx, hb, hml, hown, hts, hKs, hT, hb0, hlocks, hret⟩ := id C
  have hl := lv_entry [rv E (some o), .int a_1] (n := 3) (by simp [lg_len_nil, lg_len_i, lg_len_j, lg_len_q, lg_len_f, lg_len_d, lg_len_r])
  rw [lg_entry_eq]
  generalize (lg_sl [rv E (some o), .int a_1] ++ List.replicate (3 - (lg_sl [rv E (some o), .int a_1]).length) Slot.unset).toArray = ls at hl ⊢
  replace hl : lv_has ls 3 [(0, rv E (some o)), (1, .int a_1)] := by simpa only [lv_args, cat_q, cat_i, cat_j, reduceIte, Nat.reduceEqDiff, Nat.reduceAdd, Nat.zero_add] using hl
  generalize s.heap = H at hH ⊢
  unfold f_X12_requireUnfinished at hf
  refine hl_aload_n hx hb dX12_requireUnfinished_0 rfl (lv_at hl 0 rfl) ?_
  refine g12_5 hx hb hts hown hKs hH rfl ho m2_224 dX12_requireUnfinished_1 ?_
  obtain ⟨a1, ha1, hf⟩ := bnd hf
  replace ha1 := chk_some ha1
  refine gn10_5 hx hb hts hown hKs hH ha1.1 ha1.2 m2_135 dX12_requireUnfinished_4 ?_
  refine lv_iload_n hx hb dX12_requireUnfinished_7 rfl (lv_at hl 1 rfl) ?_
  obtain ⟨a2, ha2, hf⟩ := bnd hf
  replace ha2 := cha_some ha2
  obtain ⟨j3, hj3, hf⟩ := bnd hf
  refine hw_aald27 hx hb hKs hH ha2.1 ha2.2 hj3 dX12_requireUnfinished_8 ?_
  obtain ⟨a4, ha4, hf⟩ := bnd hf
  replace ha4 := chk_some ha4
  refine gn7_0 hx hb hts hown hKs hH ha4.1 ha4.2 m2_71 dX12_requireUnfinished_9 ?_
  refine lv_istore_n (i := 2) (lv' := [(2, .int ((wI w 700 a4))), (0, rv E (some o)), (1, .int a_1)]) hx hb dX12_requireUnfinished_12 rfl hl (by decide) rfl (fun ls hl => ?_)
  refine lv_iload_n hx hb dX12_requireUnfinished_13 rfl (lv_at hl 0 rfl) ?_
  refine lv_if_eq (tgt := 30) hx hb dX12_requireUnfinished_14 (by decide) (fun c5 => ?_) (fun c5 => ?_)
  · replace hf := (if_pos c5).symm.trans hf
    exact hx_vret hx hb (Nat.le_of_ble_eq_true rfl) (Nat.le_of_ble_eq_true rfl) hret hf hH hlocks dX12_requireUnfinished_30
  · replace hf := (if_neg c5).symm.trans hf
    refine lv_iload_n hx hb dX12_requireUnfinished_17 rfl (lv_at hl 0 rfl) ?_
    refine lv_iconst (v := 1) hx hb dX12_requireUnfinished_18 (by decide) ?_
    refine lv_icmp_eq (tgt := 30) hx hb dX12_requireUnfinished_19 (by decide) (fun c6 => ?_) (fun c6 => ?_)
    · replace hf := (if_pos c6).symm.trans hf
      exact hx_vret hx hb (Nat.le_of_ble_eq_true rfl) (Nat.le_of_ble_eq_true rfl) hret hf hH hlocks dX12_requireUnfinished_30
    · replace hf := (if_neg c6).symm.trans hf
      exact hx_throw hx hb hls (code := 3) hml hl.1 hown hts hKs hT hb0 hH (by decide) rfl m5_194 m1_29 hat_RX12_333 dX12_requireUnfinished_22 dX12_requireUnfinished_25 dX12_requireUnfinished_26 dX12_requireUnfinished_29 hout (Nat.le_of_ble_eq_true rfl) rc0 (Nat.le_of_ble_eq_true rfl) (Nat.le_of_ble_eq_true rfl) (Nat.le_of_ble_eq_true rfl) hlocks hf (Nat.le_of_ble_eq_true rfl) (Nat.le_of_ble_eq_true rfl)

theorem dX12_isLetter_0 : decode cX12_isLetter 0 = .ok (.iload_n 0, 1) := by decide +kernel
theorem dX12_isLetter_1 : decode cX12_isLetter 1 = .ok (.bipush 97, 2) := by decide +kernel
theorem dX12_isLetter_3 : decode cX12_isLetter 3 = .ok (.if_icmp .lt 13, 3) := by decide +kernel
theorem dX12_isLetter_6 : decode cX12_isLetter 6 = .ok (.iload_n 0, 1) := by decide +kernel
theorem dX12_isLetter_7 : decode cX12_isLetter 7 = .ok (.bipush 122, 2) := by decide +kernel
theorem dX12_isLetter_9 : decode cX12_isLetter 9 = .ok (.if_icmp .gt 7, 3) := by decide +kernel
theorem dX12_isLetter_12 : decode cX12_isLetter 12 = .ok (.iconst 1, 1) := by decide +kernel
theorem dX12_isLetter_13 : decode cX12_isLetter 13 = .ok (.goto 4, 3) := by decide +kernel
theorem dX12_isLetter_16 : decode cX12_isLetter 16 = .ok (.iconst 0, 1) := by decide +kernel
theorem dX12_isLetter_17 : decode cX12_isLetter 17 = .ok (.ireturn, 1) := by decide +kernel
theorem hs_X12_isLetter : yX12_isLetter.cls ≠ "java/lang/invoke/MethodHandle" ∧ yX12_isLetter.cls ≠ "java/lang/invoke/VarHandle" ∧ (parseMethodDescriptor yX12_isLetter.desc).map (fun d => d.parameters.length) = some 1 := by decide +kernel
set_option maxHeartbeats 4000000 in
set_option maxRecDepth 100000 in
theorem k_X12_isLetter (l : Launch) (E : Ev) (K : Kd) (z : Nat) (a_0 : Int32) (w : Wd) {r : Bool} {w' : Wd} (hf : f_X12_isLetter K a_0 w = some (r, w')) : Met l yX12_isLetter (Cond.code yX12_isLetter cX12_isLetter 1 (Option.some Jvm.ClassFile.FieldType.boolean) :: bt) ({ frames := 0, cells := 0, slots := 0, locals := 0 } : Room) (va_Pc [.int a_0] (HB E K w z)) (QI E K z w' (b2i r)) 0 0 (hA E) := by
  refine Met.ofW (cc := cX12_isLetter) (maxL := 1) (ret := (Option.some Jvm.ClassFile.FieldType.boolean)) (by decide) rfl ?_
  intro p e s m args below meth c s₁ B hml hv
  obtain ⟨rfl, hz, hP, hKs, hT, hb0⟩ := hv
  have C : CX p l e s m _ meth c cX12_isLetter 1 RX12 (Option.some Jvm.ClassFile.FieldType.boolean) E := ⟨B.exec, B.bytes, hml, findClass_of_methodNamed B.named, fun w h => atoms_spec (ws := Cond.code yX12_isLetter cX12_isLetter 1 (Option.some Jvm.ClassFile.FieldType.boolean) :: bt) B.pre w (List.mem_cons_of_mem _ h), hKs, hT, by rw [hz]; exact hb0, B.notSynchronized, B.returns⟩
  have hH : HQ E K z w s s.heap [] := ⟨hP, va_S.rf, hz⟩
  obtain ⟨hx, hb, hml, hown, hts, hKs, hT, hb0, hlocks, hret⟩ := id C
  have hl := lv_entry [.int a_0] (n := 1) (by simp [lg_len_nil, lg_len_i, lg_len_j, lg_len_q, lg_len_f, lg_len_d, lg_len_r])
  rw [lg_entry_eq]
  generalize (lg_sl [.int a_0] ++ List.replicate (1 - (lg_sl [.int a_0]).length) Slot.unset).toArray = ls at hl ⊢
  replace hl : lv_has ls 1 [(0, .int a_0)] := by simpa only [lv_args, cat_q, cat_i, cat_j, reduceIte, Nat.reduceEqDiff, Nat.reduceAdd, Nat.zero_add] using hl
  generalize s.heap = H at hH ⊢
  unfold f_X12_isLetter at hf
  refine lv_iload_n hx hb dX12_isLetter_0 rfl (lv_at hl 0 rfl) ?_
  refine lv_bipush (v := 97) hx hb dX12_isLetter_1 (by decide) ?_
  refine lv_icmp_lt (tgt := 16) hx hb dX12_isLetter_3 (by decide) (fun c1 => ?_) (fun c1 => ?_)
  · replace hf := (if_pos c1).symm.trans hf
    refine lv_iconst (v := 0) hx hb dX12_isLetter_16 (by decide) ?_
    exact hw_zret hx hb hret rfl hf hH hlocks dX12_isLetter_17
  · replace hf := (if_neg c1).symm.trans hf
    refine lv_iload_n hx hb dX12_isLetter_6 rfl (lv_at hl 0 rfl) ?_
    refine lv_bipush (v := 122) hx hb dX12_isLetter_7 (by decide) ?_
    refine lv_icmp_gt (tgt := 16) hx hb dX12_isLetter_9 (by decide) (fun c2 => ?_) (fun c2 => ?_)
    · replace hf := (if_pos c2).symm.trans hf
      refine lv_iconst (v := 0) hx hb dX12_isLetter_16 (by decide) ?_
      exact hw_zret hx hb hret rfl hf hH hlocks dX12_isLetter_17
    · replace hf := (if_neg c2).symm.trans hf
      refine lv_iconst (v := 1) hx hb dX12_isLetter_12 (by decide) ?_
      refine lv_goto (tgt := 17) hx hb dX12_isLetter_13 (by decide) ?_
      exact hw_zret hx hb hret rfl hf hH hlocks dX12_isLetter_17

theorem dX12_has_0 : decode cX12_has 0 = .ok (.iload_n 0, 1) := by decide +kernel
theorem dX12_has_1 : decode cX12_has 1 = .ok (.iload_n 1, 1) := by decide +kernel
theorem dX12_has_2 : decode cX12_has 2 = .ok (.iushr, 1) := by decide +kernel
theorem dX12_has_3 : decode cX12_has 3 = .ok (.iconst 1, 1) := by decide +kernel
theorem dX12_has_4 : decode cX12_has 4 = .ok (.iand, 1) := by decide +kernel
theorem dX12_has_5 : decode cX12_has 5 = .ok (.ifCond .eq 7, 3) := by decide +kernel
theorem dX12_has_8 : decode cX12_has 8 = .ok (.iconst 1, 1) := by decide +kernel
theorem dX12_has_9 : decode cX12_has 9 = .ok (.goto 4, 3) := by decide +kernel
theorem dX12_has_12 : decode cX12_has 12 = .ok (.iconst 0, 1) := by decide +kernel
theorem dX12_has_13 : decode cX12_has 13 = .ok (.ireturn, 1) := by decide +kernel
theorem hs_X12_has : yX12_has.cls ≠ "java/lang/invoke/MethodHandle" ∧ yX12_has.cls ≠ "java/lang/invoke/VarHandle" ∧ (parseMethodDescriptor yX12_has.desc).map (fun d => d.parameters.length) = some 2 := by decide +kernel
set_option maxHeartbeats 4000000 in
set_option maxRecDepth 100000 in
theorem k_X12_has (l : Launch) (E : Ev) (K : Kd) (z : Nat) (a_0 : Int32) (a_1 : Int32) (w : Wd) {r : Bool} {w' : Wd} (hf : f_X12_has K a_0 a_1 w = some (r, w')) : Met l yX12_has (Cond.code yX12_has cX12_has 2 (Option.some Jvm.ClassFile.FieldType.boolean) :: bt) ({ frames := 0, cells := 0, slots := 0, locals := 0 } : Room) (va_Pc [.int a_0, .int a_1] (HB E K w z)) (QI E K z w' (b2i r)) 0 0 (hA E) := by
  refine Met.ofW (cc := cX12_has) (maxL := 2) (ret := (Option.some Jvm.ClassFile.FieldType.boolean)) (by decide) rfl ?_
  intro p e s m args below meth c s₁ B hml hv
  obtain ⟨rfl, hz, hP, hKs, hT, hb0⟩ := hv
  have C : CX p l e s m _ meth c cX12_has 2 RX12 (Option.some Jvm.ClassFile.FieldType.boolean) E := ⟨B.exec, B.bytes, hml, findClass_of_methodNamed B.named, fun w h => atoms_spec (ws := Cond.code yX12_has cX12_has 2 (Option.some Jvm.ClassFile.FieldType.boolean) :: bt) B.pre w (List.mem_cons_of_mem _ h), hKs, hT, by rw [hz]; exact hb0, B.notSynchronized, B.returns⟩
  have hH : HQ E K z w s s.heap [] := ⟨hP, va_S.rf, hz⟩
  obtain ⟨hx, hb, hml, hown, hts, hKs, hT, hb0, hlocks, hret⟩ := id C
  have hl := lv_entry [.int a_0, .int a_1] (n := 2) (by simp [lg_len_nil, lg_len_i, lg_len_j, lg_len_q, lg_len_f, lg_len_d, lg_len_r])
  rw [lg_entry_eq]
  generalize (lg_sl [.int a_0, .int a_1] ++ List.replicate (2 - (lg_sl [.int a_0, .int a_1]).length) Slot.unset).toArray = ls at hl ⊢
  replace hl : lv_has ls 2 [(0, .int a_0), (1, .int a_1)] := by simpa only [lv_args, cat_q, cat_i, cat_j, reduceIte, Nat.reduceEqDiff, Nat.reduceAdd, Nat.zero_add] using hl
  generalize s.heap = H at hH ⊢
  unfold f_X12_has at hf
  refine lv_iload_n hx hb dX12_has_0 rfl (lv_at hl 0 rfl) ?_
  refine lv_iload_n hx hb dX12_has_1 rfl (lv_at hl 1 rfl) ?_
  refine lv_iushr (v := (ushr a_0 a_1)) hx hb dX12_has_2 rfl ?_
  refine lv_iconst (v := 1) hx hb dX12_has_3 (by decide) ?_
  refine lv_iand hx hb dX12_has_4 ?_
  refine lv_if_eq (tgt := 12) hx hb dX12_has_5 (by decide) (fun c1 => ?_) (fun c1 => ?_)
  · replace hf := (if_pos c1).symm.trans hf
    refine lv_iconst (v := 0) hx hb dX12_has_12 (by decide) ?_
    exact hw_zret hx hb hret rfl hf hH hlocks dX12_has_13
  · replace hf := (if_neg c1).symm.trans hf
    refine lv_iconst (v := 1) hx hb dX12_has_8 (by decide) ?_
    refine lv_goto (tgt := 13) hx hb dX12_has_9 (by decide) ?_
    exact hw_zret hx hb hret rfl hf hH hlocks dX12_has_13

theorem dX12_allOf_0 : decode cX12_allOf 0 = .ok (.iconst 1, 1) := by decide +kernel
theorem dX12_allOf_1 : decode cX12_allOf 1 = .ok (.iload_n 0, 1) := by decide +kernel
theorem dX12_allOf_2 : decode cX12_allOf 2 = .ok (.ishl, 1) := by decide +kernel
theorem dX12_allOf_3 : decode cX12_allOf 3 = .ok (.iconst 1, 1) := by decide +kernel
theorem dX12_allOf_4 : decode cX12_allOf 4 = .ok (.isub, 1) := by decide +kernel
theorem dX12_allOf_5 : decode cX12_allOf 5 = .ok (.ireturn, 1) := by decide +kernel
theorem hs_X12_allOf : yX12_allOf.cls ≠ "java/lang/invoke/MethodHandle" ∧ yX12_allOf.cls ≠ "java/lang/invoke/VarHandle" ∧ (parseMethodDescriptor yX12_allOf.desc).map (fun d => d.parameters.length) = some 1 := by decide +kernel
set_option maxHeartbeats 4000000 in
set_option maxRecDepth 100000 in
theorem k_X12_allOf (l : Launch) (E : Ev) (K : Kd) (z : Nat) (a_0 : Int32) (w : Wd) {r : Int32} {w' : Wd} (hf : f_X12_allOf K a_0 w = some (r, w')) : Met l yX12_allOf (Cond.code yX12_allOf cX12_allOf 1 (Option.some Jvm.ClassFile.FieldType.int) :: bt) ({ frames := 0, cells := 0, slots := 0, locals := 0 } : Room) (va_Pc [.int a_0] (HB E K w z)) (QI E K z w' r) 0 0 (hA E) := by
  refine Met.ofW (cc := cX12_allOf) (maxL := 1) (ret := (Option.some Jvm.ClassFile.FieldType.int)) (by decide) rfl ?_
  intro p e s m args below meth c s₁ B hml hv
  obtain ⟨rfl, hz, hP, hKs, hT, hb0⟩ := hv
  have C : CX p l e s m _ meth c cX12_allOf 1 RX12 (Option.some Jvm.ClassFile.FieldType.int) E := ⟨B.exec, B.bytes, hml, findClass_of_methodNamed B.named, fun w h => atoms_spec (ws := Cond.code yX12_allOf cX12_allOf 1 (Option.some Jvm.ClassFile.FieldType.int) :: bt) B.pre w (List.mem_cons_of_mem _ h), hKs, hT, by rw [hz]; exact hb0, B.notSynchronized, B.returns⟩
  have hH : HQ E K z w s s.heap [] := ⟨hP, va_S.rf, hz⟩
  obtain ⟨hx, hb, hml, hown, hts, hKs, hT, hb0, hlocks, hret⟩ := id C
  have hl := lv_entry [.int a_0] (n := 1) (by simp [lg_len_nil, lg_len_i, lg_len_j, lg_len_q, lg_len_f, lg_len_d, lg_len_r])
  rw [lg_entry_eq]
  generalize (lg_sl [.int a_0] ++ List.replicate (1 - (lg_sl [.int a_0]).length) Slot.unset).toArray = ls at hl ⊢
  replace hl : lv_has ls 1 [(0, .int a_0)] := by simpa only [lv_args, cat_q, cat_i, cat_j, reduceIte, Nat.reduceEqDiff, Nat.reduceAdd, Nat.zero_add] using hl
  generalize s.heap = H at hH ⊢
  unfold f_X12_allOf at hf
  refine lv_iconst (v := 1) hx hb dX12_allOf_0 (by decide) ?_
  refine lv_iload_n hx hb dX12_allOf_1 rfl (lv_at hl 0 rfl) ?_
  refine lv_ishl hx hb dX12_allOf_2 ?_
  refine lv_iconst (v := 1) hx hb dX12_allOf_3 (by decide) ?_
  refine lv_isub hx hb dX12_allOf_4 ?_
  exact hw_iret hx hb hret hf hH hlocks dX12_allOf_5

theorem dX12_slotSet_0 : decode cX12_slotSet 0 = .ok (.iconst 1, 1) := by decide +kernel
theorem dX12_slotSet_1 : decode cX12_slotSet 1 = .ok (.iload_n 1, 1) := by decide +kernel
theorem dX12_slotSet_2 : decode cX12_slotSet 2 = .ok (.ishl, 1) := by decide +kernel
theorem dX12_slotSet_3 : decode cX12_slotSet 3 = .ok (.iconst 1, 1) := by decide +kernel
theorem dX12_slotSet_4 : decode cX12_slotSet 4 = .ok (.isub, 1) := by decide +kernel
theorem dX12_slotSet_5 : decode cX12_slotSet 5 = .ok (.iload_n 0, 1) := by decide +kernel
theorem dX12_slotSet_6 : decode cX12_slotSet 6 = .ok (.ishl, 1) := by decide +kernel
theorem dX12_slotSet_7 : decode cX12_slotSet 7 = .ok (.ireturn, 1) := by decide +kernel
theorem hs_X12_slotSet : yX12_slotSet.cls ≠ "java/lang/invoke/MethodHandle" ∧ yX12_slotSet.cls ≠ "java/lang/invoke/VarHandle" ∧ (parseMethodDescriptor yX12_slotSet.desc).map (fun d => d.parameters.length) = some 2 := by decide +kernel
set_option maxHeartbeats 4000000 in
set_option maxRecDepth 100000 in
theorem k_X12_slotSet (l : Launch) (E : Ev) (K : Kd) (z : Nat) (a_0 : Int32) (a_1 : Int32) (w : Wd) {r : Int32} {w' : Wd} (hf : f_X12_slotSet K a_0 a_1 w = some (r, w')) : Met l yX12_slotSet (Cond.code yX12_slotSet cX12_slotSet 2 (Option.some Jvm.ClassFile.FieldType.int) :: bt) ({ frames := 0, cells := 0, slots := 0, locals := 0 } : Room) (va_Pc [.int a_0, .int a_1] (HB E K w z)) (QI E K z w' r) 0 0 (hA E) := by
  refine Met.ofW (cc := cX12_slotSet) (maxL := 2) (ret := (Option.some Jvm.ClassFile.FieldType.int)) (by decide) rfl ?_
  intro p e s m args below meth c s₁ B hml hv
  obtain ⟨rfl, hz, hP, hKs, hT, hb0⟩ := hv
  have C : CX p l e s m _ meth c cX12_slotSet 2 RX12 (Option.some Jvm.ClassFile.FieldType.int) E := ⟨B.exec, B.bytes, hml, findClass_of_methodNamed B.named, fun w h => atoms_spec (ws := Cond.code yX12_slotSet cX12_slotSet 2 (Option.some Jvm.ClassFile.FieldType.int) :: bt) B.pre w (List.mem_cons_of_mem _ h), hKs, hT, by rw [hz]; exact hb0, B.notSynchronized, B.returns⟩
  have hH : HQ E K z w s s.heap [] := ⟨hP, va_S.rf, hz⟩
  obtain ⟨hx, hb, hml, hown, hts, hKs, hT, hb0, hlocks, hret⟩ := id C
  have hl := lv_entry [.int a_0, .int a_1] (n := 2) (by simp [lg_len_nil, lg_len_i, lg_len_j, lg_len_q, lg_len_f, lg_len_d, lg_len_r])
  rw [lg_entry_eq]
  generalize (lg_sl [.int a_0, .int a_1] ++ List.replicate (2 - (lg_sl [.int a_0, .int a_1]).length) Slot.unset).toArray = ls at hl ⊢
  replace hl : lv_has ls 2 [(0, .int a_0), (1, .int a_1)] := by simpa only [lv_args, cat_q, cat_i, cat_j, reduceIte, Nat.reduceEqDiff, Nat.reduceAdd, Nat.zero_add] using hl
  generalize s.heap = H at hH ⊢
  unfold f_X12_slotSet at hf
  refine lv_iconst (v := 1) hx hb dX12_slotSet_0 (by decide) ?_
  refine lv_iload_n hx hb dX12_slotSet_1 rfl (lv_at hl 1 rfl) ?_
  refine lv_ishl hx hb dX12_slotSet_2 ?_
  refine lv_iconst (v := 1) hx hb dX12_slotSet_3 (by decide) ?_
  refine lv_isub hx hb dX12_slotSet_4 ?_
  refine lv_iload_n hx hb dX12_slotSet_5 rfl (lv_at hl 0 rfl) ?_
  refine lv_ishl hx hb dX12_slotSet_6 ?_
  exact hw_iret hx hb hret hf hH hlocks dX12_slotSet_7

theorem dX13_clears_0 : decode cX13_clears 0 = .ok (.iconst 0, 1) := by decide +kernel
theorem dX13_clears_1 : decode cX13_clears 1 = .ok (.istore_n 1, 1) := by decide +kernel
theorem dX13_clears_2 : decode cX13_clears 2 = .ok (.iload_n 1, 1) := by decide +kernel
theorem dX13_clears_3 : decode cX13_clears 3 = .ok (.sipush 170, 3) := by decide +kernel
theorem dX13_clears_6 : decode cX13_clears 6 = .ok (.if_icmp .ge 16, 3) := by decide +kernel
theorem dX13_clears_9 : decode cX13_clears 9 = .ok (.aload_n 0, 1) := by decide +kernel
theorem dX13_clears_10 : decode cX13_clears 10 = .ok (.getfield 13, 3) := by decide +kernel
theorem dX13_clears_13 : decode cX13_clears 13 = .ok (.iload_n 1, 1) := by decide +kernel
theorem dX13_clears_14 : decode cX13_clears 14 = .ok (.iconst 0, 1) := by decide +kernel
theorem dX13_clears_15 : decode cX13_clears 15 = .ok (.iastore, 1) := by decide +kernel
theorem dX13_clears_16 : decode cX13_clears 16 = .ok (.iinc 1 1, 3) := by decide +kernel
theorem dX13_clears_19 : decode cX13_clears 19 = .ok (.goto (-17), 3) := by decide +kernel
theorem dX13_clears_22 : decode cX13_clears 22 = .ok (.iconst 0, 1) := by decide +kernel
theorem dX13_clears_23 : decode cX13_clears 23 = .ok (.istore_n 1, 1) := by decide +kernel
theorem dX13_clears_24 : decode cX13_clears 24 = .ok (.iload_n 1, 1) := by decide +kernel
theorem dX13_clears_25 : decode cX13_clears 25 = .ok (.sipush 370, 3) := by decide +kernel
theorem dX13_clears_28 : decode cX13_clears 28 = .ok (.if_icmp .ge 16, 3) := by decide +kernel
theorem dX13_clears_31 : decode cX13_clears 31 = .ok (.aload_n 0, 1) := by decide +kernel
theorem dX13_clears_32 : decode cX13_clears 32 = .ok (.getfield 19, 3) := by decide +kernel
theorem dX13_clears_35 : decode cX13_clears 35 = .ok (.iload_n 1, 1) := by decide +kernel
theorem dX13_clears_36 : decode cX13_clears 36 = .ok (.iconst 0, 1) := by decide +kernel
theorem dX13_clears_37 : decode cX13_clears 37 = .ok (.iastore, 1) := by decide +kernel
theorem dX13_clears_38 : decode cX13_clears 38 = .ok (.iinc 1 1, 3) := by decide +kernel
theorem dX13_clears_41 : decode cX13_clears 41 = .ok (.goto (-17), 3) := by decide +kernel
theorem dX13_clears_44 : decode cX13_clears 44 = .ok (.aload_n 0, 1) := by decide +kernel
theorem dX13_clears_45 : decode cX13_clears 45 = .ok (.getfield 13, 3) := by decide +kernel
theorem dX13_clears_48 : decode cX13_clears 48 = .ok (.sipush 160, 3) := by decide +kernel
theorem dX13_clears_51 : decode cX13_clears 51 = .ok (.bipush 10, 2) := by decide +kernel
theorem dX13_clears_53 : decode cX13_clears 53 = .ok (.iastore, 1) := by decide +kernel
theorem dX13_clears_54 : decode cX13_clears 54 = .ok (.aload_n 0, 1) := by decide +kernel
theorem dX13_clears_55 : decode cX13_clears 55 = .ok (.getfield 13, 3) := by decide +kernel
theorem dX13_clears_58 : decode cX13_clears 58 = .ok (.sipush 161, 3) := by decide +kernel
theorem dX13_clears_61 : decode cX13_clears 61 = .ok (.iconst 5, 1) := by decide +kernel
theorem dX13_clears_62 : decode cX13_clears 62 = .ok (.iastore, 1) := by decide +kernel
theorem dX13_clears_63 : decode cX13_clears 63 = .ok (.aload_n 0, 1) := by decide +kernel
theorem dX13_clears_64 : decode cX13_clears 64 = .ok (.getfield 13, 3) := by decide +kernel
theorem dX13_clears_67 : decode cX13_clears 67 = .ok (.sipush 164, 3) := by decide +kernel
theorem dX13_clears_70 : decode cX13_clears 70 = .ok (.bipush 15, 2) := by decide +kernel
theorem dX13_clears_72 : decode cX13_clears 72 = .ok (.iastore, 1) := by decide +kernel
theorem dX13_clears_73 : decode cX13_clears 73 = .ok (.return_, 1) := by decide +kernel
theorem hd_X13_clears : yX13_clears.cls = RX13 ∧ yX13_clears.cls ≠ "java/lang/invoke/MethodHandle" ∧ yX13_clears.cls ≠ "java/lang/invoke/VarHandle" ∧ (parseMethodDescriptor yX13_clears.desc).map (fun d => d.parameters.length) = some 0 := by decide +kernel
theorem hs_X13_clears : yX13_clears.cls ≠ "java/lang/invoke/MethodHandle" ∧ yX13_clears.cls ≠ "java/lang/invoke/VarHandle" ∧ (parseMethodDescriptor yX13_clears.desc).map (fun d => d.parameters.length) = some 0 := by decide +kernel
set_option maxHeartbeats 4000000 in
set_option maxRecDepth 100000 in
theorem l_X13_clears_L2 (C : CX p l e s m args meth c cX13_clears 2 RX13 (Option.none : Option Jvm.ClassFile.FieldType) E) {o : Nat} (ho : K o = some (11, 0)) {w' : Wd} (k : Int32 → Wd → Option Wd) (hk : ∀ (v1_2 : Int32) (w : Wd) (H : Heap) (locs : List Loc) (ls : Array Slot), HQ E K z w s H locs → lv_has ls 2 [(1, .int v1_2), (0, rv E (some o))] → k v1_2 w = some w' → W p l e ({ frames := 0, cells := 0, slots := 0, locals := 0 } : Room) s m args below meth c H locs 0 0 (MQ below (QV E K z w') args s 0 0 (hA E)) (F0 m 22 ls [])) : ∀ (n : Nat) (v1_2 : Int32) (w : Wd) (H : Heap) (locs : List Loc) (ls : Array Slot), HQ E K z w s H locs → lv_has ls 2 [(1, .int v1_2), (0, rv E (some o))] → f_X13_clears_L2 K o k n v1_2 w = some w' → W p l e ({ frames := 0, cells := 0, slots := 0, locals := 0 } : Room) s m args below meth c H locs 0 0 (MQ below (QV E K z w') args s 0 0 (hA E)) (F0 m 2 ls []) := by
  obtain ⟨hx, hb, hml, hown, hts, hKs, hT, hb0, hlocks, hret⟩ := id C
  intro n
  induction n with
  | zero =>
    intro v1_2 w H locs ls hH hl hf
    cases hf
  | succ n ih =>
    intro v1_2 w H locs ls hH hl hf
    rw [f_X13_clears_L2] at hf
    refine lv_iload_n hx hb dX13_clears_2 rfl (lv_at hl 0 rfl) ?_
    refine lv_sipush (v := 170) hx hb dX13_clears_3 (by decide) ?_
    refine lv_icmp_ge (tgt := 22) hx hb dX13_clears_6 (by decide) (fun c2 => ?_) (fun c2 => ?_)
    · replace hf := (if_pos c2).symm.trans hf
      exact hk v1_2 _ _ _ _ hH (lv_sub hl [0, 1] rfl) hf
    · replace hf := (if_neg c2).symm.trans hf
      refine hl_aload_n hx hb dX13_clears_9 rfl (lv_at hl 1 rfl) ?_
      refine g13_2 hx hb hts hown hKs hH rfl ho m6_183 dX13_clears_10 ?_
      refine lv_iload_n hx hb dX13_clears_13 rfl (lv_at hl 0 rfl) ?_
      refine lv_iconst (v := 0) hx hb dX13_clears_14 (by decide) ?_
      obtain ⟨a3, ha3, hf⟩ := bnd hf
      replace ha3 := cha_some ha3
      obtain ⟨j4, hj4, hf⟩ := bnd hf
      obtain ⟨w5, hw5, hf⟩ := bnd hf
      replace hw5 := Option.some.inj hw5
      refine hw_iast (x := 0) hx hb hKs hH ha3.1 ha3.2 hj4 dX13_clears_15 (fun H locs hH => ?_)
      rw [hw5] at hH
      refine lv_iinc (v := (v1_2 + 1)) (lv' := [(1, .int ((v1_2 + 1))), (0, rv E (some o))]) hx hb dX13_clears_16 hl (k := 0) rfl rfl (by decide) rfl (fun ls hl => ?_)
      refine lv_goto (tgt := 2) hx hb dX13_clears_19 (by decide) ?_
      exact ih (v1_2 + 1) _ _ _ _ hH (lv_sub hl [0, 1] rfl) hf
set_option maxHeartbeats 4000000 in
set_option maxRecDepth 100000 in
theorem l_X13_clears_L24 (C : CX p l e s m args meth c cX13_clears 2 RX13 (Option.none : Option Jvm.ClassFile.FieldType) E) {o : Nat} (ho : K o = some (11, 0)) {w' : Wd} (k : Int32 → Wd → Option Wd) (hk : ∀ (v1_24 : Int32) (w : Wd) (H : Heap) (locs : List Loc) (ls : Array Slot), HQ E K z w s H locs → lv_has ls 2 [(1, .int v1_24), (0, rv E (some o))] → k v1_24 w = some w' → W p l e ({ frames := 0, cells := 0, slots := 0, locals := 0 } : Room) s m args below meth c H locs 0 0 (MQ below (QV E K z w') args s 0 0 (hA E)) (F0 m 44 ls [])) : ∀ (n : Nat) (v1_24 : Int32) (w : Wd) (H : Heap) (locs : List Loc) (ls : Array Slot), HQ E K z w s H locs → lv_has ls 2 [(1, .int v1_24), (0, rv E (some o))] → f_X13_clears_L24 K o k n v1_24 w = some w' → W p l e ({ frames := 0, cells := 0, slots := 0, locals := 0 } : Room) s m args below meth c H locs 0 0 (MQ below (QV E K z w') args s 0 0 (hA E)) (F0 m 24 ls []) := by
  obtain ⟨hx, hb, hml, hown, hts, hKs, hT, hb0, hlocks, hret⟩ := id C
  intro n
  induction n with
  | zero =>
    intro v1_24 w H locs ls hH hl hf
    cases hf
  | succ n ih =>
    intro v1_24 w H locs ls hH hl hf
    rw [f_X13_clears_L24] at hf
    refine lv_iload_n hx hb dX13_clears_24 rfl (lv_at hl 0 rfl) ?_
    refine lv_sipush (v := 370) hx hb dX13_clears_25 (by decide) ?_
    refine lv_icmp_ge (tgt := 44) hx hb dX13_clears_28 (by decide) (fun c7 => ?_) (fun c7 => ?_)
    · replace hf := (if_pos c7).symm.trans hf
      exact hk v1_24 _ _ _ _ hH (lv_sub hl [0, 1] rfl) hf
    · replace hf := (if_neg c7).symm.trans hf
      refine hl_aload_n hx hb dX13_clears_31 rfl (lv_at hl 1 rfl) ?_
      refine g13_4 hx hb hts hown hKs hH rfl ho m6_185 dX13_clears_32 ?_
      refine lv_iload_n hx hb dX13_clears_35 rfl (lv_at hl 0 rfl) ?_
      refine lv_iconst (v := 0) hx hb dX13_clears_36 (by decide) ?_
      obtain ⟨a8, ha8, hf⟩ := bnd hf
      replace ha8 := cha_some ha8
      obtain ⟨j9, hj9, hf⟩ := bnd hf
      obtain ⟨w10, hw10, hf⟩ := bnd hf
      replace hw10 := Option.some.inj hw10
      refine hw_iast (x := 0) hx hb hKs hH ha8.1 ha8.2 hj9 dX13_clears_37 (fun H locs hH => ?_)
      rw [hw10] at hH
      refine lv_iinc (v := (v1_24 + 1)) (lv' := [(1, .int ((v1_24 + 1))), (0, rv E (some o))]) hx hb dX13_clears_38 hl (k := 0) rfl rfl (by decide) rfl (fun ls hl => ?_)
      refine lv_goto (tgt := 24) hx hb dX13_clears_41 (by decide) ?_
      exact ih (v1_24 + 1) _ _ _ _ hH (lv_sub hl [0, 1] rfl) hf
set_option maxHeartbeats 4000000 in
set_option maxRecDepth 100000 in
theorem k_X13_clears (l : Launch) (E : Ev) (K : Kd) (z : Nat) (o : Nat) (w : Wd) (ho : K o = some (11, 0)) {w' : Wd} (hf : f_X13_clears K o w = some w') : Met l yX13_clears (Cond.code yX13_clears cX13_clears 2 (Option.none : Option Jvm.ClassFile.FieldType) :: bt) ({ frames := 0, cells := 0, slots := 0, locals := 0 } : Room) (va_Pc [rv E (some o)] (HB E K w z)) (QV E K z w') 0 0 (hA E) := by
  refine Met.ofW (cc := cX13_clears) (maxL := 2) (ret := (Option.none : Option Jvm.ClassFile.FieldType)) (by decide) rfl ?_
  intro p e s m args below meth c s₁ B hml hv
  obtain ⟨rfl, hz, hP, hKs, hT, hb0⟩ := hv
  have C : CX p l e s m _ meth c cX13_clears 2 RX13 (Option.none : Option Jvm.ClassFile.FieldType) E := ⟨B.exec, B.bytes, hml, findClass_of_methodNamed B.named, fun w h => atoms_spec (ws := Cond.code yX13_clears cX13_clears 2 (Option.none : Option Jvm.ClassFile.FieldType) :: bt) B.pre w (List.mem_cons_of_mem _ h), hKs, hT, by rw [hz]; exact hb0, B.notSynchronized, B.returns⟩
  have hH : HQ E K z w s s.heap [] := ⟨hP, va_S.rf, hz⟩
  obtain ⟨hx, hb, hml, hown, hts, hKs, hT, hb0, hlocks, hret⟩ := id C
  have hl := lv_entry [rv E (some o)] (n := 2) (by simp [lg_len_nil, lg_len_i, lg_len_j, lg_len_q, lg_len_f, lg_len_d, lg_len_r])
  rw [lg_entry_eq]
  generalize (lg_sl [rv E (some o)] ++ List.replicate (2 - (lg_sl [rv E (some o)]).length) Slot.unset).toArray = ls at hl ⊢
  replace hl : lv_has ls 2 [(0, rv E (some o))] := by simpa only [lv_args, cat_q, cat_i, cat_j, reduceIte, Nat.reduceEqDiff, Nat.reduceAdd, Nat.zero_add] using hl
  generalize s.heap = H at hH ⊢
  unfold f_X13_clears at hf
  refine lv_iconst (v := 0) hx hb dX13_clears_0 (by decide) ?_
  refine lv_istore_n (i := 1) (lv' := [(1, .int 0), (0, rv E (some o))]) hx hb dX13_clears_1 rfl hl (by decide) rfl (fun ls hl => ?_)
  refine l_X13_clears_L2  C ho _ (fun v1_2 w1 H locs ls hH hl hf => ?_) fu 0 w _ _ _ hH (lv_sub hl [0, 1] rfl) hf
  refine lv_iconst (v := 0) hx hb dX13_clears_22 (by decide) ?_
  refine lv_istore_n (i := 1) (lv' := [(1, .int 0), (0, rv E (some o))]) hx hb dX13_clears_23 rfl hl (by decide) rfl (fun ls hl => ?_)
  refine l_X13_clears_L24  C ho _ (fun v1_24 w6 H locs ls hH hl hf => ?_) fu 0 w1 _ _ _ hH (lv_sub hl [0, 1] rfl) hf
  refine hl_aload_n hx hb dX13_clears_44 rfl (lv_at hl 1 rfl) ?_
  refine g13_2 hx hb hts hown hKs hH rfl ho m6_183 dX13_clears_45 ?_
  refine lv_sipush (v := 160) hx hb dX13_clears_48 (by decide) ?_
  refine lv_bipush (v := 10) hx hb dX13_clears_51 (by decide) ?_
  obtain ⟨a11, ha11, hf⟩ := bnd hf
  replace ha11 := cha_some ha11
  obtain ⟨j12, hj12, hf⟩ := bnd hf
  obtain ⟨w13, hw13, hf⟩ := bnd hf
  replace hw13 := Option.some.inj hw13
  refine hw_iast (x := 10) hx hb hKs hH ha11.1 ha11.2 hj12 dX13_clears_53 (fun H locs hH => ?_)
  rw [hw13] at hH
  refine hl_aload_n hx hb dX13_clears_54 rfl (lv_at hl 1 rfl) ?_
  refine g13_2 hx hb hts hown hKs hH rfl ho m6_183 dX13_clears_55 ?_
  refine lv_sipush (v := 161) hx hb dX13_clears_58 (by decide) ?_
  refine lv_iconst (v := 5) hx hb dX13_clears_61 (by decide) ?_
  obtain ⟨a14, ha14, hf⟩ := bnd hf
  replace ha14 := cha_some ha14
  obtain ⟨j15, hj15, hf⟩ := bnd hf
  obtain ⟨w16, hw16, hf⟩ := bnd hf
  replace hw16 := Option.some.inj hw16
  refine hw_iast (x := 5) hx hb hKs hH ha14.1 ha14.2 hj15 dX13_clears_62 (fun H locs hH => ?_)
  rw [hw16] at hH
  refine hl_aload_n hx hb dX13_clears_63 rfl (lv_at hl 1 rfl) ?_
  refine g13_2 hx hb hts hown hKs hH rfl ho m6_183 dX13_clears_64 ?_
  refine lv_sipush (v := 164) hx hb dX13_clears_67 (by decide) ?_
  refine lv_bipush (v := 15) hx hb dX13_clears_70 (by decide) ?_
  obtain ⟨a17, ha17, hf⟩ := bnd hf
  replace ha17 := cha_some ha17
  obtain ⟨j18, hj18, hf⟩ := bnd hf
  obtain ⟨w19, hw19, hf⟩ := bnd hf
  replace hw19 := Option.some.inj hw19
  refine hw_iast (x := 15) hx hb hKs hH ha17.1 ha17.2 hj18 dX13_clears_72 (fun H locs hH => ?_)
  rw [hw19] at hH
  exact hw_vret hx hb hret hf hH hlocks dX13_clears_73

theorem dX13_moves_0 : decode cX13_moves 0 = .ok (.iconst 0, 1) := by decide +kernel
theorem dX13_moves_1 : decode cX13_moves 1 = .ok (.istore_n 2, 1) := by decide +kernel
theorem dX13_moves_2 : decode cX13_moves 2 = .ok (.iload_n 2, 1) := by decide +kernel
theorem dX13_moves_3 : decode cX13_moves 3 = .ok (.aload_n 1, 1) := by decide +kernel
theorem dX13_moves_4 : decode cX13_moves 4 = .ok (.arraylength, 1) := by decide +kernel
theorem dX13_moves_5 : decode cX13_moves 5 = .ok (.if_icmp .ge 15, 3) := by decide +kernel
theorem dX13_moves_8 : decode cX13_moves 8 = .ok (.aload_n 1, 1) := by decide +kernel
theorem dX13_moves_9 : decode cX13_moves 9 = .ok (.iload_n 2, 1) := by decide +kernel
theorem dX13_moves_10 : decode cX13_moves 10 = .ok (.aload_n 0, 1) := by decide +kernel
theorem dX13_moves_11 : decode cX13_moves 11 = .ok (.iload_n 2, 1) := by decide +kernel
theorem dX13_moves_12 : decode cX13_moves 12 = .ok (.laload, 1) := by decide +kernel
theorem dX13_moves_13 : decode cX13_moves 13 = .ok (.lastore, 1) := by decide +kernel
theorem dX13_moves_14 : decode cX13_moves 14 = .ok (.iinc 2 1, 3) := by decide +kernel
theorem dX13_moves_17 : decode cX13_moves 17 = .ok (.goto (-15), 3) := by decide +kernel
theorem dX13_moves_20 : decode cX13_moves 20 = .ok (.return_, 1) := by decide +kernel
theorem hs_X13_moves : yX13_moves.cls ≠ "java/lang/invoke/MethodHandle" ∧ yX13_moves.cls ≠ "java/lang/invoke/VarHandle" ∧ (parseMethodDescriptor yX13_moves.desc).map (fun d => d.parameters.length) = some 2 := by decide +kernel
set_option maxHeartbeats 4000000 in
set_option maxRecDepth 100000 in
theorem l_X13_moves_L2 (C : CX p l e s m args meth c cX13_moves 3 RX13 (Option.none : Option Jvm.ClassFile.FieldType) E) {w' : Wd} (k : Option Nat → Option Nat → Int32 → Wd → Option Wd) (hk : ∀ (v0_2 : Option Nat) (v1_2 : Option Nat) (v2_2 : Int32) (w : Wd) (H : Heap) (locs : List Loc) (ls : Array Slot), HQ E K z w s H locs → lv_has ls 3 [(0, rv E v0_2), (1, rv E v1_2), (2, .int v2_2)] → k v0_2 v1_2 v2_2 w = some w' → W p l e ({ frames := 0, cells := 0, slots := 0, locals := 0 } : Room) s m args below meth c H locs 0 0 (MQ below (QV E K z w') args s 0 0 (hA E)) (F0 m 20 ls [])) : ∀ (n : Nat) (v0_2 : Option Nat) (v1_2 : Option Nat) (v2_2 : Int32) (w : Wd) (H : Heap) (locs : List Loc) (ls : Array Slot), HQ E K z w s H locs → lv_has ls 3 [(0, rv E v0_2), (1, rv E v1_2), (2, .int v2_2)] → f_X13_moves_L2 K k n v0_2 v1_2 v2_2 w = some w' → W p l e ({ frames := 0, cells := 0, slots := 0, locals := 0 } : Room) s m args below meth c H locs 0 0 (MQ below (QV E K z w') args s 0 0 (hA E)) (F0 m 2 ls []) := by
  obtain ⟨hx, hb, hml, hown, hts, hKs, hT, hb0, hlocks, hret⟩ := id C
  intro n
  induction n with
  | zero =>
    intro v0_2 v1_2 v2_2 w H locs ls hH hl hf
    cases hf
  | succ n ih =>
    intro v0_2 v1_2 v2_2 w H locs ls hH hl hf
    rw [f_X13_moves_L2] at hf
    refine lv_iload_n hx hb dX13_moves_2 rfl (lv_at hl 2 rfl) ?_
    refine hl_aload_n hx hb dX13_moves_3 rfl (lv_at hl 1 rfl) ?_
    obtain ⟨a2, ha2, hf⟩ := bnd hf
    replace ha2 := cha_some ha2
    refine hw_alen23 hx hb hKs hH ha2.1 ha2.2 dX13_moves_4 ?_
    refine lv_icmp_ge (tgt := 20) hx hb dX13_moves_5 (by decide) (fun c3 => ?_) (fun c3 => ?_)
    · replace hf := (if_pos c3).symm.trans hf
      exact hk v0_2 v1_2 v2_2 _ _ _ _ hH (lv_sub hl [0, 1, 2] rfl) hf
    · replace hf := (if_neg c3).symm.trans hf
      refine hl_aload_n hx hb dX13_moves_8 rfl (lv_at hl 1 rfl) ?_
      refine lv_iload_n hx hb dX13_moves_9 rfl (lv_at hl 2 rfl) ?_
      refine hl_aload_n hx hb dX13_moves_10 rfl (lv_at hl 0 rfl) ?_
      refine lv_iload_n hx hb dX13_moves_11 rfl (lv_at hl 2 rfl) ?_
      obtain ⟨a4, ha4, hf⟩ := bnd hf
      replace ha4 := cha_some ha4
      obtain ⟨j5, hj5, hf⟩ := bnd hf
      refine hw_lald hx hb hKs hH ha4.1 ha4.2 hj5 dX13_moves_12 ?_
      obtain ⟨j6, hj6, hf⟩ := bnd hf
      obtain ⟨w7, hw7, hf⟩ := bnd hf
      replace hw7 := Option.some.inj hw7
      refine hw_last (x := (aJ w a4.1 j5)) hx hb hKs hH ha2.1 ha2.2 hj6 dX13_moves_13 (fun H locs hH => ?_)
      rw [hw7] at hH
      refine lv_iinc (v := (v2_2 + 1)) (lv' := [(2, .int ((v2_2 + 1))), (0, rv E v0_2), (1, rv E v1_2)]) hx hb dX13_moves_14 hl (k := 2) rfl rfl (by decide) (by simp [List.filter_cons, cat_q, cat_i, cat_j, imax, imin]) (fun ls hl => ?_)
      refine lv_goto (tgt := 2) hx hb dX13_moves_17 (by decide) ?_
      exact ih v0_2 v1_2 (v2_2 + 1) _ _ _ _ hH (lv_sub hl [1, 2, 0] rfl) hf
set_option maxHeartbeats 4000000 in
set_option maxRecDepth 100000 in
theorem k_X13_moves (l : Launch) (E : Ev) (K : Kd) (z : Nat) (a_0 : Option Nat) (a_1 : Option Nat) (w : Wd) {w' : Wd} (hf : f_X13_moves K a_0 a_1 w = some w') : Met l yX13_moves (Cond.code yX13_moves cX13_moves 3 (Option.none : Option Jvm.ClassFile.FieldType) :: bt) ({ frames := 0, cells := 0, slots := 0, locals := 0 } : Room) (va_Pc [rv E a_0, rv E a_1] (HB E K w z)) (QV E K z w') 0 0 (hA E) := by
  refine Met.ofW (cc := cX13_moves) (maxL := 3) (ret := (Option.none : Option Jvm.ClassFile.FieldType)) (by decide) rfl ?_
  intro p e s m args below meth c s₁ B hml hv
  obtain ⟨rfl, hz, hP, hKs, hT, hb0⟩ := hv
  have C : CX p l e s m _ meth c cX13_moves 3 RX13 (Option.none : Option Jvm.ClassFile.FieldType) E := ⟨B.exec, B.bytes, hml, findClass_of_methodNamed B.named, fun w h => atoms_spec (ws := Cond.code yX13_moves cX13_moves 3 (Option.none : Option Jvm.ClassFile.FieldType) :: bt) B.pre w (List.mem_cons_of_mem _ h), hKs, hT, by rw [hz]; exact hb0, B.notSynchronized, B.returns⟩
  have hH : HQ E K z w s s.heap [] := ⟨hP, va_S.rf, hz⟩
  obtain ⟨hx, hb, hml, hown, hts, hKs, hT, hb0, hlocks, hret⟩ := id C
  have hl := lv_entry [rv E a_0, rv E a_1] (n := 3) (by simp [lg_len_nil, lg_len_i, lg_len_j, lg_len_q, lg_len_f, lg_len_d, lg_len_r])
  rw [lg_entry_eq]
  generalize (lg_sl [rv E a_0, rv E a_1] ++ List.replicate (3 - (lg_sl [rv E a_0, rv E a_1]).length) Slot.unset).toArray = ls at hl ⊢
  replace hl : lv_has ls 3 [(0, rv E a_0), (1, rv E a_1)] := by simpa only [lv_args, cat_q, cat_i, cat_j, reduceIte, Nat.reduceEqDiff, Nat.reduceAdd, Nat.zero_add] using hl
  generalize s.heap = H at hH ⊢
  unfold f_X13_moves at hf
  refine lv_iconst (v := 0) hx hb dX13_moves_0 (by decide) ?_
  refine lv_istore_n (i := 2) (lv' := [(2, .int 0), (0, rv E a_0), (1, rv E a_1)]) hx hb dX13_moves_1 rfl hl (by decide) (by simp [List.filter_cons, cat_q, cat_i, cat_j, imax, imin]) (fun ls hl => ?_)
  refine l_X13_moves_L2  C _ (fun v0_2 v1_2 v2_2 w1 H locs ls hH hl hf => ?_) fu a_0 a_1 0 w _ _ _ hH (lv_sub hl [1, 2, 0] rfl) hf
  exact hw_vret hx hb hret hf hH hlocks dX13_moves_20

theorem dX13_thrown_0 : decode cX13_thrown 0 = .ok (.aload_n 0, 1) := by decide +kernel
theorem dX13_thrown_1 : decode cX13_thrown 1 = .ok (.getfield 104, 3) := by decide +kernel
theorem dX13_thrown_4 : decode cX13_thrown 4 = .ok (.ireturn, 1) := by decide +kernel
theorem hd_X13_thrown : yX13_thrown.cls = RX13 ∧ yX13_thrown.cls ≠ "java/lang/invoke/MethodHandle" ∧ yX13_thrown.cls ≠ "java/lang/invoke/VarHandle" ∧ (parseMethodDescriptor yX13_thrown.desc).map (fun d => d.parameters.length) = some 0 := by decide +kernel
theorem hs_X13_thrown : yX13_thrown.cls ≠ "java/lang/invoke/MethodHandle" ∧ yX13_thrown.cls ≠ "java/lang/invoke/VarHandle" ∧ (parseMethodDescriptor yX13_thrown.desc).map (fun d => d.parameters.length) = some 0 := by decide +kernel
set_option maxHeartbeats 4000000 in
set_option maxRecDepth 100000 in
theorem k_X13_thrown (l : Launch) (E : Ev) (K : Kd) (z : Nat) (o : Nat) (w : Wd) (ho : K o = some (11, 0)) {r : Int32} {w' : Wd} (hf : f_X13_thrown K o w = some (r, w')) : Met l yX13_thrown (Cond.code yX13_thrown cX13_thrown 1 (Option.some Jvm.ClassFile.FieldType.int) :: bt) ({ frames := 0, cells := 0, slots := 0, locals := 0 } : Room) (va_Pc [rv E (some o)] (HB E K w z)) (QI E K z w' r) 0 0 (hA E) := by
  refine Met.ofW (cc := cX13_thrown) (maxL := 1) (ret := (Option.some Jvm.ClassFile.FieldType.int)) (by decide) rfl ?_
  intro p e s m args below meth c s₁ B hml hv
  obtain ⟨rfl, hz, hP, hKs, hT, hb0⟩ := hv
  have C : CX p l e s m _ meth c cX13_thrown 1 RX13 (Option.some Jvm.ClassFile.FieldType.int) E := ⟨B.exec, B.bytes, hml, findClass_of_methodNamed B.named, fun w h => atoms_spec (ws := Cond.code yX13_thrown cX13_thrown 1 (Option.some Jvm.ClassFile.FieldType.int) :: bt) B.pre w (List.mem_cons_of_mem _ h), hKs, hT, by rw [hz]; exact hb0, B.notSynchronized, B.returns⟩
  have hH : HQ E K z w s s.heap [] := ⟨hP, va_S.rf, hz⟩
  obtain ⟨hx, hb, hml, hown, hts, hKs, hT, hb0, hlocks, hret⟩ := id C
  have hl := lv_entry [rv E (some o)] (n := 1) (by simp [lg_len_nil, lg_len_i, lg_len_j, lg_len_q, lg_len_f, lg_len_d, lg_len_r])
  rw [lg_entry_eq]
  generalize (lg_sl [rv E (some o)] ++ List.replicate (1 - (lg_sl [rv E (some o)]).length) Slot.unset).toArray = ls at hl ⊢
  replace hl : lv_has ls 1 [(0, rv E (some o))] := by simpa only [lv_args, cat_q, cat_i, cat_j, reduceIte, Nat.reduceEqDiff, Nat.reduceAdd, Nat.zero_add] using hl
  generalize s.heap = H at hH ⊢
  unfold f_X13_thrown at hf
  refine hl_aload_n hx hb dX13_thrown_0 rfl (lv_at hl 0 rfl) ?_
  refine g13_0 hx hb hts hown hKs hH rfl ho m6_181 dX13_thrown_1 ?_
  exact hw_iret hx hb hret hf hH hlocks dX13_thrown_4

theorem dX13_is_0 : decode cX13_is 0 = .ok (.aload_n 0, 1) := by decide +kernel
theorem dX13_is_1 : decode cX13_is 1 = .ok (.iload_n 1, 1) := by decide +kernel
theorem dX13_is_2 : decode cX13_is 2 = .ok (.ifCond .eq 7, 3) := by decide +kernel
theorem dX13_is_5 : decode cX13_is 5 = .ok (.iconst 0, 1) := by decide +kernel
theorem dX13_is_6 : decode cX13_is 6 = .ok (.goto 4, 3) := by decide +kernel
theorem dX13_is_9 : decode cX13_is 9 = .ok (.iconst 1, 1) := by decide +kernel
theorem dX13_is_10 : decode cX13_is 10 = .ok (.putfield 104, 3) := by decide +kernel
theorem dX13_is_13 : decode cX13_is 13 = .ok (.iload_n 1, 1) := by decide +kernel
theorem dX13_is_14 : decode cX13_is 14 = .ok (.ireturn, 1) := by decide +kernel
theorem hd_X13_is : yX13_is.cls = RX13 ∧ yX13_is.cls ≠ "java/lang/invoke/MethodHandle" ∧ yX13_is.cls ≠ "java/lang/invoke/VarHandle" ∧ (parseMethodDescriptor yX13_is.desc).map (fun d => d.parameters.length) = some 1 := by decide +kernel
theorem hs_X13_is : yX13_is.cls ≠ "java/lang/invoke/MethodHandle" ∧ yX13_is.cls ≠ "java/lang/invoke/VarHandle" ∧ (parseMethodDescriptor yX13_is.desc).map (fun d => d.parameters.length) = some 1 := by decide +kernel
set_option maxHeartbeats 4000000 in
set_option maxRecDepth 100000 in
theorem k_X13_is (l : Launch) (E : Ev) (K : Kd) (z : Nat) (o : Nat) (a_1 : Bool) (w : Wd) (ho : K o = some (11, 0)) {r : Bool} {w' : Wd} (hf : f_X13_is K o a_1 w = some (r, w')) : Met l yX13_is (Cond.code yX13_is cX13_is 2 (Option.some Jvm.ClassFile.FieldType.boolean) :: bt) ({ frames := 0, cells := 0, slots := 0, locals := 0 } : Room) (va_Pc [rv E (some o), .int (b2i a_1)] (HB E K w z)) (QI E K z w' (b2i r)) 0 0 (hA E) := by
  refine Met.ofW (cc := cX13_is) (maxL := 2) (ret := (Option.some Jvm.ClassFile.FieldType.boolean)) (by decide) rfl ?_
  intro p e s m args below meth c s₁ B hml hv
  obtain ⟨rfl, hz, hP, hKs, hT, hb0⟩ := hv
  have C : CX p l e s m _ meth c cX13_is 2 RX13 (Option.some Jvm.ClassFile.FieldType.boolean) E := ⟨B.exec, B.bytes, hml, findClass_of_methodNamed B.named, fun w h => atoms_spec (ws := Cond.code yX13_is cX13_is 2 (Option.some Jvm.ClassFile.FieldType.boolean) :: bt) B.pre w (List.mem_cons_of_mem _ h), hKs, hT, by rw [hz]; exact hb0, B.notSynchronized, B.returns⟩
  have hH : HQ E K z w s s.heap [] := ⟨hP, va_S.rf, hz⟩
  obtain ⟨hx, hb, hml, hown, hts, hKs, hT, hb0, hlocks, hret⟩ := id C
  have hl := lv_entry [rv E (some o), .int (b2i a_1)] (n := 2) (by simp [lg_len_nil, lg_len_i, lg_len_j, lg_len_q, lg_len_f, lg_len_d, lg_len_r])
  rw [lg_entry_eq]
  generalize (lg_sl [rv E (some o), .int (b2i a_1)] ++ List.replicate (2 - (lg_sl [rv E (some o), .int (b2i a_1)]).length) Slot.unset).toArray = ls at hl ⊢
  replace hl : lv_has ls 2 [(0, rv E (some o)), (1, .int (b2i a_1))] := by simpa only [lv_args, cat_q, cat_i, cat_j, reduceIte, Nat.reduceEqDiff, Nat.reduceAdd, Nat.zero_add] using hl
  generalize s.heap = H at hH ⊢
  unfold f_X13_is at hf
  refine hl_aload_n hx hb dX13_is_0 rfl (lv_at hl 0 rfl) ?_
  refine lv_iload_n hx hb dX13_is_1 rfl (lv_at hl 1 rfl) ?_
  refine lv_if_eq (tgt := 9) hx hb dX13_is_2 (by decide) (fun c1 => ?_) (fun c1 => ?_)
  · replace hf := (if_pos c1).symm.trans hf
    refine lv_iconst (v := 1) hx hb dX13_is_9 (by decide) ?_
    obtain ⟨w2, hw2, hf⟩ := bnd hf
    replace hw2 := Option.some.inj hw2
    refine p13_0 (v := 1) hx hb hts hown hKs hH rfl ho m6_181 dX13_is_10 (fun H locs hH => ?_)
    rw [hw2] at hH
    refine lv_iload_n hx hb dX13_is_13 rfl (lv_at hl 1 rfl) ?_
    exact hw_zret hx hb hret rfl hf hH hlocks dX13_is_14
  · replace hf := (if_neg c1).symm.trans hf
    refine lv_iconst (v := 0) hx hb dX13_is_5 (by decide) ?_
    refine lv_goto (tgt := 10) hx hb dX13_is_6 (by decide) ?_
    obtain ⟨w3, hw3, hf⟩ := bnd hf
    replace hw3 := Option.some.inj hw3
    refine p13_0 (v := 0) hx hb hts hown hKs hH rfl ho m6_181 dX13_is_10 (fun H locs hH => ?_)
    rw [hw3] at hH
    refine lv_iload_n hx hb dX13_is_13 rfl (lv_at hl 1 rfl) ?_
    exact hw_zret hx hb hret rfl hf hH hlocks dX13_is_14

theorem dX13_may_0 : decode cX13_may 0 = .ok (.aload_n 0, 1) := by decide +kernel
theorem dX13_may_1 : decode cX13_may 1 = .ok (.iload_n 1, 1) := by decide +kernel
theorem dX13_may_2 : decode cX13_may 2 = .ok (.ifCond .eq 7, 3) := by decide +kernel
theorem dX13_may_5 : decode cX13_may 5 = .ok (.iconst 0, 1) := by decide +kernel
theorem dX13_may_6 : decode cX13_may 6 = .ok (.goto 4, 3) := by decide +kernel
theorem dX13_may_9 : decode cX13_may 9 = .ok (.iload_n 2, 1) := by decide +kernel
theorem dX13_may_10 : decode cX13_may 10 = .ok (.putfield 104, 3) := by decide +kernel
theorem dX13_may_13 : decode cX13_may 13 = .ok (.iload_n 1, 1) := by decide +kernel
theorem dX13_may_14 : decode cX13_may 14 = .ok (.ireturn, 1) := by decide +kernel
theorem hd_X13_may : yX13_may.cls = RX13 ∧ yX13_may.cls ≠ "java/lang/invoke/MethodHandle" ∧ yX13_may.cls ≠ "java/lang/invoke/VarHandle" ∧ (parseMethodDescriptor yX13_may.desc).map (fun d => d.parameters.length) = some 2 := by decide +kernel
theorem hs_X13_may : yX13_may.cls ≠ "java/lang/invoke/MethodHandle" ∧ yX13_may.cls ≠ "java/lang/invoke/VarHandle" ∧ (parseMethodDescriptor yX13_may.desc).map (fun d => d.parameters.length) = some 2 := by decide +kernel
set_option maxHeartbeats 4000000 in
set_option maxRecDepth 100000 in
theorem k_X13_may (l : Launch) (E : Ev) (K : Kd) (z : Nat) (o : Nat) (a_1 : Bool) (a_2 : Int32) (w : Wd) (ho : K o = some (11, 0)) {r : Bool} {w' : Wd} (hf : f_X13_may K o a_1 a_2 w = some (r, w')) : Met l yX13_may (Cond.code yX13_may cX13_may 3 (Option.some Jvm.ClassFile.FieldType.boolean) :: bt) ({ frames := 0, cells := 0, slots := 0, locals := 0 } : Room) (va_Pc [rv E (some o), .int (b2i a_1), .int a_2] (HB E K w z)) (QI E K z w' (b2i r)) 0 0 (hA E) := by
  refine Met.ofW (cc := cX13_may) (maxL := 3) (ret := (Option.some Jvm.ClassFile.FieldType.boolean)) (by decide) rfl ?_
  intro p e s m args below meth c s₁ B hml hv
  obtain ⟨rfl, hz, hP, hKs, hT, hb0⟩ := hv
  have C : CX p l e s m _ meth c cX13_may 3 RX13 (Option.some Jvm.ClassFile.FieldType.boolean) E := ⟨B.exec, B.bytes, hml, findClass_of_methodNamed B.named, fun w h => atoms_spec (ws := Cond.code yX13_may cX13_may 3 (Option.some Jvm.ClassFile.FieldType.boolean) :: bt) B.pre w (List.mem_cons_of_mem _ h), hKs, hT, by rw [hz]; exact hb0, B.notSynchronized, B.returns⟩
  have hH : HQ E K z w s s.heap [] := ⟨hP, va_S.rf, hz⟩
  obtain ⟨hx, hb, hml, hown, hts, hKs, hT, hb0, hlocks, hret⟩ := id C
  have hl := lv_entry [rv E (some o), .int (b2i a_1), .int a_2] (n := 3) (by simp [lg_len_nil, lg_len_i, lg_len_j, lg_len_q, lg_len_f, lg_len_d, lg_len_r])
  rw [lg_entry_eq]
  generalize (lg_sl [rv E (some o), .int (b2i a_1), .int a_2] ++ List.replicate (3 - (lg_sl [rv E (some o), .int (b2i a_1), .int a_2]).length) Slot.unset).toArray = ls at hl ⊢
  replace hl : lv_has ls 3 [(0, rv E (some o)), (1, .int (b2i a_1)), (2, .int a_2)] := by simpa only [lv_args, cat_q, cat_i, cat_j, reduceIte, Nat.reduceEqDiff, Nat.reduceAdd, Nat.zero_add] using hl
  generalize s.heap = H at hH ⊢
  unfold f_X13_may at hf
  refine hl_aload_n hx hb dX13_may_0 rfl (lv_at hl 0 rfl) ?_
  refine lv_iload_n hx hb dX13_may_1 rfl (lv_at hl 1 rfl) ?_
  refine lv_if_eq (tgt := 9) hx hb dX13_may_2 (by decide) (fun c1 => ?_) (fun c1 => ?_)
  · replace hf := (if_pos c1).symm.trans hf
    refine lv_iload_n hx hb dX13_may_9 rfl (lv_at hl 2 rfl) ?_
    obtain ⟨w2, hw2, hf⟩ := bnd hf
    replace hw2 := Option.some.inj hw2
    refine p13_0 (v := a_2) hx hb hts hown hKs hH rfl ho m6_181 dX13_may_10 (fun H locs hH => ?_)
    rw [hw2] at hH
    refine lv_iload_n hx hb dX13_may_13 rfl (lv_at hl 1 rfl) ?_
    exact hw_zret hx hb hret rfl hf hH hlocks dX13_may_14
  · replace hf := (if_neg c1).symm.trans hf
    refine lv_iconst (v := 0) hx hb dX13_may_5 (by decide) ?_
    refine lv_goto (tgt := 10) hx hb dX13_may_6 (by decide) ?_
    obtain ⟨w3, hw3, hf⟩ := bnd hf
    replace hw3 := Option.some.inj hw3
    refine p13_0 (v := 0) hx hb hts hown hKs hH rfl ho m6_181 dX13_may_10 (fun H locs hH => ?_)
    rw [hw3] at hH
    refine lv_iload_n hx hb dX13_may_13 rfl (lv_at hl 1 rfl) ?_
    exact hw_zret hx hb hret rfl hf hH hlocks dX13_may_14

theorem dX13_isIn_0 : decode cX13_isIn 0 = .ok (.lload_n 0, 1) := by decide +kernel
theorem dX13_isIn_1 : decode cX13_isIn 1 = .ok (.lload_n 2, 1) := by decide +kernel
theorem dX13_isIn_2 : decode cX13_isIn 2 = .ok (.lcmp, 1) := by decide +kernel
theorem dX13_isIn_3 : decode cX13_isIn 3 = .ok (.ifCond .lt 14, 3) := by decide +kernel
theorem dX13_isIn_6 : decode cX13_isIn 6 = .ok (.lload_n 0, 1) := by decide +kernel
theorem dX13_isIn_7 : decode cX13_isIn 7 = .ok (.lload 4, 2) := by decide +kernel
theorem dX13_isIn_9 : decode cX13_isIn 9 = .ok (.lcmp, 1) := by decide +kernel
theorem dX13_isIn_10 : decode cX13_isIn 10 = .ok (.ifCond .gt 7, 3) := by decide +kernel
theorem dX13_isIn_13 : decode cX13_isIn 13 = .ok (.iconst 1, 1) := by decide +kernel
theorem dX13_isIn_14 : decode cX13_isIn 14 = .ok (.goto 4, 3) := by decide +kernel
theorem dX13_isIn_17 : decode cX13_isIn 17 = .ok (.iconst 0, 1) := by decide +kernel
theorem dX13_isIn_18 : decode cX13_isIn 18 = .ok (.ireturn, 1) := by decide +kernel
theorem hs_X13_isIn : yX13_isIn.cls ≠ "java/lang/invoke/MethodHandle" ∧ yX13_isIn.cls ≠ "java/lang/invoke/VarHandle" ∧ (parseMethodDescriptor yX13_isIn.desc).map (fun d => d.parameters.length) = some 3 := by decide +kernel
set_option maxHeartbeats 4000000 in
set_option maxRecDepth 100000 in
theorem k_X13_isIn (l : Launch) (E : Ev) (K : Kd) (z : Nat) (a_0 : Int64) (a_2 : Int64) (a_4 : Int64) (w : Wd) {r : Bool} {w' : Wd} (hf : f_X13_isIn K a_0 a_2 a_4 w = some (r, w')) : Met l yX13_isIn (Cond.code yX13_isIn cX13_isIn 6 (Option.some Jvm.ClassFile.FieldType.boolean) :: bt) ({ frames := 0, cells := 0, slots := 0, locals := 0 } : Room) (va_Pc [.long a_0, .long a_2, .long a_4] (HB E K w z)) (QI E K z w' (b2i r)) 0 0 (hA E) := by
  refine Met.ofW (cc := cX13_isIn) (maxL := 6) (ret := (Option.some Jvm.ClassFile.FieldType.boolean)) (by decide) rfl ?_
  intro p e s m args below meth c s₁ B hml hv
  obtain ⟨rfl, hz, hP, hKs, hT, hb0⟩ := hv
  have C : CX p l e s m _ meth c cX13_isIn 6 RX13 (Option.some Jvm.ClassFile.FieldType.boolean) E := ⟨B.exec, B.bytes, hml, findClass_of_methodNamed B.named, fun w h => atoms_spec (ws := Cond.code yX13_isIn cX13_isIn 6 (Option.some Jvm.ClassFile.FieldType.boolean) :: bt) B.pre w (List.mem_cons_of_mem _ h), hKs, hT, by rw [hz]; exact hb0, B.notSynchronized, B.returns⟩
  have hH : HQ E K z w s s.heap [] := ⟨hP, va_S.rf, hz⟩
  obtain ⟨hx, hb, hml, hown, hts, hKs, hT, hb0, hlocks, hret⟩ := id C
  have hl := lv_entry [.long a_0, .long a_2, .long a_4] (n := 6) (by simp [lg_len_nil, lg_len_i, lg_len_j, lg_len_q, lg_len_f, lg_len_d, lg_len_r])
  rw [lg_entry_eq]
  generalize (lg_sl [.long a_0, .long a_2, .long a_4] ++ List.replicate (6 - (lg_sl [.long a_0, .long a_2, .long a_4]).length) Slot.unset).toArray = ls at hl ⊢
  replace hl : lv_has ls 6 [(0, .long a_0), (2, .long a_2), (4, .long a_4)] := by simpa only [lv_args, cat_q, cat_i, cat_j, reduceIte, Nat.reduceEqDiff, Nat.reduceAdd, Nat.zero_add] using hl
  generalize s.heap = H at hH ⊢
  unfold f_X13_isIn at hf
  refine lv_lload_n hx hb dX13_isIn_0 rfl (lv_at hl 0 rfl) ?_
  refine lv_lload_n hx hb dX13_isIn_1 rfl (lv_at hl 1 rfl) ?_
  refine W.lcmp hx hb dX13_isIn_2 ?_
  refine lv_if_lt (tgt := 17) hx hb dX13_isIn_3 (by decide) (fun c1 => ?_) (fun c1 => ?_)
  · replace hf := (if_pos c1).symm.trans hf
    refine lv_iconst (v := 0) hx hb dX13_isIn_17 (by decide) ?_
    exact hw_zret hx hb hret rfl hf hH hlocks dX13_isIn_18
  · replace hf := (if_neg c1).symm.trans hf
    refine lv_lload_n hx hb dX13_isIn_6 rfl (lv_at hl 0 rfl) ?_
    refine lv_lload hx hb dX13_isIn_7 (lv_at hl 2 rfl) ?_
    refine W.lcmp hx hb dX13_isIn_9 ?_
    refine lv_if_gt (tgt := 17) hx hb dX13_isIn_10 (by decide) (fun c2 => ?_) (fun c2 => ?_)
    · replace hf := (if_pos c2).symm.trans hf
      refine lv_iconst (v := 0) hx hb dX13_isIn_17 (by decide) ?_
      exact hw_zret hx hb hret rfl hf hH hlocks dX13_isIn_18
    · replace hf := (if_neg c2).symm.trans hf
      refine lv_iconst (v := 1) hx hb dX13_isIn_13 (by decide) ?_
      refine lv_goto (tgt := 18) hx hb dX13_isIn_14 (by decide) ?_
      exact hw_zret hx hb hret rfl hf hH hlocks dX13_isIn_18

theorem dX13_has_0 : decode cX13_has 0 = .ok (.iload_n 0, 1) := by decide +kernel
theorem dX13_has_1 : decode cX13_has 1 = .ok (.iload_n 1, 1) := by decide +kernel
theorem dX13_has_2 : decode cX13_has 2 = .ok (.ishr, 1) := by decide +kernel
theorem dX13_has_3 : decode cX13_has 3 = .ok (.iconst 1, 1) := by decide +kernel
theorem dX13_has_4 : decode cX13_has 4 = .ok (.iand, 1) := by decide +kernel
theorem dX13_has_5 : decode cX13_has 5 = .ok (.iconst 1, 1) := by decide +kernel
theorem dX13_has_6 : decode cX13_has 6 = .ok (.if_icmp .ne 7, 3) := by decide +kernel
theorem dX13_has_9 : decode cX13_has 9 = .ok (.iconst 1, 1) := by decide +kernel
theorem dX13_has_10 : decode cX13_has 10 = .ok (.goto 4, 3) := by decide +kernel
theorem dX13_has_13 : decode cX13_has 13 = .ok (.iconst 0, 1) := by decide +kernel
theorem dX13_has_14 : decode cX13_has 14 = .ok (.ireturn, 1) := by decide +kernel
theorem hs_X13_has : yX13_has.cls ≠ "java/lang/invoke/MethodHandle" ∧ yX13_has.cls ≠ "java/lang/invoke/VarHandle" ∧ (parseMethodDescriptor yX13_has.desc).map (fun d => d.parameters.length) = some 2 := by decide +kernel
set_option maxHeartbeats 4000000 in
set_option maxRecDepth 100000 in
theorem k_X13_has (l : Launch) (E : Ev) (K : Kd) (z : Nat) (a_0 : Int32) (a_1 : Int32) (w : Wd) {r : Bool} {w' : Wd} (hf : f_X13_has K a_0 a_1 w = some (r, w')) : Met l yX13_has (Cond.code yX13_has cX13_has 2 (Option.some Jvm.ClassFile.FieldType.boolean) :: bt) ({ frames := 0, cells := 0, slots := 0, locals := 0 } : Room) (va_Pc [.int a_0, .int a_1] (HB E K w z)) (QI E K z w' (b2i r)) 0 0 (hA E) := by
  refine Met.ofW (cc := cX13_has) (maxL := 2) (ret := (Option.some Jvm.ClassFile.FieldType.boolean)) (by decide) rfl ?_
  intro p e s m args below meth c s₁ B hml hv
  obtain ⟨rfl, hz, hP, hKs, hT, hb0⟩ := hv
  have C : CX p l e s m _ meth c cX13_has 2 RX13 (Option.some Jvm.ClassFile.FieldType.boolean) E := ⟨B.exec, B.bytes, hml, findClass_of_methodNamed B.named, fun w h => atoms_spec (ws := Cond.code yX13_has cX13_has 2 (Option.some Jvm.ClassFile.FieldType.boolean) :: bt) B.pre w (List.mem_cons_of_mem _ h), hKs, hT, by rw [hz]; exact hb0, B.notSynchronized, B.returns⟩
  have hH : HQ E K z w s s.heap [] := ⟨hP, va_S.rf, hz⟩
  obtain ⟨hx, hb, hml, hown, hts, hKs, hT, hb0, hlocks, hret⟩ := id C
  have hl := lv_entry [.int a_0, .int a_1] (n := 2) (by simp [lg_len_nil, lg_len_i, lg_len_j, lg_len_q, lg_len_f, lg_len_d, lg_len_r])
  rw [lg_entry_eq]
  generalize (lg_sl [.int a_0, .int a_1] ++ List.replicate (2 - (lg_sl [.int a_0, .int a_1]).length) Slot.unset).toArray = ls at hl ⊢
  replace hl : lv_has ls 2 [(0, .int a_0), (1, .int a_1)] := by simpa only [lv_args, cat_q, cat_i, cat_j, reduceIte, Nat.reduceEqDiff, Nat.reduceAdd, Nat.zero_add] using hl
  generalize s.heap = H at hH ⊢
  unfold f_X13_has at hf
  refine lv_iload_n hx hb dX13_has_0 rfl (lv_at hl 0 rfl) ?_
  refine lv_iload_n hx hb dX13_has_1 rfl (lv_at hl 1 rfl) ?_
  refine lv_ishr hx hb dX13_has_2 ?_
  refine lv_iconst (v := 1) hx hb dX13_has_3 (by decide) ?_
  refine lv_iand hx hb dX13_has_4 ?_
  refine lv_iconst (v := 1) hx hb dX13_has_5 (by decide) ?_
  refine lv_icmp_ne (tgt := 13) hx hb dX13_has_6 (by decide) (fun c1 => ?_) (fun c1 => ?_)
  · replace hf := (if_neg c1).symm.trans hf
    refine lv_iconst (v := 0) hx hb dX13_has_13 (by decide) ?_
    exact hw_zret hx hb hret rfl hf hH hlocks dX13_has_14
  · replace hf := (if_pos c1).symm.trans hf
    refine lv_iconst (v := 1) hx hb dX13_has_9 (by decide) ?_
    refine lv_goto (tgt := 14) hx hb dX13_has_10 (by decide) ?_
    exact hw_zret hx hb hret rfl hf hH hlocks dX13_has_14

theorem dX13_bits_0 : decode cX13_bits 0 = .ok (.iconst 0, 1) := by decide +kernel
theorem dX13_bits_1 : decode cX13_bits 1 = .ok (.istore_n 1, 1) := by decide +kernel
theorem dX13_bits_2 : decode cX13_bits 2 = .ok (.iconst 0, 1) := by decide +kernel
theorem dX13_bits_3 : decode cX13_bits 3 = .ok (.istore_n 2, 1) := by decide +kernel
theorem dX13_bits_4 : decode cX13_bits 4 = .ok (.iload_n 2, 1) := by decide +kernel
theorem dX13_bits_5 : decode cX13_bits 5 = .ok (.bipush 31, 2) := by decide +kernel
theorem dX13_bits_7 : decode cX13_bits 7 = .ok (.if_icmp .ge 17, 3) := by decide +kernel
theorem dX13_bits_10 : decode cX13_bits 10 = .ok (.iload_n 1, 1) := by decide +kernel
theorem dX13_bits_11 : decode cX13_bits 11 = .ok (.iload_n 0, 1) := by decide +kernel
theorem dX13_bits_12 : decode cX13_bits 12 = .ok (.iload_n 2, 1) := by decide +kernel
theorem dX13_bits_13 : decode cX13_bits 13 = .ok (.ishr, 1) := by decide +kernel
theorem dX13_bits_14 : decode cX13_bits 14 = .ok (.iconst 1, 1) := by decide +kernel
theorem dX13_bits_15 : decode cX13_bits 15 = .ok (.iand, 1) := by decide +kernel
theorem dX13_bits_16 : decode cX13_bits 16 = .ok (.iadd, 1) := by decide +kernel
theorem dX13_bits_17 : decode cX13_bits 17 = .ok (.istore_n 1, 1) := by decide +kernel
theorem dX13_bits_18 : decode cX13_bits 18 = .ok (.iinc 2 1, 3) := by decide +kernel
theorem dX13_bits_21 : decode cX13_bits 21 = .ok (.goto (-17), 3) := by decide +kernel
theorem dX13_bits_24 : decode cX13_bits 24 = .ok (.iload_n 1, 1) := by decide +kernel
theorem dX13_bits_25 : decode cX13_bits 25 = .ok (.ireturn, 1) := by decide +kernel
theorem hs_X13_bits : yX13_bits.cls ≠ "java/lang/invoke/MethodHandle" ∧ yX13_bits.cls ≠ "java/lang/invoke/VarHandle" ∧ (parseMethodDescriptor yX13_bits.desc).map (fun d => d.parameters.length) = some 1 := by decide +kernel
set_option maxHeartbeats 4000000 in
set_option maxRecDepth 100000 in
theorem l_X13_bits_L4 (C : CX p l e s m args meth c cX13_bits 3 RX13 (Option.some Jvm.ClassFile.FieldType.int) E) {r : Int32} {w' : Wd} (k : Int32 → Int32 → Int32 → Wd → Option (Int32 × Wd)) (hk : ∀ (v0_4 : Int32) (v1_4 : Int32) (v2_4 : Int32) (w : Wd) (H : Heap) (locs : List Loc) (ls : Array Slot), HQ E K z w s H locs → lv_has ls 3 [(0, .int v0_4), (1, .int v1_4), (2, .int v2_4)] → k v0_4 v1_4 v2_4 w = some (r, w') → W p l e ({ frames := 0, cells := 0, slots := 0, locals := 0 } : Room) s m args below meth c H locs 0 0 (MQ below (QI E K z w' r) args s 0 0 (hA E)) (F0 m 24 ls [])) : ∀ (n : Nat) (v0_4 : Int32) (v1_4 : Int32) (v2_4 : Int32) (w : Wd) (H : Heap) (locs : List Loc) (ls : Array Slot), HQ E K z w s H locs → lv_has ls 3 [(0, .int v0_4), (1, .int v1_4), (2, .int v2_4)] → f_X13_bits_L4 K k n v0_4 v1_4 v2_4 w = some (r, w') → W p l e ({ frames := 0, cells := 0, slots := 0, locals := 0 } : Room) s m args below meth c H locs 0 0 (MQ below (QI E K z w' r) args s 0 0 (hA E)) (F0 m 4 ls []) := by
  obtain ⟨hx, hb, hml, hown, hts, hKs, hT, hb0, hlocks, hret⟩ := id C
  intro n
  induction n with
  | zero =>
    intro v0_4 v1_4 v2_4 w H locs ls hH hl hf
    cases hf
  | succ n ih =>
    intro v0_4 v1_4 v2_4 w H locs ls hH hl hf
    rw [f_X13_bits_L4] at hf
    refine lv_iload_n hx hb dX13_bits_4 rfl (lv_at hl 2 rfl) ?_
    refine lv_bipush (v := 31) hx hb dX13_bits_5 (by decide) ?_
    refine lv_icmp_ge (tgt := 24) hx hb dX13_bits_7 (by decide) (fun c2 => ?_) (fun c2 => ?_)
    · replace hf := (if_pos c2).symm.trans hf
      exact hk v0_4 v1_4 v2_4 _ _ _ _ hH (lv_sub hl [0, 1, 2] rfl) hf
    · replace hf := (if_neg c2).symm.trans hf
      refine lv_iload_n hx hb dX13_bits_10 rfl (lv_at hl 1 rfl) ?_
      refine lv_iload_n hx hb dX13_bits_11 rfl (lv_at hl 0 rfl) ?_
      refine lv_iload_n hx hb dX13_bits_12 rfl (lv_at hl 2 rfl) ?_
      refine lv_ishr hx hb dX13_bits_13 ?_
      refine lv_iconst (v := 1) hx hb dX13_bits_14 (by decide) ?_
      refine lv_iand hx hb dX13_bits_15 ?_
      refine lv_iadd hx hb dX13_bits_16 ?_
      refine lv_istore_n (i := 1) (lv' := [(1, .int ((v1_4 + ((v0_4 >>> (v2_4 &&& 31)) &&& 1)))), (0, .int v0_4), (2, .int v2_4)]) hx hb dX13_bits_17 rfl hl (by decide) rfl (fun ls hl => ?_)
      refine lv_iinc (v := (v2_4 + 1)) (lv' := [(2, .int ((v2_4 + 1))), (1, .int ((v1_4 + ((v0_4 >>> (v2_4 &&& 31)) &&& 1)))), (0, .int v0_4)]) hx hb dX13_bits_18 hl (k := 2) rfl rfl (by decide) rfl (fun ls hl => ?_)
      refine lv_goto (tgt := 4) hx hb dX13_bits_21 (by decide) ?_
      exact ih v0_4 (v1_4 + ((v0_4 >>> (v2_4 &&& 31)) &&& 1)) (v2_4 + 1) _ _ _ _ hH (lv_sub hl [2, 1, 0] rfl) hf
set_option maxHeartbeats 4000000 in
set_option maxRecDepth 100000 in
theorem k_X13_bits (l : Launch) (E : Ev) (K : Kd) (z : Nat) (a_0 : Int32) (w : Wd) {r : Int32} {w' : Wd} (hf : f_X13_bits K a_0 w = some (r, w')) : Met l yX13_bits (Cond.code yX13_bits cX13_bits 3 (Option.some Jvm.ClassFile.FieldType.int) :: bt) ({ frames := 0, cells := 0, slots := 0, locals := 0 } : Room) (va_Pc [.int a_0] (HB E K w z)) (QI E K z w' r) 0 0 (hA E) := by
  refine Met.ofW (cc := cX13_bits) (maxL := 3) (ret := (Option.some Jvm.ClassFile.FieldType.int)) (by decide) rfl ?_
  intro p e s m args below meth c s₁ B hml hv
  obtain ⟨rfl, hz, hP, hKs, hT, hb0⟩ := hv
  have C : CX p l e s m _ meth c cX13_bits 3 RX13 (Option.some Jvm.ClassFile.FieldType.int) E := ⟨B.exec, B.bytes, hml, findClass_of_methodNamed B.named, fun w h => atoms_spec (ws := Cond.code yX13_bits cX13_bits 3 (Option.some Jvm.ClassFile.FieldType.int) :: bt) B.pre w (List.mem_cons_of_mem _ h), hKs, hT, by rw [hz]; exact hb0, B.notSynchronized, B.returns⟩
  have hH : HQ E K z w s s.heap [] := ⟨hP, va_S.rf, hz⟩
  obtain ⟨hx, hb, hml, hown, hts, hKs, hT, hb0, hlocks, hret⟩ := id C
  have hl := lv_entry [.int a_0] (n := 3) (by simp [lg_len_nil, lg_len_i, lg_len_j, lg_len_q, lg_len_f, lg_len_d, lg_len_r])
  rw [lg_entry_eq]
  generalize (lg_sl [.int a_0] ++ List.replicate (3 - (lg_sl [.int a_0]).length) Slot.unset).toArray = ls at hl ⊢
  replace hl : lv_has ls 3 [(0, .int a_0)] := by simpa only [lv_args, cat_q, cat_i, cat_j, reduceIte, Nat.reduceEqDiff, Nat.reduceAdd, Nat.zero_add] using hl
  generalize s.heap = H at hH ⊢
  unfold f_X13_bits at hf
  refine lv_iconst (v := 0) hx hb dX13_bits_0 (by decide) ?_
  refine lv_istore_n (i := 1) (lv' := [(1, .int 0), (0, .int a_0)]) hx hb dX13_bits_1 rfl hl (by decide) rfl (fun ls hl => ?_)
  refine lv_iconst (v := 0) hx hb dX13_bits_2 (by decide) ?_
  refine lv_istore_n (i := 2) (lv' := [(2, .int 0), (1, .int 0), (0, .int a_0)]) hx hb dX13_bits_3 rfl hl (by decide) rfl (fun ls hl => ?_)
  refine l_X13_bits_L4  C _ (fun v0_4 v1_4 v2_4 w1 H locs ls hH hl hf => ?_) fu a_0 0 0 w _ _ _ hH (lv_sub hl [2, 1, 0] rfl) hf
  refine lv_iload_n hx hb dX13_bits_24 rfl (lv_at hl 1 rfl) ?_
  exact hw_iret hx hb hret hf hH hlocks dX13_bits_25

theorem dX13_copies_0 : decode cX13_copies 0 = .ok (.iconst 0, 1) := by decide +kernel
theorem dX13_copies_1 : decode cX13_copies 1 = .ok (.istore_n 2, 1) := by decide +kernel
theorem dX13_copies_2 : decode cX13_copies 2 = .ok (.iload_n 2, 1) := by decide +kernel
theorem dX13_copies_3 : decode cX13_copies 3 = .ok (.sipush 370, 3) := by decide +kernel
theorem dX13_copies_6 : decode cX13_copies 6 = .ok (.if_icmp .ge 15, 3) := by decide +kernel
theorem dX13_copies_9 : decode cX13_copies 9 = .ok (.aload_n 1, 1) := by decide +kernel
theorem dX13_copies_10 : decode cX13_copies 10 = .ok (.iload_n 2, 1) := by decide +kernel
theorem dX13_copies_11 : decode cX13_copies 11 = .ok (.aload_n 0, 1) := by decide +kernel
theorem dX13_copies_12 : decode cX13_copies 12 = .ok (.iload_n 2, 1) := by decide +kernel
theorem dX13_copies_13 : decode cX13_copies 13 = .ok (.iaload, 1) := by decide +kernel
theorem dX13_copies_14 : decode cX13_copies 14 = .ok (.iastore, 1) := by decide +kernel
theorem dX13_copies_15 : decode cX13_copies 15 = .ok (.iinc 2 1, 3) := by decide +kernel
theorem dX13_copies_18 : decode cX13_copies 18 = .ok (.goto (-16), 3) := by decide +kernel
theorem dX13_copies_21 : decode cX13_copies 21 = .ok (.return_, 1) := by decide +kernel
theorem hs_X13_copies : yX13_copies.cls ≠ "java/lang/invoke/MethodHandle" ∧ yX13_copies.cls ≠ "java/lang/invoke/VarHandle" ∧ (parseMethodDescriptor yX13_copies.desc).map (fun d => d.parameters.length) = some 2 := by decide +kernel
set_option maxHeartbeats 4000000 in
set_option maxRecDepth 100000 in
theorem l_X13_copies_L2 (C : CX p l e s m args meth c cX13_copies 3 RX13 (Option.none : Option Jvm.ClassFile.FieldType) E) {w' : Wd} (k : Option Nat → Option Nat → Int32 → Wd → Option Wd) (hk : ∀ (v0_2 : Option Nat) (v1_2 : Option Nat) (v2_2 : Int32) (w : Wd) (H : Heap) (locs : List Loc) (ls : Array Slot), HQ E K z w s H locs → lv_has ls 3 [(0, rv E v0_2), (1, rv E v1_2), (2, .int v2_2)] → k v0_2 v1_2 v2_2 w = some w' → W p l e ({ frames := 0, cells := 0, slots := 0, locals := 0 } : Room) s m args below meth c H locs 0 0 (MQ below (QV E K z w') args s 0 0 (hA E)) (F0 m 21 ls [])) : ∀ (n : Nat) (v0_2 : Option Nat) (v1_2 : Option Nat) (v2_2 : Int32) (w : Wd) (H : Heap) (locs : List Loc) (ls : Array Slot), HQ E K z w s H locs → lv_has ls 3 [(0, rv E v0_2), (1, rv E v1_2), (2, .int v2_2)] → f_X13_copies_L2 K k n v0_2 v1_2 v2_2 w = some w' → W p l e ({ frames := 0, cells := 0, slots := 0, locals := 0 } : Room) s m args below meth c H locs 0 0 (MQ below (QV E K z w') args s 0 0 (hA E)) (F0 m 2 ls []) := by
  obtain ⟨hx, hb, hml, hown, hts, hKs, hT, hb0, hlocks, hret⟩ := id C
  intro n
  induction n with
  | zero =>
    intro v0_2 v1_2 v2_2 w H locs ls hH hl hf
    cases hf
  | succ n ih =>
    intro v0_2 v1_2 v2_2 w H locs ls hH hl hf
    rw [f_X13_copies_L2] at hf
    refine lv_iload_n hx hb dX13_copies_2 rfl (lv_at hl 2 rfl) ?_
    refine lv_sipush (v := 370) hx hb dX13_copies_3 (by decide) ?_
    refine lv_icmp_ge (tgt := 21) hx hb dX13_copies_6 (by decide) (fun c2 => ?_) (fun c2 => ?_)
    · replace hf := (if_pos c2).symm.trans hf
      exact hk v0_2 v1_2 v2_2 _ _ _ _ hH (lv_sub hl [0, 1, 2] rfl) hf
    · replace hf := (if_neg c2).symm.trans hf
      refine hl_aload_n hx hb dX13_copies_9 rfl (lv_at hl 1 rfl) ?_
      refine lv_iload_n hx hb dX13_copies_10 rfl (lv_at hl 2 rfl) ?_
      refine hl_aload_n hx hb dX13_copies_11 rfl (lv_at hl 0 rfl) ?_
      refine lv_iload_n hx hb dX13_copies_12 rfl (lv_at hl 2 rfl) ?_
      obtain ⟨a3, ha3, hf⟩ := bnd hf
      replace ha3 := cha_some ha3
      obtain ⟨j4, hj4, hf⟩ := bnd hf
      refine hw_iald hx hb hKs hH ha3.1 ha3.2 hj4 dX13_copies_13 ?_
      obtain ⟨a5, ha5, hf⟩ := bnd hf
      replace ha5 := cha_some ha5
      obtain ⟨j6, hj6, hf⟩ := bnd hf
      obtain ⟨w7, hw7, hf⟩ := bnd hf
      replace hw7 := Option.some.inj hw7
      refine hw_iast (x := (aI w a3.1 j4)) hx hb hKs hH ha5.1 ha5.2 hj6 dX13_copies_14 (fun H locs hH => ?_)
      rw [hw7] at hH
      refine lv_iinc (v := (v2_2 + 1)) (lv' := [(2, .int ((v2_2 + 1))), (0, rv E v0_2), (1, rv E v1_2)]) hx hb dX13_copies_15 hl (k := 2) rfl rfl (by decide) (by simp [List.filter_cons, cat_q, cat_i, cat_j, imax, imin]) (fun ls hl => ?_)
      refine lv_goto (tgt := 2) hx hb dX13_copies_18 (by decide) ?_
      exact ih v0_2 v1_2 (v2_2 + 1) _ _ _ _ hH (lv_sub hl [1, 2, 0] rfl) hf
set_option maxHeartbeats 4000000 in
set_option maxRecDepth 100000 in
theorem k_X13_copies (l : Launch) (E : Ev) (K : Kd) (z : Nat) (a_0 : Option Nat) (a_1 : Option Nat) (w : Wd) {w' : Wd} (hf : f_X13_copies K a_0 a_1 w = some w') : Met l yX13_copies (Cond.code yX13_copies cX13_copies 3 (Option.none : Option Jvm.ClassFile.FieldType) :: bt) ({ frames := 0, cells := 0, slots := 0, locals := 0 } : Room) (va_Pc [rv E a_0, rv E a_1] (HB E K w z)) (QV E K z w') 0 0 (hA E) := by
  refine Met.ofW (cc := cX13_copies) (maxL := 3) (ret := (Option.none : Option Jvm.ClassFile.FieldType)) (by decide) rfl ?_
  intro p e s m args below meth c s₁ B hml hv
  obtain ⟨rfl, hz, hP, hKs, hT, hb0⟩ := hv
  have C : CX p l e s m _ meth c cX13_copies 3 RX13 (Option.none : Option Jvm.ClassFile.FieldType) E := ⟨B.exec, B.bytes, hml, findClass_of_methodNamed B.named, fun w h => atoms_spec (ws := Cond.code yX13_copies cX13_copies 3 (Option.none : Option Jvm.ClassFile.FieldType) :: bt) B.pre w (List.mem_cons_of_mem _ h), hKs, hT, by rw [hz]; exact hb0, B.notSynchronized, B.returns⟩
  have hH : HQ E K z w s s.heap [] := ⟨hP, va_S.rf, hz⟩
  obtain ⟨hx, hb, hml, hown, hts, hKs, hT, hb0, hlocks, hret⟩ := id C
  have hl := lv_entry [rv E a_0, rv E a_1] (n := 3) (by simp [lg_len_nil, lg_len_i, lg_len_j, lg_len_q, lg_len_f, lg_len_d, lg_len_r])
  rw [lg_entry_eq]
  generalize (lg_sl [rv E a_0, rv E a_1] ++ List.replicate (3 - (lg_sl [rv E a_0, rv E a_1]).length) Slot.unset).toArray = ls at hl ⊢
  replace hl : lv_has ls 3 [(0, rv E a_0), (1, rv E a_1)] := by simpa only [lv_args, cat_q, cat_i, cat_j, reduceIte, Nat.reduceEqDiff, Nat.reduceAdd, Nat.zero_add] using hl
  generalize s.heap = H at hH ⊢
  unfold f_X13_copies at hf
  refine lv_iconst (v := 0) hx hb dX13_copies_0 (by decide) ?_
  refine lv_istore_n (i := 2) (lv' := [(2, .int 0), (0, rv E a_0), (1, rv E a_1)]) hx hb dX13_copies_1 rfl hl (by decide) (by simp [List.filter_cons, cat_q, cat_i, cat_j, imax, imin]) (fun ls hl => ?_)
  refine l_X13_copies_L2  C _ (fun v0_2 v1_2 v2_2 w1 H locs ls hH hl hf => ?_) fu a_0 a_1 0 w _ _ _ hH (lv_sub hl [1, 2, 0] rfl) hf
  exact hw_vret hx hb hret hf hH hlocks dX13_copies_21

theorem dX13_starts_0 : decode cX13_starts 0 = .ok (.aload_n 0, 1) := by decide +kernel
theorem dX13_starts_1 : decode cX13_starts 1 = .ok (.getfield 16, 3) := by decide +kernel
theorem dX13_starts_4 : decode cX13_starts 4 = .ok (.aload_n 0, 1) := by decide +kernel
theorem dX13_starts_5 : decode cX13_starts 5 = .ok (.getfield 22, 3) := by decide +kernel
theorem dX13_starts_8 : decode cX13_starts 8 = .ok (.invokestatic 93, 3) := by decide +kernel
theorem dX13_starts_11 : decode cX13_starts 11 = .ok (.return_, 1) := by decide +kernel
theorem hd_X13_starts : yX13_starts.cls = RX13 ∧ yX13_starts.cls ≠ "java/lang/invoke/MethodHandle" ∧ yX13_starts.cls ≠ "java/lang/invoke/VarHandle" ∧ (parseMethodDescriptor yX13_starts.desc).map (fun d => d.parameters.length) = some 0 := by decide +kernel
theorem hs_X13_starts : yX13_starts.cls ≠ "java/lang/invoke/MethodHandle" ∧ yX13_starts.cls ≠ "java/lang/invoke/VarHandle" ∧ (parseMethodDescriptor yX13_starts.desc).map (fun d => d.parameters.length) = some 0 := by decide +kernel
set_option maxHeartbeats 4000000 in
set_option maxRecDepth 100000 in
theorem k_X13_starts (l : Launch) (E : Ev) (K : Kd) (z : Nat) (o : Nat) (w : Wd) (ho : K o = some (11, 0)) {w' : Wd} (hf : f_X13_starts K o w = some w') : Met l yX13_starts (Cond.code yX13_starts cX13_starts 1 (Option.none : Option Jvm.ClassFile.FieldType) :: bt) ({ frames := 1, cells := 0, slots := 0, locals := 22 } : Room) (va_Pc [rv E (some o)] (HB E K w z)) (QV E K z w') 0 0 (hA E) := by
  refine Met.ofW (cc := cX13_starts) (maxL := 1) (ret := (Option.none : Option Jvm.ClassFile.FieldType)) (by decide) rfl ?_
  intro p e s m args below meth c s₁ B hml hv
  obtain ⟨rfl, hz, hP, hKs, hT, hb0⟩ := hv
  have C : CX p l e s m _ meth c cX13_starts 1 RX13 (Option.none : Option Jvm.ClassFile.FieldType) E := ⟨B.exec, B.bytes, hml, findClass_of_methodNamed B.named, fun w h => atoms_spec (ws := Cond.code yX13_starts cX13_starts 1 (Option.none : Option Jvm.ClassFile.FieldType) :: bt) B.pre w (List.mem_cons_of_mem _ h), hKs, hT, by rw [hz]; exact hb0, B.notSynchronized, B.returns⟩
  have hH : HQ E K z w s s.heap [] := ⟨hP, va_S.rf, hz⟩
  obtain ⟨hx, hb, hml, hown, hts, hKs, hT, hb0, hlocks, hret⟩ := id C
  have hl := lv_entry [rv E (some o)] (n := 1) (by simp [lg_len_nil, lg_len_i, lg_len_j, lg_len_q, lg_len_f, lg_len_d, lg_len_r])
  rw [lg_entry_eq]
  generalize (lg_sl [rv E (some o)] ++ List.replicate (1 - (lg_sl [rv E (some o)]).length) Slot.unset).toArray = ls at hl ⊢
  replace hl : lv_has ls 1 [(0, rv E (some o))] := by simpa only [lv_args, cat_q, cat_i, cat_j, reduceIte, Nat.reduceEqDiff, Nat.reduceAdd, Nat.zero_add] using hl
  generalize s.heap = H at hH ⊢
  unfold f_X13_starts at hf
  refine hl_aload_n hx hb dX13_starts_0 rfl (lv_at hl 0 rfl) ?_
  refine g13_3 hx hb hts hown hKs hH rfl ho m6_184 dX13_starts_1 ?_
  refine hl_aload_n hx hb dX13_starts_4 rfl (lv_at hl 0 rfl) ?_
  refine g13_5 hx hb hts hown hKs hH rfl ho m6_186 dX13_starts_5 ?_
  obtain ⟨q1, hq1, hf⟩ := bnd hf
  refine hcS_v hx hb hml hown hts hKs hT hb0 hH (As := [rv E (wR w 1303 o), rv E (wR w 1305 o)]) (rest := []) (k_X13_copies l E K H.size (wR w 1303 o) (wR w 1305 o) w hq1) (gS m6_178 m6_179 m1_16 m6_180) hs_X13_copies ⟨Nat.le_of_ble_eq_true rfl, Nat.le_of_ble_eq_true rfl, rfl, rfl⟩ hl.1 rfl rc0 rfl dX13_starts_8 ⟨Nat.zero_le _, Nat.zero_le _⟩ (fun H locs hH => ?_)
  exact hw_vret hx hb hret hf hH hlocks dX13_starts_11

theorem dX13_keeps_0 : decode cX13_keeps 0 = .ok (.aload_n 0, 1) := by decide +kernel
theorem dX13_keeps_1 : decode cX13_keeps 1 = .ok (.getfield 97, 3) := by decide +kernel
theorem dX13_keeps_4 : decode cX13_keeps 4 = .ok (.bipush 8, 2) := by decide +kernel
theorem dX13_keeps_6 : decode cX13_keeps 6 = .ok (.if_icmp .ne 44, 3) := by decide +kernel
theorem dX13_keeps_9 : decode cX13_keeps 9 = .ok (.iconst 0, 1) := by decide +kernel
theorem dX13_keeps_10 : decode cX13_keeps 10 = .ok (.istore_n 1, 1) := by decide +kernel
theorem dX13_keeps_11 : decode cX13_keeps 11 = .ok (.iload_n 1, 1) := by decide +kernel
theorem dX13_keeps_12 : decode cX13_keeps 12 = .ok (.sipush 2590, 3) := by decide +kernel
theorem dX13_keeps_15 : decode cX13_keeps 15 = .ok (.if_icmp .ge 25, 3) := by decide +kernel
theorem dX13_keeps_18 : decode cX13_keeps 18 = .ok (.aload_n 0, 1) := by decide +kernel
theorem dX13_keeps_19 : decode cX13_keeps 19 = .ok (.getfield 31, 3) := by decide +kernel
theorem dX13_keeps_22 : decode cX13_keeps 22 = .ok (.iload_n 1, 1) := by decide +kernel
theorem dX13_keeps_23 : decode cX13_keeps 23 = .ok (.aload_n 0, 1) := by decide +kernel
theorem dX13_keeps_24 : decode cX13_keeps 24 = .ok (.getfield 31, 3) := by decide +kernel
theorem dX13_keeps_27 : decode cX13_keeps 27 = .ok (.iload_n 1, 1) := by decide +kernel
theorem dX13_keeps_28 : decode cX13_keeps 28 = .ok (.sipush 370, 3) := by decide +kernel
theorem dX13_keeps_31 : decode cX13_keeps 31 = .ok (.iadd, 1) := by decide +kernel
theorem dX13_keeps_32 : decode cX13_keeps 32 = .ok (.iaload, 1) := by decide +kernel
theorem dX13_keeps_33 : decode cX13_keeps 33 = .ok (.iastore, 1) := by decide +kernel
theorem dX13_keeps_34 : decode cX13_keeps 34 = .ok (.iinc 1 1, 3) := by decide +kernel
theorem dX13_keeps_37 : decode cX13_keeps 37 = .ok (.goto (-26), 3) := by decide +kernel
theorem dX13_keeps_40 : decode cX13_keeps 40 = .ok (.aload_n 0, 1) := by decide +kernel
theorem dX13_keeps_41 : decode cX13_keeps 41 = .ok (.aload_n 0, 1) := by decide +kernel
theorem dX13_keeps_42 : decode cX13_keeps 42 = .ok (.getfield 97, 3) := by decide +kernel
theorem dX13_keeps_45 : decode cX13_keeps 45 = .ok (.iconst 1, 1) := by decide +kernel
theorem dX13_keeps_46 : decode cX13_keeps 46 = .ok (.isub, 1) := by decide +kernel
theorem dX13_keeps_47 : decode cX13_keeps 47 = .ok (.putfield 97, 3) := by decide +kernel
theorem dX13_keeps_50 : decode cX13_keeps 50 = .ok (.iconst 0, 1) := by decide +kernel
theorem dX13_keeps_51 : decode cX13_keeps 51 = .ok (.istore_n 1, 1) := by decide +kernel
theorem dX13_keeps_52 : decode cX13_keeps 52 = .ok (.iload_n 1, 1) := by decide +kernel
theorem dX13_keeps_53 : decode cX13_keeps 53 = .ok (.sipush 370, 3) := by decide +kernel
theorem dX13_keeps_56 : decode cX13_keeps 56 = .ok (.if_icmp .ge 30, 3) := by decide +kernel
theorem dX13_keeps_59 : decode cX13_keeps 59 = .ok (.aload_n 0, 1) := by decide +kernel
theorem dX13_keeps_60 : decode cX13_keeps 60 = .ok (.getfield 31, 3) := by decide +kernel
theorem dX13_keeps_63 : decode cX13_keeps 63 = .ok (.sipush 370, 3) := by decide +kernel
theorem dX13_keeps_66 : decode cX13_keeps 66 = .ok (.aload_n 0, 1) := by decide +kernel
theorem dX13_keeps_67 : decode cX13_keeps 67 = .ok (.getfield 97, 3) := by decide +kernel
theorem dX13_keeps_70 : decode cX13_keeps 70 = .ok (.imul, 1) := by decide +kernel
theorem dX13_keeps_71 : decode cX13_keeps 71 = .ok (.iload_n 1, 1) := by decide +kernel
theorem dX13_keeps_72 : decode cX13_keeps 72 = .ok (.iadd, 1) := by decide +kernel
theorem dX13_keeps_73 : decode cX13_keeps 73 = .ok (.aload_n 0, 1) := by decide +kernel
theorem dX13_keeps_74 : decode cX13_keeps 74 = .ok (.getfield 22, 3) := by decide +kernel
theorem dX13_keeps_77 : decode cX13_keeps 77 = .ok (.iload_n 1, 1) := by decide +kernel
theorem dX13_keeps_78 : decode cX13_keeps 78 = .ok (.iaload, 1) := by decide +kernel
theorem dX13_keeps_79 : decode cX13_keeps 79 = .ok (.iastore, 1) := by decide +kernel
theorem dX13_keeps_80 : decode cX13_keeps 80 = .ok (.iinc 1 1, 3) := by decide +kernel
theorem dX13_keeps_83 : decode cX13_keeps 83 = .ok (.goto (-31), 3) := by decide +kernel
theorem dX13_keeps_86 : decode cX13_keeps 86 = .ok (.aload_n 0, 1) := by decide +kernel
theorem dX13_keeps_87 : decode cX13_keeps 87 = .ok (.aload_n 0, 1) := by decide +kernel
theorem dX13_keeps_88 : decode cX13_keeps 88 = .ok (.getfield 97, 3) := by decide +kernel
theorem dX13_keeps_91 : decode cX13_keeps 91 = .ok (.iconst 1, 1) := by decide +kernel
theorem dX13_keeps_92 : decode cX13_keeps 92 = .ok (.iadd, 1) := by decide +kernel
theorem dX13_keeps_93 : decode cX13_keeps 93 = .ok (.putfield 97, 3) := by decide +kernel
theorem dX13_keeps_96 : decode cX13_keeps 96 = .ok (.return_, 1) := by decide +kernel
theorem hd_X13_keeps : yX13_keeps.cls = RX13 ∧ yX13_keeps.cls ≠ "java/lang/invoke/MethodHandle" ∧ yX13_keeps.cls ≠ "java/lang/invoke/VarHandle" ∧ (parseMethodDescriptor yX13_keeps.desc).map (fun d => d.parameters.length) = some 0 := by decide +kernel
theorem hs_X13_keeps : yX13_keeps.cls ≠ "java/lang/invoke/MethodHandle" ∧ yX13_keeps.cls ≠ "java/lang/invoke/VarHandle" ∧ (parseMethodDescriptor yX13_keeps.desc).map (fun d => d.parameters.length) = some 0 := by decide +kernel
set_option maxHeartbeats 4000000 in
set_option maxRecDepth 100000 in
theorem l_X13_keeps_L52 (C : CX p l e s m args meth c cX13_keeps 2 RX13 (Option.none : Option Jvm.ClassFile.FieldType) E) {o : Nat} (ho : K o = some (11, 0)) {w' : Wd} (k : Int32 → Wd → Option Wd) (hk : ∀ (v1_52 : Int32) (w : Wd) (H : Heap) (locs : List Loc) (ls : Array Slot), HQ E K z w s H locs → lv_has ls 2 [(1, .int v1_52), (0, rv E (some o))] → k v1_52 w = some w' → W p l e ({ frames := 0, cells := 0, slots := 0, locals := 0 } : Room) s m args below meth c H locs 0 0 (MQ below (QV E K z w') args s 0 0 (hA E)) (F0 m 86 ls [])) : ∀ (n : Nat) (v1_52 : Int32) (w : Wd) (H : Heap) (locs : List Loc) (ls : Array Slot), HQ E K z w s H locs → lv_has ls 2 [(1, .int v1_52), (0, rv E (some o))] → f_X13_keeps_L52 K o k n v1_52 w = some w' → W p l e ({ frames := 0, cells := 0, slots := 0, locals := 0 } : Room) s m args below meth c H locs 0 0 (MQ below (QV E K z w') args s 0 0 (hA E)) (F0 m 52 ls []) := by
  obtain ⟨hx, hb, hml, hown, hts, hKs, hT, hb0, hlocks, hret⟩ := id C
  intro n
  induction n with
  | zero =>
    intro v1_52 w H locs ls hH hl hf
    cases hf
  | succ n ih =>
    intro v1_52 w H locs ls hH hl hf
    rw [f_X13_keeps_L52] at hf
    refine lv_iload_n hx hb dX13_keeps_52 rfl (lv_at hl 0 rfl) ?_
    refine lv_sipush (v := 370) hx hb dX13_keeps_53 (by decide) ?_
    refine lv_icmp_ge (tgt := 86) hx hb dX13_keeps_56 (by decide) (fun c3 => ?_) (fun c3 => ?_)
    · replace hf := (if_pos c3).symm.trans hf
      exact hk v1_52 _ _ _ _ hH (lv_sub hl [0, 1] rfl) hf
    · replace hf := (if_neg c3).symm.trans hf
      refine hl_aload_n hx hb dX13_keeps_59 rfl (lv_at hl 1 rfl) ?_
      refine g13_8 hx hb hts hown hKs hH rfl ho m6_189 dX13_keeps_60 ?_
      refine lv_sipush (v := 370) hx hb dX13_keeps_63 (by decide) ?_
      refine hl_aload_n hx hb dX13_keeps_66 rfl (lv_at hl 1 rfl) ?_
      refine g13_9 hx hb hts hown hKs hH rfl ho m6_190 dX13_keeps_67 ?_
      refine lv_imul hx hb dX13_keeps_70 ?_
      refine lv_iload_n hx hb dX13_keeps_71 rfl (lv_at hl 0 rfl) ?_
      refine lv_iadd hx hb dX13_keeps_72 ?_
      refine hl_aload_n hx hb dX13_keeps_73 rfl (lv_at hl 1 rfl) ?_
      refine g13_5 hx hb hts hown hKs hH rfl ho m6_186 dX13_keeps_74 ?_
      refine lv_iload_n hx hb dX13_keeps_77 rfl (lv_at hl 0 rfl) ?_
      obtain ⟨a4, ha4, hf⟩ := bnd hf
      replace ha4 := cha_some ha4
      obtain ⟨j5, hj5, hf⟩ := bnd hf
      refine hw_iald hx hb hKs hH ha4.1 ha4.2 hj5 dX13_keeps_78 ?_
      obtain ⟨a6, ha6, hf⟩ := bnd hf
      replace ha6 := cha_some ha6
      obtain ⟨j7, hj7, hf⟩ := bnd hf
      obtain ⟨w8, hw8, hf⟩ := bnd hf
      replace hw8 := Option.some.inj hw8
      refine hw_iast (x := (aI w a4.1 j5)) hx hb hKs hH ha6.1 ha6.2 hj7 dX13_keeps_79 (fun H locs hH => ?_)
      rw [hw8] at hH
      refine lv_iinc (v := (v1_52 + 1)) (lv' := [(1, .int ((v1_52 + 1))), (0, rv E (some o))]) hx hb dX13_keeps_80 hl (k := 0) rfl rfl (by decide) rfl (fun ls hl => ?_)
      refine lv_goto (tgt := 52) hx hb dX13_keeps_83 (by decide) ?_
      exact ih (v1_52 + 1) _ _ _ _ hH (lv_sub hl [0, 1] rfl) hf
set_option maxHeartbeats 4000000 in
set_option maxRecDepth 100000 in
theorem l_X13_keeps_L11 (C : CX p l e s m args meth c cX13_keeps 2 RX13 (Option.none : Option Jvm.ClassFile.FieldType) E) {o : Nat} (ho : K o = some (11, 0)) {w' : Wd} (k : Int32 → Wd → Option Wd) (hk : ∀ (v1_11 : Int32) (w : Wd) (H : Heap) (locs : List Loc) (ls : Array Slot), HQ E K z w s H locs → lv_has ls 2 [(1, .int v1_11), (0, rv E (some o))] → k v1_11 w = some w' → W p l e ({ frames := 0, cells := 0, slots := 0, locals := 0 } : Room) s m args below meth c H locs 0 0 (MQ below (QV E K z w') args s 0 0 (hA E)) (F0 m 40 ls [])) : ∀ (n : Nat) (v1_11 : Int32) (w : Wd) (H : Heap) (locs : List Loc) (ls : Array Slot), HQ E K z w s H locs → lv_has ls 2 [(1, .int v1_11), (0, rv E (some o))] → f_X13_keeps_L11 K o k n v1_11 w = some w' → W p l e ({ frames := 0, cells := 0, slots := 0, locals := 0 } : Room) s m args below meth c H locs 0 0 (MQ below (QV E K z w') args s 0 0 (hA E)) (F0 m 11 ls []) := by
  obtain ⟨hx, hb, hml, hown, hts, hKs, hT, hb0, hlocks, hret⟩ := id C
  intro n
  induction n with
  | zero =>
    intro v1_11 w H locs ls hH hl hf
    cases hf
  | succ n ih =>
    intro v1_11 w H locs ls hH hl hf
    rw [f_X13_keeps_L11] at hf
    refine lv_iload_n hx hb dX13_keeps_11 rfl (lv_at hl 0 rfl) ?_
    refine lv_sipush (v := 2590) hx hb dX13_keeps_12 (by decide) ?_
    refine lv_icmp_ge (tgt := 40) hx hb dX13_keeps_15 (by decide) (fun c11 => ?_) (fun c11 => ?_)
    · replace hf := (if_pos c11).symm.trans hf
      exact hk v1_11 _ _ _ _ hH (lv_sub hl [0, 1] rfl) hf
    · replace hf := (if_neg c11).symm.trans hf
      refine hl_aload_n hx hb dX13_keeps_18 rfl (lv_at hl 1 rfl) ?_
      refine g13_8 hx hb hts hown hKs hH rfl ho m6_189 dX13_keeps_19 ?_
      refine lv_iload_n hx hb dX13_keeps_22 rfl (lv_at hl 0 rfl) ?_
      refine hl_aload_n hx hb dX13_keeps_23 rfl (lv_at hl 1 rfl) ?_
      refine g13_8 hx hb hts hown hKs hH rfl ho m6_189 dX13_keeps_24 ?_
      refine lv_iload_n hx hb dX13_keeps_27 rfl (lv_at hl 0 rfl) ?_
      refine lv_sipush (v := 370) hx hb dX13_keeps_28 (by decide) ?_
      refine lv_iadd hx hb dX13_keeps_31 ?_
      obtain ⟨a12, ha12, hf⟩ := bnd hf
      replace ha12 := cha_some ha12
      obtain ⟨j13, hj13, hf⟩ := bnd hf
      refine hw_iald hx hb hKs hH ha12.1 ha12.2 hj13 dX13_keeps_32 ?_
      obtain ⟨j14, hj14, hf⟩ := bnd hf
      obtain ⟨w15, hw15, hf⟩ := bnd hf
      replace hw15 := Option.some.inj hw15
      refine hw_iast (x := (aI w a12.1 j13)) hx hb hKs hH ha12.1 ha12.2 hj14 dX13_keeps_33 (fun H locs hH => ?_)
      rw [hw15] at hH
      refine lv_iinc (v := (v1_11 + 1)) (lv' := [(1, .int ((v1_11 + 1))), (0, rv E (some o))]) hx hb dX13_keeps_34 hl (k := 0) rfl rfl (by decide) rfl (fun ls hl => ?_)
      refine lv_goto (tgt := 11) hx hb dX13_keeps_37 (by decide) ?_
      exact ih (v1_11 + 1) _ _ _ _ hH (lv_sub hl [0, 1] rfl) hf
set_option maxHeartbeats 4000000 in
set_option maxRecDepth 100000 in
theorem k_X13_keeps (l : Launch) (E : Ev) (K : Kd) (z : Nat) (o : Nat) (w : Wd) (ho : K o = some (11, 0)) {w' : Wd} (hf : f_X13_keeps K o w = some w') : Met l yX13_keeps (Cond.code yX13_keeps cX13_keeps 2 (Option.none : Option Jvm.ClassFile.FieldType) :: bt) ({ frames := 0, cells := 0, slots := 0, locals := 0 } : Room) (va_Pc [rv E (some o)] (HB E K w z)) (QV E K z w') 0 0 (hA E) := by
  refine Met.ofW (cc := cX13_keeps) (maxL := 2) (ret := (Option.none : Option Jvm.ClassFile.FieldType)) (by decide) rfl ?_
  intro p e s m args below meth c s₁ B hml hv
  obtain ⟨rfl, hz, hP, hKs, hT, hb0⟩ := hv
  have C : CX p l e s m _ meth c cX13_keeps 2 RX13 (Option.none : Option Jvm.ClassFile.FieldType) E := ⟨B.exec, B.bytes, hml, findClass_of_methodNamed B.named, fun w h => atoms_spec (ws := Cond.code yX13_keeps cX13_keeps 2 (Option.none : Option Jvm.ClassFile.FieldType) :: bt) B.pre w (List.mem_cons_of_mem _ h), hKs, hT, by rw [hz]; exact hb0, B.notSynchronized, B.returns⟩
  have hH : HQ E K z w s s.heap [] := ⟨hP, va_S.rf, hz⟩
  obtain ⟨hx, hb, hml, hown, hts, hKs, hT, hb0, hlocks, hret⟩ := id C
  have hl := lv_entry [rv E (some o)] (n := 2) (by simp [lg_len_nil, lg_len_i, lg_len_j, lg_len_q, lg_len_f, lg_len_d, lg_len_r])
  rw [lg_entry_eq]
  generalize (lg_sl [rv E (some o)] ++ List.replicate (2 - (lg_sl [rv E (some o)]).length) Slot.unset).toArray = ls at hl ⊢
  replace hl : lv_has ls 2 [(0, rv E (some o))] := by simpa only [lv_args, cat_q, cat_i, cat_j, reduceIte, Nat.reduceEqDiff, Nat.reduceAdd, Nat.zero_add] using hl
  generalize s.heap = H at hH ⊢
  unfold f_X13_keeps at hf
  refine hl_aload_n hx hb dX13_keeps_0 rfl (lv_at hl 0 rfl) ?_
  refine g13_9 hx hb hts hown hKs hH rfl ho m6_190 dX13_keeps_1 ?_
  refine lv_bipush (v := 8) hx hb dX13_keeps_4 (by decide) ?_
  refine lv_icmp_ne (tgt := 50) hx hb dX13_keeps_6 (by decide) (fun c1 => ?_) (fun c1 => ?_)
  · replace hf := (if_neg c1).symm.trans hf
    refine lv_iconst (v := 0) hx hb dX13_keeps_50 (by decide) ?_
    refine lv_istore_n (i := 1) (lv' := [(1, .int 0), (0, rv E (some o))]) hx hb dX13_keeps_51 rfl hl (by decide) rfl (fun ls hl => ?_)
    refine l_X13_keeps_L52  C ho _ (fun v1_52 w2 H locs ls hH hl hf => ?_) fu 0 w _ _ _ hH (lv_sub hl [0, 1] rfl) hf
    refine hl_aload_n hx hb dX13_keeps_86 rfl (lv_at hl 1 rfl) ?_
    refine hl_aload_n hx hb dX13_keeps_87 rfl (lv_at hl 1 rfl) ?_
    refine g13_9 hx hb hts hown hKs hH rfl ho m6_190 dX13_keeps_88 ?_
    refine lv_iconst (v := 1) hx hb dX13_keeps_91 (by decide) ?_
    refine lv_iadd hx hb dX13_keeps_92 ?_
    obtain ⟨w9, hw9, hf⟩ := bnd hf
    replace hw9 := Option.some.inj hw9
    refine p13_9 (v := ((wI w2 1309 o) + 1)) hx hb hts hown hKs hH rfl ho m6_190 dX13_keeps_93 (fun H locs hH => ?_)
    rw [hw9] at hH
    exact hw_vret hx hb hret hf hH hlocks dX13_keeps_96
  · replace hf := (if_pos c1).symm.trans hf
    refine lv_iconst (v := 0) hx hb dX13_keeps_9 (by decide) ?_
    refine lv_istore_n (i := 1) (lv' := [(1, .int 0), (0, rv E (some o))]) hx hb dX13_keeps_10 rfl hl (by decide) rfl (fun ls hl => ?_)
    refine l_X13_keeps_L11  C ho _ (fun v1_11 w10 H locs ls hH hl hf => ?_) fu 0 w _ _ _ hH (lv_sub hl [0, 1] rfl) hf
    refine hl_aload_n hx hb dX13_keeps_40 rfl (lv_at hl 1 rfl) ?_
    refine hl_aload_n hx hb dX13_keeps_41 rfl (lv_at hl 1 rfl) ?_
    refine g13_9 hx hb hts hown hKs hH rfl ho m6_190 dX13_keeps_42 ?_
    refine lv_iconst (v := 1) hx hb dX13_keeps_45 (by decide) ?_
    refine lv_isub hx hb dX13_keeps_46 ?_
    obtain ⟨w16, hw16, hf⟩ := bnd hf
    replace hw16 := Option.some.inj hw16
    refine p13_9 (v := ((wI w10 1309 o) - 1)) hx hb hts hown hKs hH rfl ho m6_190 dX13_keeps_47 (fun H locs hH => ?_)
    rw [hw16] at hH
    refine lv_iconst (v := 0) hx hb dX13_keeps_50 (by decide) ?_
    refine lv_istore_n (i := 1) (lv' := [(1, .int 0), (0, rv E (some o))]) hx hb dX13_keeps_51 rfl hl (by decide) rfl (fun ls hl => ?_)
    refine l_X13_keeps_L52  C ho _ (fun v1_52 w17 H locs ls hH hl hf => ?_) fu 0 w16 _ _ _ hH (lv_sub hl [0, 1] rfl) hf
    refine hl_aload_n hx hb dX13_keeps_86 rfl (lv_at hl 1 rfl) ?_
    refine hl_aload_n hx hb dX13_keeps_87 rfl (lv_at hl 1 rfl) ?_
    refine g13_9 hx hb hts hown hKs hH rfl ho m6_190 dX13_keeps_88 ?_
    refine lv_iconst (v := 1) hx hb dX13_keeps_91 (by decide) ?_
    refine lv_iadd hx hb dX13_keeps_92 ?_
    obtain ⟨w18, hw18, hf⟩ := bnd hf
    replace hw18 := Option.some.inj hw18
    refine p13_9 (v := ((wI w17 1309 o) + 1)) hx hb hts hown hKs hH rfl ho m6_190 dX13_keeps_93 (fun H locs hH => ?_)
    rw [hw18] at hH
    exact hw_vret hx hb hret hf hH hlocks dX13_keeps_96

theorem dX13_done_0 : decode cX13_done 0 = .ok (.aload_n 0, 1) := by decide +kernel
theorem dX13_done_1 : decode cX13_done 1 = .ok (.invokevirtual 107, 3) := by decide +kernel
theorem dX13_done_4 : decode cX13_done 4 = .ok (.iload_n 1, 1) := by decide +kernel
theorem dX13_done_5 : decode cX13_done 5 = .ok (.ireturn, 1) := by decide +kernel
theorem hd_X13_done : yX13_done.cls = RX13 ∧ yX13_done.cls ≠ "java/lang/invoke/MethodHandle" ∧ yX13_done.cls ≠ "java/lang/invoke/VarHandle" ∧ (parseMethodDescriptor yX13_done.desc).map (fun d => d.parameters.length) = some 1 := by decide +kernel
theorem hs_X13_done : yX13_done.cls ≠ "java/lang/invoke/MethodHandle" ∧ yX13_done.cls ≠ "java/lang/invoke/VarHandle" ∧ (parseMethodDescriptor yX13_done.desc).map (fun d => d.parameters.length) = some 1 := by decide +kernel
set_option maxHeartbeats 4000000 in
set_option maxRecDepth 100000 in
theorem k_X13_done (l : Launch) (E : Ev) (K : Kd) (z : Nat) (o : Nat) (a_1 : Int32) (w : Wd) (ho : K o = some (11, 0)) {r : Int32} {w' : Wd} (hf : f_X13_done K o a_1 w = some (r, w')) : Met l yX13_done (Cond.code yX13_done cX13_done 2 (Option.some Jvm.ClassFile.FieldType.int) :: bt) ({ frames := 1, cells := 0, slots := 0, locals := 21 } : Room) (va_Pc [rv E (some o), .int a_1] (HB E K w z)) (QI E K z w' r) 0 0 (hA E) := by
  refine Met.ofW (cc := cX13_done) (maxL := 2) (ret := (Option.some Jvm.ClassFile.FieldType.int)) (by decide) rfl ?_
  intro p e s m args below meth c s₁ B hml hv
  obtain ⟨rfl, hz, hP, hKs, hT, hb0⟩ := hv
  have C : CX p l e s m _ meth c cX13_done 2 RX13 (Option.some Jvm.ClassFile.FieldType.int) E := ⟨B.exec, B.bytes, hml, findClass_of_methodNamed B.named, fun w h => atoms_spec (ws := Cond.code yX13_done cX13_done 2 (Option.some Jvm.ClassFile.FieldType.int) :: bt) B.pre w (List.mem_cons_of_mem _ h), hKs, hT, by rw [hz]; exact hb0, B.notSynchronized, B.returns⟩
  have hH : HQ E K z w s s.heap [] := ⟨hP, va_S.rf, hz⟩
  obtain ⟨hx, hb, hml, hown, hts, hKs, hT, hb0, hlocks, hret⟩ := id C
  have hl := lv_entry [rv E (some o), .int a_1] (n := 2) (by simp [lg_len_nil, lg_len_i, lg_len_j, lg_len_q, lg_len_f, lg_len_d, lg_len_r])
  rw [lg_entry_eq]
  generalize (lg_sl [rv E (some o), .int a_1] ++ List.replicate (2 - (lg_sl [rv E (some o), .int a_1]).length) Slot.unset).toArray = ls at hl ⊢
  replace hl : lv_has ls 2 [(0, rv E (some o)), (1, .int a_1)] := by simpa only [lv_args, cat_q, cat_i, cat_j, reduceIte, Nat.reduceEqDiff, Nat.reduceAdd, Nat.zero_add] using hl
  generalize s.heap = H at hH ⊢
  unfold f_X13_done at hf
  refine hl_aload_n hx hb dX13_done_0 rfl (lv_at hl 0 rfl) ?_
  obtain ⟨q1, hq1, hf⟩ := bnd hf
  refine hcV_v hx hb hml hown hts hKs hT hb0 hH (As := []) (rest := []) (k_X13_keeps l E K H.size o w ho hq1) (gV m8_54 m8_56 ms_84 m1_16 m8_57) hd_X13_keeps ⟨Nat.le_of_ble_eq_true rfl, Nat.le_of_ble_eq_true rfl, rfl, rfl⟩ rfl ho rfl rfl rfl hl.1 rfl rc0 rfl dX13_done_1 ⟨Nat.zero_le _, Nat.zero_le _⟩ (fun H locs hH => ?_)
  refine lv_iload_n hx hb dX13_done_4 rfl (lv_at hl 1 rfl) ?_
  exact hw_iret hx hb hret hf hH hlocks dX13_done_5

theorem dX13_undo_0 : decode cX13_undo 0 = .ok (.aload_n 0, 1) := by decide +kernel
theorem dX13_undo_1 : decode cX13_undo 1 = .ok (.aload_n 0, 1) := by decide +kernel
theorem dX13_undo_2 : decode cX13_undo 2 = .ok (.getfield 97, 3) := by decide +kernel
theorem dX13_undo_5 : decode cX13_undo 5 = .ok (.ifCond .le 7, 3) := by decide +kernel
theorem dX13_undo_8 : decode cX13_undo 8 = .ok (.iconst 1, 1) := by decide +kernel
theorem dX13_undo_9 : decode cX13_undo 9 = .ok (.goto 4, 3) := by decide +kernel
theorem dX13_undo_12 : decode cX13_undo 12 = .ok (.iconst 0, 1) := by decide +kernel
theorem dX13_undo_13 : decode cX13_undo 13 = .ok (.invokevirtual 110, 3) := by decide +kernel
theorem dX13_undo_16 : decode cX13_undo 16 = .ok (.ifCond .ne 5, 3) := by decide +kernel
theorem dX13_undo_19 : decode cX13_undo 19 = .ok (.iconst 0, 1) := by decide +kernel
theorem dX13_undo_20 : decode cX13_undo 20 = .ok (.ireturn, 1) := by decide +kernel
theorem dX13_undo_21 : decode cX13_undo 21 = .ok (.aload_n 0, 1) := by decide +kernel
theorem dX13_undo_22 : decode cX13_undo 22 = .ok (.aload_n 0, 1) := by decide +kernel
theorem dX13_undo_23 : decode cX13_undo 23 = .ok (.getfield 97, 3) := by decide +kernel
theorem dX13_undo_26 : decode cX13_undo 26 = .ok (.iconst 1, 1) := by decide +kernel
theorem dX13_undo_27 : decode cX13_undo 27 = .ok (.isub, 1) := by decide +kernel
theorem dX13_undo_28 : decode cX13_undo 28 = .ok (.putfield 97, 3) := by decide +kernel
theorem dX13_undo_31 : decode cX13_undo 31 = .ok (.iconst 0, 1) := by decide +kernel
theorem dX13_undo_32 : decode cX13_undo 32 = .ok (.istore_n 1, 1) := by decide +kernel
theorem dX13_undo_33 : decode cX13_undo 33 = .ok (.iload_n 1, 1) := by decide +kernel
theorem dX13_undo_34 : decode cX13_undo 34 = .ok (.sipush 370, 3) := by decide +kernel
theorem dX13_undo_37 : decode cX13_undo 37 = .ok (.if_icmp .ge 30, 3) := by decide +kernel
theorem dX13_undo_40 : decode cX13_undo 40 = .ok (.aload_n 0, 1) := by decide +kernel
theorem dX13_undo_41 : decode cX13_undo 41 = .ok (.getfield 16, 3) := by decide +kernel
theorem dX13_undo_44 : decode cX13_undo 44 = .ok (.iload_n 1, 1) := by decide +kernel
theorem dX13_undo_45 : decode cX13_undo 45 = .ok (.aload_n 0, 1) := by decide +kernel
theorem dX13_undo_46 : decode cX13_undo 46 = .ok (.getfield 31, 3) := by decide +kernel
theorem dX13_undo_49 : decode cX13_undo 49 = .ok (.sipush 370, 3) := by decide +kernel
theorem dX13_undo_52 : decode cX13_undo 52 = .ok (.aload_n 0, 1) := by decide +kernel
theorem dX13_undo_53 : decode cX13_undo 53 = .ok (.getfield 97, 3) := by decide +kernel
theorem dX13_undo_56 : decode cX13_undo 56 = .ok (.imul, 1) := by decide +kernel
theorem dX13_undo_57 : decode cX13_undo 57 = .ok (.iload_n 1, 1) := by decide +kernel
theorem dX13_undo_58 : decode cX13_undo 58 = .ok (.iadd, 1) := by decide +kernel
theorem dX13_undo_59 : decode cX13_undo 59 = .ok (.iaload, 1) := by decide +kernel
theorem dX13_undo_60 : decode cX13_undo 60 = .ok (.iastore, 1) := by decide +kernel
theorem dX13_undo_61 : decode cX13_undo 61 = .ok (.iinc 1 1, 3) := by decide +kernel
theorem dX13_undo_64 : decode cX13_undo 64 = .ok (.goto (-31), 3) := by decide +kernel
theorem dX13_undo_67 : decode cX13_undo 67 = .ok (.aload_n 0, 1) := by decide +kernel
theorem dX13_undo_68 : decode cX13_undo 68 = .ok (.getfield 97, 3) := by decide +kernel
theorem dX13_undo_71 : decode cX13_undo 71 = .ok (.ireturn, 1) := by decide +kernel
theorem hd_X13_undo : yX13_undo.cls = RX13 ∧ yX13_undo.cls ≠ "java/lang/invoke/MethodHandle" ∧ yX13_undo.cls ≠ "java/lang/invoke/VarHandle" ∧ (parseMethodDescriptor yX13_undo.desc).map (fun d => d.parameters.length) = some 0 := by decide +kernel
theorem hs_X13_undo : yX13_undo.cls ≠ "java/lang/invoke/MethodHandle" ∧ yX13_undo.cls ≠ "java/lang/invoke/VarHandle" ∧ (parseMethodDescriptor yX13_undo.desc).map (fun d => d.parameters.length) = some 0 := by decide +kernel
set_option maxHeartbeats 4000000 in
set_option maxRecDepth 100000 in
theorem l_X13_undo_L33 (C : CX p l e s m args meth c cX13_undo 2 RX13 (Option.some Jvm.ClassFile.FieldType.int) E) {o : Nat} (ho : K o = some (11, 0)) {r : Int32} {w' : Wd} (k : Int32 → Wd → Option (Int32 × Wd)) (hk : ∀ (v1_33 : Int32) (w : Wd) (H : Heap) (locs : List Loc) (ls : Array Slot), HQ E K z w s H locs → lv_has ls 2 [(1, .int v1_33), (0, rv E (some o))] → k v1_33 w = some (r, w') → W p l e ({ frames := 1, cells := 0, slots := 0, locals := 21 } : Room) s m args below meth c H locs 0 0 (MQ below (QI E K z w' r) args s 0 0 (hA E)) (F0 m 67 ls [])) : ∀ (n : Nat) (v1_33 : Int32) (w : Wd) (H : Heap) (locs : List Loc) (ls : Array Slot), HQ E K z w s H locs → lv_has ls 2 [(1, .int v1_33), (0, rv E (some o))] → f_X13_undo_L33 K o k n v1_33 w = some (r, w') → W p l e ({ frames := 1, cells := 0, slots := 0, locals := 21 } : Room) s m args below meth c H locs 0 0 (MQ below (QI E K z w' r) args s 0 0 (hA E)) (F0 m 33 ls []) := by
  obtain ⟨hx, hb, hml, hown, hts, hKs, hT, hb0, hlocks, hret⟩ := id C
  intro n
  induction n with
  | zero =>
    intro v1_33 w H locs ls hH hl hf
    cases hf
  | succ n ih =>
    intro v1_33 w H locs ls hH hl hf
    rw [f_X13_undo_L33] at hf
    refine lv_iload_n hx hb dX13_undo_33 rfl (lv_at hl 0 rfl) ?_
    refine lv_sipush (v := 370) hx hb dX13_undo_34 (by decide) ?_
    refine lv_icmp_ge (tgt := 67) hx hb dX13_undo_37 (by decide) (fun c6 => ?_) (fun c6 => ?_)
    · replace hf := (if_pos c6).symm.trans hf
      exact hk v1_33 _ _ _ _ hH (lv_sub hl [0, 1] rfl) hf
    · replace hf := (if_neg c6).symm.trans hf
      refine hl_aload_n hx hb dX13_undo_40 rfl (lv_at hl 1 rfl) ?_
      refine g13_3 hx hb hts hown hKs hH rfl ho m6_184 dX13_undo_41 ?_
      refine lv_iload_n hx hb dX13_undo_44 rfl (lv_at hl 0 rfl) ?_
      refine hl_aload_n hx hb dX13_undo_45 rfl (lv_at hl 1 rfl) ?_
      refine g13_8 hx hb hts hown hKs hH rfl ho m6_189 dX13_undo_46 ?_
      refine lv_sipush (v := 370) hx hb dX13_undo_49 (by decide) ?_
      refine hl_aload_n hx hb dX13_undo_52 rfl (lv_at hl 1 rfl) ?_
      refine g13_9 hx hb hts hown hKs hH rfl ho m6_190 dX13_undo_53 ?_
      refine lv_imul hx hb dX13_undo_56 ?_
      refine lv_iload_n hx hb dX13_undo_57 rfl (lv_at hl 0 rfl) ?_
      refine lv_iadd hx hb dX13_undo_58 ?_
      obtain ⟨a7, ha7, hf⟩ := bnd hf
      replace ha7 := cha_some ha7
      obtain ⟨j8, hj8, hf⟩ := bnd hf
      refine hw_iald hx hb hKs hH ha7.1 ha7.2 hj8 dX13_undo_59 ?_
      obtain ⟨a9, ha9, hf⟩ := bnd hf
      replace ha9 := cha_some ha9
      obtain ⟨j10, hj10, hf⟩ := bnd hf
      obtain ⟨w11, hw11, hf⟩ := bnd hf
      replace hw11 := Option.some.inj hw11
      refine hw_iast (x := (aI w a7.1 j8)) hx hb hKs hH ha9.1 ha9.2 hj10 dX13_undo_60 (fun H locs hH => ?_)
      rw [hw11] at hH
      refine lv_iinc (v := (v1_33 + 1)) (lv' := [(1, .int ((v1_33 + 1))), (0, rv E (some o))]) hx hb dX13_undo_61 hl (k := 0) rfl rfl (by decide) rfl (fun ls hl => ?_)
      refine lv_goto (tgt := 33) hx hb dX13_undo_64 (by decide) ?_
      exact ih (v1_33 + 1) _ _ _ _ hH (lv_sub hl [0, 1] rfl) hf
set_option maxHeartbeats 4000000 in
set_option maxRecDepth 100000 in
theorem k_X13_undo (l : Launch) (E : Ev) (K : Kd) (z : Nat) (o : Nat) (w : Wd) (ho : K o = some (11, 0)) {r : Int32} {w' : Wd} (hf : f_X13_undo K o w = some (r, w')) : Met l yX13_undo (Cond.code yX13_undo cX13_undo 2 (Option.some Jvm.ClassFile.FieldType.int) :: bt) ({ frames := 1, cells := 0, slots := 0, locals := 21 } : Room) (va_Pc [rv E (some o)] (HB E K w z)) (QI E K z w' r) 0 0 (hA E) := by
  refine Met.ofW (cc := cX13_undo) (maxL := 2) (ret := (Option.some Jvm.ClassFile.FieldType.int)) (by decide) rfl ?_
  intro p e s m args below meth c s₁ B hml hv
  obtain ⟨rfl, hz, hP, hKs, hT, hb0⟩ := hv
  have C : CX p l e s m _ meth c cX13_undo 2 RX13 (Option.some Jvm.ClassFile.FieldType.int) E := ⟨B.exec, B.bytes, hml, findClass_of_methodNamed B.named, fun w h => atoms_spec (ws := Cond.code yX13_undo cX13_undo 2 (Option.some Jvm.ClassFile.FieldType.int) :: bt) B.pre w (List.mem_cons_of_mem _ h), hKs, hT, by rw [hz]; exact hb0, B.notSynchronized, B.returns⟩
  have hH : HQ E K z w s s.heap [] := ⟨hP, va_S.rf, hz⟩
  obtain ⟨hx, hb, hml, hown, hts, hKs, hT, hb0, hlocks, hret⟩ := id C
  have hl := lv_entry [rv E (some o)] (n := 2) (by simp [lg_len_nil, lg_len_i, lg_len_j, lg_len_q, lg_len_f, lg_len_d, lg_len_r])
  rw [lg_entry_eq]
  generalize (lg_sl [rv E (some o)] ++ List.replicate (2 - (lg_sl [rv E (some o)]).length) Slot.unset).toArray = ls at hl ⊢
  replace hl : lv_has ls 2 [(0, rv E (some o))] := by simpa only [lv_args, cat_q, cat_i, cat_j, reduceIte, Nat.reduceEqDiff, Nat.reduceAdd, Nat.zero_add] using hl
  generalize s.heap = H at hH ⊢
  unfold f_X13_undo at hf
  refine hl_aload_n hx hb dX13_undo_0 rfl (lv_at hl 0 rfl) ?_
  refine hl_aload_n hx hb dX13_undo_1 rfl (lv_at hl 0 rfl) ?_
  refine g13_9 hx hb hts hown hKs hH rfl ho m6_190 dX13_undo_2 ?_
  refine lv_if_le (tgt := 12) hx hb dX13_undo_5 (by decide) (fun c1 => ?_) (fun c1 => ?_)
  · replace hf := (if_pos c1).symm.trans hf
    refine lv_iconst (v := 0) hx hb dX13_undo_12 (by decide) ?_
    obtain ⟨q2, hq2, hf⟩ := bnd hf
    refine hcV_i hx hb hml hown hts hKs hT hb0 hH (As := [.int 0]) (rest := []) (k_X13_is l E K H.size o false w ho hq2) (gV m7_68 m7_70 ms_47 m1_16 m7_71) hd_X13_is ⟨Nat.le_of_ble_eq_true rfl, Nat.le_of_ble_eq_true rfl, rfl, rfl⟩ rfl ho rfl rfl rfl hl.1 rfl rc0 rfl dX13_undo_13 ⟨Nat.zero_le _, Nat.zero_le _⟩ (fun H locs hH => ?_)
    refine lv_if_ne (tgt := 21) hx hb dX13_undo_16 (by decide) (fun c3 => ?_) (fun c3 => ?_)
    · replace hf := (if_neg c3).symm.trans hf
      refine hl_aload_n hx hb dX13_undo_21 rfl (lv_at hl 0 rfl) ?_
      refine hl_aload_n hx hb dX13_undo_22 rfl (lv_at hl 0 rfl) ?_
      refine g13_9 hx hb hts hown hKs hH rfl ho m6_190 dX13_undo_23 ?_
      refine lv_iconst (v := 1) hx hb dX13_undo_26 (by decide) ?_
      refine lv_isub hx hb dX13_undo_27 ?_
      obtain ⟨w4, hw4, hf⟩ := bnd hf
      replace hw4 := Option.some.inj hw4
      refine p13_9 (v := ((wI q2.2 1309 o) - 1)) hx hb hts hown hKs hH rfl ho m6_190 dX13_undo_28 (fun H locs hH => ?_)
      rw [hw4] at hH
      refine lv_iconst (v := 0) hx hb dX13_undo_31 (by decide) ?_
      refine lv_istore_n (i := 1) (lv' := [(1, .int 0), (0, rv E (some o))]) hx hb dX13_undo_32 rfl hl (by decide) rfl (fun ls hl => ?_)
      refine l_X13_undo_L33  C ho _ (fun v1_33 w5 H locs ls hH hl hf => ?_) fu 0 w4 _ _ _ hH (lv_sub hl [0, 1] rfl) hf
      refine hl_aload_n hx hb dX13_undo_67 rfl (lv_at hl 1 rfl) ?_
      refine g13_9 hx hb hts hown hKs hH rfl ho m6_190 dX13_undo_68 ?_
      exact hw_iret hx hb hret hf hH hlocks dX13_undo_71
    · replace hf := (if_pos c3).symm.trans hf
      refine lv_iconst (v := 0) hx hb dX13_undo_19 (by decide) ?_
      exact hw_iret hx hb hret hf hH hlocks dX13_undo_20
  · replace hf := (if_neg c1).symm.trans hf
    refine lv_iconst (v := 1) hx hb dX13_undo_8 (by decide) ?_
    refine lv_goto (tgt := 13) hx hb dX13_undo_9 (by decide) ?_
    obtain ⟨q12, hq12, hf⟩ := bnd hf
    refine hcV_i hx hb hml hown hts hKs hT hb0 hH (As := [.int 1]) (rest := []) (k_X13_is l E K H.size o true w ho hq12) (gV m7_68 m7_70 ms_47 m1_16 m7_71) hd_X13_is ⟨Nat.le_of_ble_eq_true rfl, Nat.le_of_ble_eq_true rfl, rfl, rfl⟩ rfl ho rfl rfl rfl hl.1 rfl rc0 rfl dX13_undo_13 ⟨Nat.zero_le _, Nat.zero_le _⟩ (fun H locs hH => ?_)
    refine lv_if_ne (tgt := 21) hx hb dX13_undo_16 (by decide) (fun c13 => ?_) (fun c13 => ?_)
    · replace hf := (if_neg c13).symm.trans hf
      refine hl_aload_n hx hb dX13_undo_21 rfl (lv_at hl 0 rfl) ?_
      refine hl_aload_n hx hb dX13_undo_22 rfl (lv_at hl 0 rfl) ?_
      refine g13_9 hx hb hts hown hKs hH rfl ho m6_190 dX13_undo_23 ?_
      refine lv_iconst (v := 1) hx hb dX13_undo_26 (by decide) ?_
      refine lv_isub hx hb dX13_undo_27 ?_
      obtain ⟨w14, hw14, hf⟩ := bnd hf
      replace hw14 := Option.some.inj hw14
      refine p13_9 (v := ((wI q12.2 1309 o) - 1)) hx hb hts hown hKs hH rfl ho m6_190 dX13_undo_28 (fun H locs hH => ?_)
      rw [hw14] at hH
      refine lv_iconst (v := 0) hx hb dX13_undo_31 (by decide) ?_
      refine lv_istore_n (i := 1) (lv' := [(1, .int 0), (0, rv E (some o))]) hx hb dX13_undo_32 rfl hl (by decide) rfl (fun ls hl => ?_)
      refine l_X13_undo_L33  C ho _ (fun v1_33 w15 H locs ls hH hl hf => ?_) fu 0 w14 _ _ _ hH (lv_sub hl [0, 1] rfl) hf
      refine hl_aload_n hx hb dX13_undo_67 rfl (lv_at hl 1 rfl) ?_
      refine g13_9 hx hb hts hown hKs hH rfl ho m6_190 dX13_undo_68 ?_
      exact hw_iret hx hb hret hf hH hlocks dX13_undo_71
    · replace hf := (if_pos c13).symm.trans hf
      refine lv_iconst (v := 0) hx hb dX13_undo_19 (by decide) ?_
      exact hw_iret hx hb hret hf hH hlocks dX13_undo_20

theorem dX13_saveState_0 : decode cX13_saveState 0 = .ok (.aload_n 0, 1) := by decide +kernel
theorem dX13_saveState_1 : decode cX13_saveState 1 = .ok (.iconst 0, 1) := by decide +kernel
theorem dX13_saveState_2 : decode cX13_saveState 2 = .ok (.putfield 104, 3) := by decide +kernel
theorem dX13_saveState_5 : decode cX13_saveState 5 = .ok (.aload_n 0, 1) := by decide +kernel
theorem dX13_saveState_6 : decode cX13_saveState 6 = .ok (.getfield 16, 3) := by decide +kernel
theorem dX13_saveState_9 : decode cX13_saveState 9 = .ok (.aload_n 0, 1) := by decide +kernel
theorem dX13_saveState_10 : decode cX13_saveState 10 = .ok (.getfield 28, 3) := by decide +kernel
theorem dX13_saveState_13 : decode cX13_saveState 13 = .ok (.invokestatic 93, 3) := by decide +kernel
theorem dX13_saveState_16 : decode cX13_saveState 16 = .ok (.aload_n 0, 1) := by decide +kernel
theorem dX13_saveState_17 : decode cX13_saveState 17 = .ok (.iconst 1, 1) := by decide +kernel
theorem dX13_saveState_18 : decode cX13_saveState 18 = .ok (.putfield 100, 3) := by decide +kernel
theorem dX13_saveState_21 : decode cX13_saveState 21 = .ok (.aload_n 0, 1) := by decide +kernel
theorem dX13_saveState_22 : decode cX13_saveState 22 = .ok (.getfield 16, 3) := by decide +kernel
theorem dX13_saveState_25 : decode cX13_saveState 25 = .ok (.iconst 0, 1) := by decide +kernel
theorem dX13_saveState_26 : decode cX13_saveState 26 = .ok (.iaload, 1) := by decide +kernel
theorem dX13_saveState_27 : decode cX13_saveState 27 = .ok (.ireturn, 1) := by decide +kernel
theorem hd_X13_saveState : yX13_saveState.cls = RX13 ∧ yX13_saveState.cls ≠ "java/lang/invoke/MethodHandle" ∧ yX13_saveState.cls ≠ "java/lang/invoke/VarHandle" ∧ (parseMethodDescriptor yX13_saveState.desc).map (fun d => d.parameters.length) = some 0 := by decide +kernel
theorem hs_X13_saveState : yX13_saveState.cls ≠ "java/lang/invoke/MethodHandle" ∧ yX13_saveState.cls ≠ "java/lang/invoke/VarHandle" ∧ (parseMethodDescriptor yX13_saveState.desc).map (fun d => d.parameters.length) = some 0 := by decide +kernel
set_option maxHeartbeats 4000000 in
set_option maxRecDepth 100000 in
theorem k_X13_saveState (l : Launch) (E : Ev) (K : Kd) (z : Nat) (o : Nat) (w : Wd) (ho : K o = some (11, 0)) {r : Int32} {w' : Wd} (hf : f_X13_saveState K o w = some (r, w')) : Met l yX13_saveState (Cond.code yX13_saveState cX13_saveState 1 (Option.some Jvm.ClassFile.FieldType.int) :: bt) ({ frames := 1, cells := 0, slots := 0, locals := 22 } : Room) (va_Pc [rv E (some o)] (HB E K w z)) (QI E K z w' r) 0 0 (hA E) := by
  refine Met.ofW (cc := cX13_saveState) (maxL := 1) (ret := (Option.some Jvm.ClassFile.FieldType.int)) (by decide) rfl ?_
  intro p e s m args below meth c s₁ B hml hv
  obtain ⟨rfl, hz, hP, hKs, hT, hb0⟩ := hv
  have C : CX p l e s m _ meth c cX13_saveState 1 RX13 (Option.some Jvm.ClassFile.FieldType.int) E := ⟨B.exec, B.bytes, hml, findClass_of_methodNamed B.named, fun w h => atoms_spec (ws := Cond.code yX13_saveState cX13_saveState 1 (Option.some Jvm.ClassFile.FieldType.int) :: bt) B.pre w (List.mem_cons_of_mem _ h), hKs, hT, by rw [hz]; exact hb0, B.notSynchronized, B.returns⟩
  have hH : HQ E K z w s s.heap [] := ⟨hP, va_S.rf, hz⟩
  obtain ⟨hx, hb, hml, hown, hts, hKs, hT, hb0, hlocks, hret⟩ := id C
  have hl := lv_entry [rv E (some o)] (n := 1) (by simp [lg_len_nil, lg_len_i, lg_len_j, lg_len_q, lg_len_f, lg_len_d, lg_len_r])
  rw [lg_entry_eq]
  generalize (lg_sl [rv E (some o)] ++ List.replicate (1 - (lg_sl [rv E (some o)]).length) Slot.unset).toArray = ls at hl ⊢
  replace hl : lv_has ls 1 [(0, rv E (some o))] := by simpa only [lv_args, cat_q, cat_i, cat_j, reduceIte, Nat.reduceEqDiff, Nat.reduceAdd, Nat.zero_add] using hl
  generalize s.heap = H at hH ⊢
  unfold f_X13_saveState at hf
  refine hl_aload_n hx hb dX13_saveState_0 rfl (lv_at hl 0 rfl) ?_
  refine lv_iconst (v := 0) hx hb dX13_saveState_1 (by decide) ?_
  obtain ⟨w1, hw1, hf⟩ := bnd hf
  replace hw1 := Option.some.inj hw1
  refine p13_0 (v := 0) hx hb hts hown hKs hH rfl ho m6_181 dX13_saveState_2 (fun H locs hH => ?_)
  rw [hw1] at hH
  refine hl_aload_n hx hb dX13_saveState_5 rfl (lv_at hl 0 rfl) ?_
  refine g13_3 hx hb hts hown hKs hH rfl ho m6_184 dX13_saveState_6 ?_
  refine hl_aload_n hx hb dX13_saveState_9 rfl (lv_at hl 0 rfl) ?_
  refine g13_7 hx hb hts hown hKs hH rfl ho m6_188 dX13_saveState_10 ?_
  obtain ⟨q2, hq2, hf⟩ := bnd hf
  refine hcS_v hx hb hml hown hts hKs hT hb0 hH (As := [rv E (wR w1 1303 o), rv E (wR w1 1307 o)]) (rest := []) (k_X13_copies l E K H.size (wR w1 1303 o) (wR w1 1307 o) w1 hq2) (gS m6_178 m6_179 m1_16 m6_180) hs_X13_copies ⟨Nat.le_of_ble_eq_true rfl, Nat.le_of_ble_eq_true rfl, rfl, rfl⟩ hl.1 rfl rc0 rfl dX13_saveState_13 ⟨Nat.zero_le _, Nat.zero_le _⟩ (fun H locs hH => ?_)
  refine hl_aload_n hx hb dX13_saveState_16 rfl (lv_at hl 0 rfl) ?_
  refine lv_iconst (v := 1) hx hb dX13_saveState_17 (by decide) ?_
  obtain ⟨w3, hw3, hf⟩ := bnd hf
  replace hw3 := Option.some.inj hw3
  refine p13_10 (v := true) hx hb hts hown hKs hH rfl ho m6_191 dX13_saveState_18 (fun H locs hH => ?_)
  rw [hw3] at hH
  refine hl_aload_n hx hb dX13_saveState_21 rfl (lv_at hl 0 rfl) ?_
  refine g13_3 hx hb hts hown hKs hH rfl ho m6_184 dX13_saveState_22 ?_
  refine lv_iconst (v := 0) hx hb dX13_saveState_25 (by decide) ?_
  obtain ⟨a4, ha4, hf⟩ := bnd hf
  replace ha4 := cha_some ha4
  obtain ⟨j5, hj5, hf⟩ := bnd hf
  refine hw_iald hx hb hKs hH ha4.1 ha4.2 hj5 dX13_saveState_26 ?_
  exact hw_iret hx hb hret hf hH hlocks dX13_saveState_27

theorem dX13_restoreState_0 : decode cX13_restoreState 0 = .ok (.aload_n 0, 1) := by decide +kernel
theorem dX13_restoreState_1 : decode cX13_restoreState 1 = .ok (.aload_n 0, 1) := by decide +kernel
theorem dX13_restoreState_2 : decode cX13_restoreState 2 = .ok (.getfield 100, 3) := by decide +kernel
theorem dX13_restoreState_5 : decode cX13_restoreState 5 = .ok (.invokevirtual 110, 3) := by decide +kernel
theorem dX13_restoreState_8 : decode cX13_restoreState 8 = .ok (.ifCond .ne 5, 3) := by decide +kernel
theorem dX13_restoreState_11 : decode cX13_restoreState 11 = .ok (.iconst 0, 1) := by decide +kernel
theorem dX13_restoreState_12 : decode cX13_restoreState 12 = .ok (.ireturn, 1) := by decide +kernel
theorem dX13_restoreState_13 : decode cX13_restoreState 13 = .ok (.aload_n 0, 1) := by decide +kernel
theorem dX13_restoreState_14 : decode cX13_restoreState 14 = .ok (.getfield 28, 3) := by decide +kernel
theorem dX13_restoreState_17 : decode cX13_restoreState 17 = .ok (.aload_n 0, 1) := by decide +kernel
theorem dX13_restoreState_18 : decode cX13_restoreState 18 = .ok (.getfield 16, 3) := by decide +kernel
theorem dX13_restoreState_21 : decode cX13_restoreState 21 = .ok (.invokestatic 93, 3) := by decide +kernel
theorem dX13_restoreState_24 : decode cX13_restoreState 24 = .ok (.aload_n 0, 1) := by decide +kernel
theorem dX13_restoreState_25 : decode cX13_restoreState 25 = .ok (.iconst 0, 1) := by decide +kernel
theorem dX13_restoreState_26 : decode cX13_restoreState 26 = .ok (.putfield 97, 3) := by decide +kernel
theorem dX13_restoreState_29 : decode cX13_restoreState 29 = .ok (.aload_n 0, 1) := by decide +kernel
theorem dX13_restoreState_30 : decode cX13_restoreState 30 = .ok (.getfield 16, 3) := by decide +kernel
theorem dX13_restoreState_33 : decode cX13_restoreState 33 = .ok (.iconst 0, 1) := by decide +kernel
theorem dX13_restoreState_34 : decode cX13_restoreState 34 = .ok (.iaload, 1) := by decide +kernel
theorem dX13_restoreState_35 : decode cX13_restoreState 35 = .ok (.ireturn, 1) := by decide +kernel
theorem hd_X13_restoreState : yX13_restoreState.cls = RX13 ∧ yX13_restoreState.cls ≠ "java/lang/invoke/MethodHandle" ∧ yX13_restoreState.cls ≠ "java/lang/invoke/VarHandle" ∧ (parseMethodDescriptor yX13_restoreState.desc).map (fun d => d.parameters.length) = some 0 := by decide +kernel
theorem hs_X13_restoreState : yX13_restoreState.cls ≠ "java/lang/invoke/MethodHandle" ∧ yX13_restoreState.cls ≠ "java/lang/invoke/VarHandle" ∧ (parseMethodDescriptor yX13_restoreState.desc).map (fun d => d.parameters.length) = some 0 := by decide +kernel
set_option maxHeartbeats 4000000 in
set_option maxRecDepth 100000 in
theorem k_X13_restoreState (l : Launch) (E : Ev) (K : Kd) (z : Nat) (o : Nat) (w : Wd) (ho : K o = some (11, 0)) {r : Int32} {w' : Wd} (hf : f_X13_restoreState K o w = some (r, w')) : Met l yX13_restoreState (Cond.code yX13_restoreState cX13_restoreState 1 (Option.some Jvm.ClassFile.FieldType.int) :: bt) ({ frames := 1, cells := 0, slots := 0, locals := 22 } : Room) (va_Pc [rv E (some o)] (HB E K w z)) (QI E K z w' r) 0 0 (hA E) := by
  refine Met.ofW (cc := cX13_restoreState) (maxL := 1) (ret := (Option.some Jvm.ClassFile.FieldType.int)) (by decide) rfl ?_
  intro p e s m args below meth c s₁ B hml hv
  obtain ⟨rfl, hz, hP, hKs, hT, hb0⟩ := hv
  have C : CX p l e s m _ meth c cX13_restoreState 1 RX13 (Option.some Jvm.ClassFile.FieldType.int) E := ⟨B.exec, B.bytes, hml, findClass_of_methodNamed B.named, fun w h => atoms_spec (ws := Cond.code yX13_restoreState cX13_restoreState 1 (Option.some Jvm.ClassFile.FieldType.int) :: bt) B.pre w (List.mem_cons_of_mem _ h), hKs, hT, by rw [hz]; exact hb0, B.notSynchronized, B.returns⟩
  have hH : HQ E K z w s s.heap [] := ⟨hP, va_S.rf, hz⟩
  obtain ⟨hx, hb, hml, hown, hts, hKs, hT, hb0, hlocks, hret⟩ := id C
  have hl := lv_entry [rv E (some o)] (n := 1) (by simp [lg_len_nil, lg_len_i, lg_len_j, lg_len_q, lg_len_f, lg_len_d, lg_len_r])
  rw [lg_entry_eq]
  generalize (lg_sl [rv E (some o)] ++ List.replicate (1 - (lg_sl [rv E (some o)]).length) Slot.unset).toArray = ls at hl ⊢
  replace hl : lv_has ls 1 [(0, rv E (some o))] := by simpa only [lv_args, cat_q, cat_i, cat_j, reduceIte, Nat.reduceEqDiff, Nat.reduceAdd, Nat.zero_add] using hl
  generalize s.heap = H at hH ⊢
  unfold f_X13_restoreState at hf
  refine hl_aload_n hx hb dX13_restoreState_0 rfl (lv_at hl 0 rfl) ?_
  refine hl_aload_n hx hb dX13_restoreState_1 rfl (lv_at hl 0 rfl) ?_
  refine g13_10 hx hb hts hown hKs hH rfl ho m6_191 dX13_restoreState_2 ?_
  obtain ⟨q1, hq1, hf⟩ := bnd hf
  refine hcV_i hx hb hml hown hts hKs hT hb0 hH (As := [.int (b2i (wZ w 1310 o))]) (rest := []) (k_X13_is l E K H.size o (wZ w 1310 o) w ho hq1) (gV m7_68 m7_70 ms_47 m1_16 m7_71) hd_X13_is ⟨Nat.le_of_ble_eq_true rfl, Nat.le_of_ble_eq_true rfl, rfl, rfl⟩ rfl ho rfl rfl rfl hl.1 rfl rc0 rfl dX13_restoreState_5 ⟨Nat.zero_le _, Nat.zero_le _⟩ (fun H locs hH => ?_)
  refine lv_if_ne (tgt := 13) hx hb dX13_restoreState_8 (by decide) (fun c2 => ?_) (fun c2 => ?_)
  · replace hf := (if_neg c2).symm.trans hf
    refine hl_aload_n hx hb dX13_restoreState_13 rfl (lv_at hl 0 rfl) ?_
    refine g13_7 hx hb hts hown hKs hH rfl ho m6_188 dX13_restoreState_14 ?_
    refine hl_aload_n hx hb dX13_restoreState_17 rfl (lv_at hl 0 rfl) ?_
    refine g13_3 hx hb hts hown hKs hH rfl ho m6_184 dX13_restoreState_18 ?_
    obtain ⟨q3, hq3, hf⟩ := bnd hf
    refine hcS_v hx hb hml hown hts hKs hT hb0 hH (As := [rv E (wR q1.2 1307 o), rv E (wR q1.2 1303 o)]) (rest := []) (k_X13_copies l E K H.size (wR q1.2 1307 o) (wR q1.2 1303 o) q1.2 hq3) (gS m6_178 m6_179 m1_16 m6_180) hs_X13_copies ⟨Nat.le_of_ble_eq_true rfl, Nat.le_of_ble_eq_true rfl, rfl, rfl⟩ hl.1 rfl rc0 rfl dX13_restoreState_21 ⟨Nat.zero_le _, Nat.zero_le _⟩ (fun H locs hH => ?_)
    refine hl_aload_n hx hb dX13_restoreState_24 rfl (lv_at hl 0 rfl) ?_
    refine lv_iconst (v := 0) hx hb dX13_restoreState_25 (by decide) ?_
    obtain ⟨w4, hw4, hf⟩ := bnd hf
    replace hw4 := Option.some.inj hw4
    refine p13_9 (v := 0) hx hb hts hown hKs hH rfl ho m6_190 dX13_restoreState_26 (fun H locs hH => ?_)
    rw [hw4] at hH
    refine hl_aload_n hx hb dX13_restoreState_29 rfl (lv_at hl 0 rfl) ?_
    refine g13_3 hx hb hts hown hKs hH rfl ho m6_184 dX13_restoreState_30 ?_
    refine lv_iconst (v := 0) hx hb dX13_restoreState_33 (by decide) ?_
    obtain ⟨a5, ha5, hf⟩ := bnd hf
    replace ha5 := cha_some ha5
    obtain ⟨j6, hj6, hf⟩ := bnd hf
    refine hw_iald hx hb hKs hH ha5.1 ha5.2 hj6 dX13_restoreState_34 ?_
    exact hw_iret hx hb hret hf hH hlocks dX13_restoreState_35
  · replace hf := (if_pos c2).symm.trans hf
    refine lv_iconst (v := 0) hx hb dX13_restoreState_11 (by decide) ?_
    exact hw_iret hx hb hret hf hH hlocks dX13_restoreState_12

theorem dX13_tries_0 : decode cX13_tries 0 = .ok (.aload_n 0, 1) := by decide +kernel
theorem dX13_tries_1 : decode cX13_tries 1 = .ok (.getfield 16, 3) := by decide +kernel
theorem dX13_tries_4 : decode cX13_tries 4 = .ok (.aload_n 0, 1) := by decide +kernel
theorem dX13_tries_5 : decode cX13_tries 5 = .ok (.getfield 25, 3) := by decide +kernel
theorem dX13_tries_8 : decode cX13_tries 8 = .ok (.invokestatic 93, 3) := by decide +kernel
theorem dX13_tries_11 : decode cX13_tries 11 = .ok (.return_, 1) := by decide +kernel
theorem hd_X13_tries : yX13_tries.cls = RX13 ∧ yX13_tries.cls ≠ "java/lang/invoke/MethodHandle" ∧ yX13_tries.cls ≠ "java/lang/invoke/VarHandle" ∧ (parseMethodDescriptor yX13_tries.desc).map (fun d => d.parameters.length) = some 0 := by decide +kernel
theorem hs_X13_tries : yX13_tries.cls ≠ "java/lang/invoke/MethodHandle" ∧ yX13_tries.cls ≠ "java/lang/invoke/VarHandle" ∧ (parseMethodDescriptor yX13_tries.desc).map (fun d => d.parameters.length) = some 0 := by decide +kernel
set_option maxHeartbeats 4000000 in
set_option maxRecDepth 100000 in
theorem k_X13_tries (l : Launch) (E : Ev) (K : Kd) (z : Nat) (o : Nat) (w : Wd) (ho : K o = some (11, 0)) {w' : Wd} (hf : f_X13_tries K o w = some w') : Met l yX13_tries (Cond.code yX13_tries cX13_tries 1 (Option.none : Option Jvm.ClassFile.FieldType) :: bt) ({ frames := 1, cells := 0, slots := 0, locals := 22 } : Room) (va_Pc [rv E (some o)] (HB E K w z)) (QV E K z w') 0 0 (hA E) := by
  refine Met.ofW (cc := cX13_tries) (maxL := 1) (ret := (Option.none : Option Jvm.ClassFile.FieldType)) (by decide) rfl ?_
  intro p e s m args below meth c s₁ B hml hv
  obtain ⟨rfl, hz, hP, hKs, hT, hb0⟩ := hv
  have C : CX p l e s m _ meth c cX13_tries 1 RX13 (Option.none : Option Jvm.ClassFile.FieldType) E := ⟨B.exec, B.bytes, hml, findClass_of_methodNamed B.named, fun w h => atoms_spec (ws := Cond.code yX13_tries cX13_tries 1 (Option.none : Option Jvm.ClassFile.FieldType) :: bt) B.pre w (List.mem_cons_of_mem _ h), hKs, hT, by rw [hz]; exact hb0, B.notSynchronized, B.returns⟩
  have hH : HQ E K z w s s.heap [] := ⟨hP, va_S.rf, hz⟩
  obtain ⟨hx, hb, hml, hown, hts, hKs, hT, hb0, hlocks, hret⟩ := id C
  have hl := lv_entry [rv E (some o)] (n := 1) (by simp [lg_len_nil, lg_len_i, lg_len_j, lg_len_q, lg_len_f, lg_len_d, lg_len_r])
  rw [lg_entry_eq]
  generalize (lg_sl [rv E (some o)] ++ List.replicate (1 - (lg_sl [rv E (some o)]).length) Slot.unset).toArray = ls at hl ⊢
  replace hl : lv_has ls 1 [(0, rv E (some o))] := by simpa only [lv_args, cat_q, cat_i, cat_j, reduceIte, Nat.reduceEqDiff, Nat.reduceAdd, Nat.zero_add] using hl
  generalize s.heap = H at hH ⊢
  unfold f_X13_tries at hf
  refine hl_aload_n hx hb dX13_tries_0 rfl (lv_at hl 0 rfl) ?_
  refine g13_3 hx hb hts hown hKs hH rfl ho m6_184 dX13_tries_1 ?_
  refine hl_aload_n hx hb dX13_tries_4 rfl (lv_at hl 0 rfl) ?_
  refine g13_6 hx hb hts hown hKs hH rfl ho m6_187 dX13_tries_5 ?_
  obtain ⟨q1, hq1, hf⟩ := bnd hf
  refine hcS_v hx hb hml hown hts hKs hT hb0 hH (As := [rv E (wR w 1303 o), rv E (wR w 1306 o)]) (rest := []) (k_X13_copies l E K H.size (wR w 1303 o) (wR w 1306 o) w hq1) (gS m6_178 m6_179 m1_16 m6_180) hs_X13_copies ⟨Nat.le_of_ble_eq_true rfl, Nat.le_of_ble_eq_true rfl, rfl, rfl⟩ hl.1 rfl rc0 rfl dX13_tries_8 ⟨Nat.zero_le _, Nat.zero_le _⟩ (fun H locs hH => ?_)
  exact hw_vret hx hb hret hf hH hlocks dX13_tries_11

theorem dX13_laysBack_0 : decode cX13_laysBack 0 = .ok (.aload_n 0, 1) := by decide +kernel
theorem dX13_laysBack_1 : decode cX13_laysBack 1 = .ok (.getfield 25, 3) := by decide +kernel
theorem dX13_laysBack_4 : decode cX13_laysBack 4 = .ok (.aload_n 0, 1) := by decide +kernel
theorem dX13_laysBack_5 : decode cX13_laysBack 5 = .ok (.getfield 16, 3) := by decide +kernel
theorem dX13_laysBack_8 : decode cX13_laysBack 8 = .ok (.invokestatic 93, 3) := by decide +kernel
theorem dX13_laysBack_11 : decode cX13_laysBack 11 = .ok (.iload_n 1, 1) := by decide +kernel
theorem dX13_laysBack_12 : decode cX13_laysBack 12 = .ok (.ireturn, 1) := by decide +kernel
theorem hd_X13_laysBack : yX13_laysBack.cls = RX13 ∧ yX13_laysBack.cls ≠ "java/lang/invoke/MethodHandle" ∧ yX13_laysBack.cls ≠ "java/lang/invoke/VarHandle" ∧ (parseMethodDescriptor yX13_laysBack.desc).map (fun d => d.parameters.length) = some 1 := by decide +kernel
theorem hs_X13_laysBack : yX13_laysBack.cls ≠ "java/lang/invoke/MethodHandle" ∧ yX13_laysBack.cls ≠ "java/lang/invoke/VarHandle" ∧ (parseMethodDescriptor yX13_laysBack.desc).map (fun d => d.parameters.length) = some 1 := by decide +kernel
set_option maxHeartbeats 4000000 in
set_option maxRecDepth 100000 in
theorem k_X13_laysBack (l : Launch) (E : Ev) (K : Kd) (z : Nat) (o : Nat) (a_1 : Int32) (w : Wd) (ho : K o = some (11, 0)) {r : Int32} {w' : Wd} (hf : f_X13_laysBack K o a_1 w = some (r, w')) : Met l yX13_laysBack (Cond.code yX13_laysBack cX13_laysBack 2 (Option.some Jvm.ClassFile.FieldType.int) :: bt) ({ frames := 1, cells := 0, slots := 0, locals := 22 } : Room) (va_Pc [rv E (some o), .int a_1] (HB E K w z)) (QI E K z w' r) 0 0 (hA E) := by
  refine Met.ofW (cc := cX13_laysBack) (maxL := 2) (ret := (Option.some Jvm.ClassFile.FieldType.int)) (by decide) rfl ?_
  intro p e s m args below meth c s₁ B hml hv
  obtain ⟨rfl, hz, hP, hKs, hT, hb0⟩ := hv
  have C : CX p l e s m _ meth c cX13_laysBack 2 RX13 (Option.some Jvm.ClassFile.FieldType.int) E := ⟨B.exec, B.bytes, hml, findClass_of_methodNamed B.named, fun w h => atoms_spec (ws := Cond.code yX13_laysBack cX13_laysBack 2 (Option.some Jvm.ClassFile.FieldType.int) :: bt) B.pre w (List.mem_cons_of_mem _ h), hKs, hT, by rw [hz]; exact hb0, B.notSynchronized, B.returns⟩
  have hH : HQ E K z w s s.heap [] := ⟨hP, va_S.rf, hz⟩
  obtain ⟨hx, hb, hml, hown, hts, hKs, hT, hb0, hlocks, hret⟩ := id C
  have hl := lv_entry [rv E (some o), .int a_1] (n := 2) (by simp [lg_len_nil, lg_len_i, lg_len_j, lg_len_q, lg_len_f, lg_len_d, lg_len_r])
  rw [lg_entry_eq]
  generalize (lg_sl [rv E (some o), .int a_1] ++ List.replicate (2 - (lg_sl [rv E (some o), .int a_1]).length) Slot.unset).toArray = ls at hl ⊢
  replace hl : lv_has ls 2 [(0, rv E (some o)), (1, .int a_1)] := by simpa only [lv_args, cat_q, cat_i, cat_j, reduceIte, Nat.reduceEqDiff, Nat.reduceAdd, Nat.zero_add] using hl
  generalize s.heap = H at hH ⊢
  unfold f_X13_laysBack at hf
  refine hl_aload_n hx hb dX13_laysBack_0 rfl (lv_at hl 0 rfl) ?_
  refine g13_6 hx hb hts hown hKs hH rfl ho m6_187 dX13_laysBack_1 ?_
  refine hl_aload_n hx hb dX13_laysBack_4 rfl (lv_at hl 0 rfl) ?_
  refine g13_3 hx hb hts hown hKs hH rfl ho m6_184 dX13_laysBack_5 ?_
  obtain ⟨q1, hq1, hf⟩ := bnd hf
  refine hcS_v hx hb hml hown hts hKs hT hb0 hH (As := [rv E (wR w 1306 o), rv E (wR w 1303 o)]) (rest := []) (k_X13_copies l E K H.size (wR w 1306 o) (wR w 1303 o) w hq1) (gS m6_178 m6_179 m1_16 m6_180) hs_X13_copies ⟨Nat.le_of_ble_eq_true rfl, Nat.le_of_ble_eq_true rfl, rfl, rfl⟩ hl.1 rfl rc0 rfl dX13_laysBack_8 ⟨Nat.zero_le _, Nat.zero_le _⟩ (fun H locs hH => ?_)
  refine lv_iload_n hx hb dX13_laysBack_11 rfl (lv_at hl 1 rfl) ?_
  exact hw_iret hx hb hret hf hH hlocks dX13_laysBack_12

theorem dX13_isHoliday_0 : decode cX13_isHoliday 0 = .ok (.iconst 0, 1) := by decide +kernel
theorem dX13_isHoliday_1 : decode cX13_isHoliday 1 = .ok (.istore_n 2, 1) := by decide +kernel
theorem dX13_isHoliday_2 : decode cX13_isHoliday 2 = .ok (.iload_n 2, 1) := by decide +kernel
theorem dX13_isHoliday_3 : decode cX13_isHoliday 3 = .ok (.aload_n 0, 1) := by decide +kernel
theorem dX13_isHoliday_4 : decode cX13_isHoliday 4 = .ok (.getfield 16, 3) := by decide +kernel
theorem dX13_isHoliday_7 : decode cX13_isHoliday 7 = .ok (.iconst 1, 1) := by decide +kernel
theorem dX13_isHoliday_8 : decode cX13_isHoliday 8 = .ok (.iaload, 1) := by decide +kernel
theorem dX13_isHoliday_9 : decode cX13_isHoliday 9 = .ok (.if_icmp .ge 23, 3) := by decide +kernel
theorem dX13_isHoliday_12 : decode cX13_isHoliday 12 = .ok (.aload_n 0, 1) := by decide +kernel
theorem dX13_isHoliday_13 : decode cX13_isHoliday 13 = .ok (.getfield 16, 3) := by decide +kernel
theorem dX13_isHoliday_16 : decode cX13_isHoliday 16 = .ok (.iconst 2, 1) := by decide +kernel
theorem dX13_isHoliday_17 : decode cX13_isHoliday 17 = .ok (.iload_n 2, 1) := by decide +kernel
theorem dX13_isHoliday_18 : decode cX13_isHoliday 18 = .ok (.iadd, 1) := by decide +kernel
theorem dX13_isHoliday_19 : decode cX13_isHoliday 19 = .ok (.iaload, 1) := by decide +kernel
theorem dX13_isHoliday_20 : decode cX13_isHoliday 20 = .ok (.iload_n 1, 1) := by decide +kernel
theorem dX13_isHoliday_21 : decode cX13_isHoliday 21 = .ok (.if_icmp .ne 5, 3) := by decide +kernel
theorem dX13_isHoliday_24 : decode cX13_isHoliday 24 = .ok (.iconst 1, 1) := by decide +kernel
theorem dX13_isHoliday_25 : decode cX13_isHoliday 25 = .ok (.ireturn, 1) := by decide +kernel
theorem dX13_isHoliday_26 : decode cX13_isHoliday 26 = .ok (.iinc 2 1, 3) := by decide +kernel
theorem dX13_isHoliday_29 : decode cX13_isHoliday 29 = .ok (.goto (-27), 3) := by decide +kernel
theorem dX13_isHoliday_32 : decode cX13_isHoliday 32 = .ok (.iconst 0, 1) := by decide +kernel
theorem dX13_isHoliday_33 : decode cX13_isHoliday 33 = .ok (.ireturn, 1) := by decide +kernel
theorem hd_X13_isHoliday : yX13_isHoliday.cls = RX13 ∧ yX13_isHoliday.cls ≠ "java/lang/invoke/MethodHandle" ∧ yX13_isHoliday.cls ≠ "java/lang/invoke/VarHandle" ∧ (parseMethodDescriptor yX13_isHoliday.desc).map (fun d => d.parameters.length) = some 1 := by decide +kernel
theorem hs_X13_isHoliday : yX13_isHoliday.cls ≠ "java/lang/invoke/MethodHandle" ∧ yX13_isHoliday.cls ≠ "java/lang/invoke/VarHandle" ∧ (parseMethodDescriptor yX13_isHoliday.desc).map (fun d => d.parameters.length) = some 1 := by decide +kernel
set_option maxHeartbeats 4000000 in
set_option maxRecDepth 100000 in
theorem l_X13_isHoliday_L2 (C : CX p l e s m args meth c cX13_isHoliday 3 RX13 (Option.some Jvm.ClassFile.FieldType.boolean) E) {o : Nat} (ho : K o = some (11, 0)) {r : Bool} {w' : Wd} (k : Int32 → Int32 → Wd → Option (Bool × Wd)) (hk : ∀ (v1_2 : Int32) (v2_2 : Int32) (w : Wd) (H : Heap) (locs : List Loc) (ls : Array Slot), HQ E K z w s H locs → lv_has ls 3 [(1, .int v1_2), (2, .int v2_2), (0, rv E (some o))] → k v1_2 v2_2 w = some (r, w') → W p l e ({ frames := 0, cells := 0, slots := 0, locals := 0 } : Room) s m args below meth c H locs 0 0 (MQ below (QI E K z w' (b2i r)) args s 0 0 (hA E)) (F0 m 32 ls [])) : ∀ (n : Nat) (v1_2 : Int32) (v2_2 : Int32) (w : Wd) (H : Heap) (locs : List Loc) (ls : Array Slot), HQ E K z w s H locs → lv_has ls 3 [(1, .int v1_2), (2, .int v2_2), (0, rv E (some o))] → f_X13_isHoliday_L2 K o k n v1_2 v2_2 w = some (r, w') → W p l e ({ frames := 0, cells := 0, slots := 0, locals := 0 } : Room) s m args below meth c H locs 0 0 (MQ below (QI E K z w' (b2i r)) args s 0 0 (hA E)) (F0 m 2 ls []) := by
  obtain ⟨hx, hb, hml, hown, hts, hKs, hT, hb0, hlocks, hret⟩ := id C
  intro n
  induction n with
  | zero =>
    intro v1_2 v2_2 w H locs ls hH hl hf
    cases hf
  | succ n ih =>
    intro v1_2 v2_2 w H locs ls hH hl hf
    rw [f_X13_isHoliday_L2] at hf
    refine lv_iload_n hx hb dX13_isHoliday_2 rfl (lv_at hl 1 rfl) ?_
    refine hl_aload_n hx hb dX13_isHoliday_3 rfl (lv_at hl 2 rfl) ?_
    refine g13_3 hx hb hts hown hKs hH rfl ho m6_184 dX13_isHoliday_4 ?_
    refine lv_iconst (v := 1) hx hb dX13_isHoliday_7 (by decide) ?_
    obtain ⟨a2, ha2, hf⟩ := bnd hf
    replace ha2 := cha_some ha2
    obtain ⟨j3, hj3, hf⟩ := bnd hf
    refine hw_iald hx hb hKs hH ha2.1 ha2.2 hj3 dX13_isHoliday_8 ?_
    refine lv_icmp_ge (tgt := 32) hx hb dX13_isHoliday_9 (by decide) (fun c4 => ?_) (fun c4 => ?_)
    · replace hf := (if_pos c4).symm.trans hf
      exact hk v1_2 v2_2 _ _ _ _ hH (lv_sub hl [0, 1, 2] rfl) hf
    · replace hf := (if_neg c4).symm.trans hf
      refine hl_aload_n hx hb dX13_isHoliday_12 rfl (lv_at hl 2 rfl) ?_
      refine g13_3 hx hb hts hown hKs hH rfl ho m6_184 dX13_isHoliday_13 ?_
      refine lv_iconst (v := 2) hx hb dX13_isHoliday_16 (by decide) ?_
      refine lv_iload_n hx hb dX13_isHoliday_17 rfl (lv_at hl 1 rfl) ?_
      refine lv_iadd hx hb dX13_isHoliday_18 ?_
      obtain ⟨j5, hj5, hf⟩ := bnd hf
      refine hw_iald hx hb hKs hH ha2.1 ha2.2 hj5 dX13_isHoliday_19 ?_
      refine lv_iload_n hx hb dX13_isHoliday_20 rfl (lv_at hl 0 rfl) ?_
      refine lv_icmp_ne (tgt := 26) hx hb dX13_isHoliday_21 (by decide) (fun c6 => ?_) (fun c6 => ?_)
      · replace hf := (if_neg c6).symm.trans hf
        refine lv_iinc (v := (v2_2 + 1)) (lv' := [(2, .int ((v2_2 + 1))), (1, .int v1_2), (0, rv E (some o))]) hx hb dX13_isHoliday_26 hl (k := 1) rfl rfl (by decide) rfl (fun ls hl => ?_)
        refine lv_goto (tgt := 2) hx hb dX13_isHoliday_29 (by decide) ?_
        exact ih v1_2 (v2_2 + 1) _ _ _ _ hH (lv_sub hl [1, 0, 2] rfl) hf
      · replace hf := (if_pos c6).symm.trans hf
        refine lv_iconst (v := 1) hx hb dX13_isHoliday_24 (by decide) ?_
        exact hw_zret hx hb hret rfl hf hH hlocks dX13_isHoliday_25
set_option maxHeartbeats 4000000 in
set_option maxRecDepth 100000 in
theorem k_X13_isHoliday (l : Launch) (E : Ev) (K : Kd) (z : Nat) (o : Nat) (a_1 : Int32) (w : Wd) (ho : K o = some (11, 0)) {r : Bool} {w' : Wd} (hf : f_X13_isHoliday K o a_1 w = some (r, w')) : Met l yX13_isHoliday (Cond.code yX13_isHoliday cX13_isHoliday 3 (Option.some Jvm.ClassFile.FieldType.boolean) :: bt) ({ frames := 0, cells := 0, slots := 0, locals := 0 } : Room) (va_Pc [rv E (some o), .int a_1] (HB E K w z)) (QI E K z w' (b2i r)) 0 0 (hA E) := by
  refine Met.ofW (cc := cX13_isHoliday) (maxL := 3) (ret := (Option.some Jvm.ClassFile.FieldType.boolean)) (by decide) rfl ?_
  intro p e s m args below meth c s₁ B hml hv
  obtain ⟨rfl, hz, hP, hKs, hT, hb0⟩ := hv
  have C : CX p l e s m _ meth c cX13_isHoliday 3 RX13 (Option.some Jvm.ClassFile.FieldType.boolean) E := ⟨B.exec, B.bytes, hml, findClass_of_methodNamed B.named, fun w h => atoms_spec (ws := Cond.code yX13_isHoliday cX13_isHoliday 3 (Option.some Jvm.ClassFile.FieldType.boolean) :: bt) B.pre w (List.mem_cons_of_mem _ h), hKs, hT, by rw [hz]; exact hb0, B.notSynchronized, B.returns⟩
  have hH : HQ E K z w s s.heap [] := ⟨hP, va_S.rf, hz⟩
  obtain ⟨hx, hb, hml, hown, hts, hKs, hT, hb0, hlocks, hret⟩ := id C
  have hl := lv_entry [rv E (some o), .int a_1] (n := 3) (by simp [lg_len_nil, lg_len_i, lg_len_j, lg_len_q, lg_len_f, lg_len_d, lg_len_r])
  rw [lg_entry_eq]
  generalize (lg_sl [rv E (some o), .int a_1] ++ List.replicate (3 - (lg_sl [rv E (some o), .int a_1]).length) Slot.unset).toArray = ls at hl ⊢
  replace hl : lv_has ls 3 [(0, rv E (some o)), (1, .int a_1)] := by simpa only [lv_args, cat_q, cat_i, cat_j, reduceIte, Nat.reduceEqDiff, Nat.reduceAdd, Nat.zero_add] using hl
  generalize s.heap = H at hH ⊢
  unfold f_X13_isHoliday at hf
  refine lv_iconst (v := 0) hx hb dX13_isHoliday_0 (by decide) ?_
  refine lv_istore_n (i := 2) (lv' := [(2, .int 0), (0, rv E (some o)), (1, .int a_1)]) hx hb dX13_isHoliday_1 rfl hl (by decide) rfl (fun ls hl => ?_)
  refine l_X13_isHoliday_L2  C ho _ (fun v1_2 v2_2 w1 H locs ls hH hl hf => ?_) fu a_1 0 w _ _ _ hH (lv_sub hl [2, 0, 1] rfl) hf
  refine lv_iconst (v := 0) hx hb dX13_isHoliday_32 (by decide) ?_
  exact hw_zret hx hb hret rfl hf hH hlocks dX13_isHoliday_33
end
