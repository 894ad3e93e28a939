section
variable {p : Program} {l : Launch} {e : Env} {s : State} {m : MethodId} {args : Array Value} {below : List Frame} {meth : Method} {c : Code} {E : Ev} {K : Kd} {z : Nat}

theorem dX12_append_0 : decode cX12_append 0 = .ok (.bipush 24, 2) := by decide +kernel
theorem dX12_append_2 : decode cX12_append 2 = .ok (.istore_n 2, 1) := by decide +kernel
theorem dX12_append_3 : decode cX12_append 3 = .ok (.iload_n 2, 1) := by decide +kernel
theorem dX12_append_4 : decode cX12_append 4 = .ok (.ifCond .lt 44, 3) := by decide +kernel
theorem dX12_append_7 : decode cX12_append 7 = .ok (.aload_n 0, 1) := by decide +kernel
theorem dX12_append_8 : decode cX12_append 8 = .ok (.getfield 70, 3) := by decide +kernel
theorem dX12_append_11 : decode cX12_append 11 = .ok (.aload_n 0, 1) := by decide +kernel
theorem dX12_append_12 : decode cX12_append 12 = .ok (.getfield 12, 3) := by decide +kernel
theorem dX12_append_15 : decode cX12_append 15 = .ok (.arraylength, 1) := by decide +kernel
theorem dX12_append_16 : decode cX12_append 16 = .ok (.if_icmp .ge 26, 3) := by decide +kernel
theorem dX12_append_19 : decode cX12_append 19 = .ok (.aload_n 0, 1) := by decide +kernel
theorem dX12_append_20 : decode cX12_append 20 = .ok (.getfield 12, 3) := by decide +kernel
theorem dX12_append_23 : decode cX12_append 23 = .ok (.aload_n 0, 1) := by decide +kernel
theorem dX12_append_24 : decode cX12_append 24 = .ok (.getfield 70, 3) := by decide +kernel
theorem dX12_append_27 : decode cX12_append 27 = .ok (.iload_n 1, 1) := by decide +kernel
theorem dX12_append_28 : decode cX12_append 28 = .ok (.iload_n 2, 1) := by decide +kernel
theorem dX12_append_29 : decode cX12_append 29 = .ok (.iushr, 1) := by decide +kernel
theorem dX12_append_30 : decode cX12_append 30 = .ok (.i2b, 1) := by decide +kernel
theorem dX12_append_31 : decode cX12_append 31 = .ok (.bastore, 1) := by decide +kernel
theorem dX12_append_32 : decode cX12_append 32 = .ok (.aload_n 0, 1) := by decide +kernel
theorem dX12_append_33 : decode cX12_append 33 = .ok (.dup, 1) := by decide +kernel
theorem dX12_append_34 : decode cX12_append 34 = .ok (.getfield 70, 3) := by decide +kernel
theorem dX12_append_37 : decode cX12_append 37 = .ok (.iconst 1, 1) := by decide +kernel
theorem dX12_append_38 : decode cX12_append 38 = .ok (.iadd, 1) := by decide +kernel
theorem dX12_append_39 : decode cX12_append 39 = .ok (.putfield 70, 3) := by decide +kernel
theorem dX12_append_42 : decode cX12_append 42 = .ok (.iinc 2 (-8), 3) := by decide +kernel
theorem dX12_append_45 : decode cX12_append 45 = .ok (.goto (-42), 3) := by decide +kernel
theorem dX12_append_48 : decode cX12_append 48 = .ok (.return_, 1) := by decide +kernel
theorem hd_X12_append : yX12_append.cls = RX12 ∧ yX12_append.cls ≠ "java/lang/invoke/MethodHandle" ∧ yX12_append.cls ≠ "java/lang/invoke/VarHandle" ∧ (parseMethodDescriptor yX12_append.desc).map (fun d => d.parameters.length) = some 1 := by decide +kernel
theorem hs_X12_append : yX12_append.cls ≠ "java/lang/invoke/MethodHandle" ∧ yX12_append.cls ≠ "java/lang/invoke/VarHandle" ∧ (parseMethodDescriptor yX12_append.desc).map (fun d => d.parameters.length) = some 1 := by decide +kernel
set_option maxHeartbeats 4000000 in
set_option maxRecDepth 100000 in
theorem l_X12_append_L3 (C : CX p l e s m args meth c cX12_append 3 RX12 (Option.none : Option Jvm.ClassFile.FieldType) E) {o : Nat} (ho : K o = some (10, 0)) {w' : Wd} (k : Int32 → Int32 → Wd → Option Wd) (hk : ∀ (v1_3 : Int32) (v2_3 : Int32) (w : Wd) (H : Heap) (locs : List Loc) (ls : Array Slot), HQ E K z w s H locs → lv_has ls 3 [(1, .int v1_3), (2, .int v2_3), (0, rv E (some o))] → k v1_3 v2_3 w = some w' → W p l e ({ frames := 0, cells := 0, slots := 0, locals := 0 } : Room) s m args below meth c H locs 0 0 (MQ below (QV E K z w') args s 0 0 (hA E)) (F0 m 48 ls [])) : ∀ (n : Nat) (v1_3 : Int32) (v2_3 : Int32) (w : Wd) (H : Heap) (locs : List Loc) (ls : Array Slot), HQ E K z w s H locs → lv_has ls 3 [(1, .int v1_3), (2, .int v2_3), (0, rv E (some o))] → f_X12_append_L3 K o k n v1_3 v2_3 w = some w' → W p l e ({ frames := 0, cells := 0, slots := 0, locals := 0 } : Room) s m args below meth c H locs 0 0 (MQ below (QV E K z w') args s 0 0 (hA E)) (F0 m 3 ls []) := by
  obtain ⟨hx, hb, hml, hown, hts, hKs, hT, hb0, hlocks, hret⟩ := id C
  intro n
  induction n with
  | zero =>
    intro v1_3 v2_3 w H locs ls hH hl hf
    cases hf
  | succ n ih =>
    intro v1_3 v2_3 w H locs ls hH hl hf
    rw [f_X12_append_L3] at hf
    refine lv_iload_n hx hb dX12_append_3 rfl (lv_at hl 1 rfl) ?_
    refine lv_if_lt (tgt := 48) hx hb dX12_append_4 (by decide) (fun c2 => ?_) (fun c2 => ?_)
    · replace hf := (if_pos c2).symm.trans hf
      exact hk v1_3 v2_3 _ _ _ _ hH (lv_sub hl [0, 1, 2] rfl) hf
    · replace hf := (if_neg c2).symm.trans hf
      refine hl_aload_n hx hb dX12_append_7 rfl (lv_at hl 2 rfl) ?_
      refine g12_1 hx hb hts hown hKs hH rfl ho m2_210 dX12_append_8 ?_
      refine hl_aload_n hx hb dX12_append_11 rfl (lv_at hl 2 rfl) ?_
      refine g12_0 hx hb hts hown hKs hH rfl ho m2_209 dX12_append_12 ?_
      obtain ⟨a3, ha3, hf⟩ := bnd hf
      replace ha3 := cha_some ha3
      refine hw_alen21 hx hb hKs hH ha3.1 ha3.2 dX12_append_15 ?_
      refine lv_icmp_ge (tgt := 42) hx hb dX12_append_16 (by decide) (fun c4 => ?_) (fun c4 => ?_)
      · replace hf := (if_pos c4).symm.trans hf
        refine lv_iinc (v := (v2_3 + (-8))) (lv' := [(2, .int ((v2_3 + (-8)))), (1, .int v1_3), (0, rv E (some o))]) hx hb dX12_append_42 hl (k := 1) rfl rfl (by decide) rfl (fun ls hl => ?_)
        refine lv_goto (tgt := 3) hx hb dX12_append_45 (by decide) ?_
        exact ih v1_3 (v2_3 + (-8)) _ _ _ _ hH (lv_sub hl [1, 0, 2] rfl) hf
      · replace hf := (if_neg c4).symm.trans hf
        refine hl_aload_n hx hb dX12_append_19 rfl (lv_at hl 2 rfl) ?_
        refine g12_0 hx hb hts hown hKs hH rfl ho m2_209 dX12_append_20 ?_
        refine hl_aload_n hx hb dX12_append_23 rfl (lv_at hl 2 rfl) ?_
        refine g12_1 hx hb hts hown hKs hH rfl ho m2_210 dX12_append_24 ?_
        refine lv_iload_n hx hb dX12_append_27 rfl (lv_at hl 0 rfl) ?_
        refine lv_iload_n hx hb dX12_append_28 rfl (lv_at hl 1 rfl) ?_
        refine lv_iushr (v := (ushr v1_3 v2_3)) hx hb dX12_append_29 rfl ?_
        refine lv_i2b (v := ((ushr v1_3 v2_3).toInt8.toInt32)) hx hb dX12_append_30 rfl ?_
        obtain ⟨j5, hj5, hf⟩ := bnd hf
        obtain ⟨w6, hw6, hf⟩ := bnd hf
        replace hw6 := Option.some.inj hw6
        refine hw_bast (x := ((ushr v1_3 v2_3).toInt8.toInt32)) hx hb hKs hH ha3.1 ha3.2 hj5 dX12_append_31 (fun H locs hH => ?_)
        rw [hw6] at hH
        refine hl_aload_n hx hb dX12_append_32 rfl (lv_at hl 2 rfl) ?_
        refine lv_dup hx hb dX12_append_33 rv_cat ?_
        refine g12_1 hx hb hts hown hKs hH rfl ho m2_210 dX12_append_34 ?_
        refine lv_iconst (v := 1) hx hb dX12_append_37 (by decide) ?_
        refine lv_iadd hx hb dX12_append_38 ?_
        obtain ⟨w7, hw7, hf⟩ := bnd hf
        replace hw7 := Option.some.inj hw7
        refine p12_1 (v := ((wI w6 1201 o) + 1)) hx hb hts hown hKs hH rfl ho m2_210 dX12_append_39 (fun H locs hH => ?_)
        rw [hw7] at hH
        refine lv_iinc (v := (v2_3 + (-8))) (lv' := [(2, .int ((v2_3 + (-8)))), (1, .int v1_3), (0, rv E (some o))]) hx hb dX12_append_42 hl (k := 1) rfl rfl (by decide) rfl (fun ls hl => ?_)
        refine lv_goto (tgt := 3) hx hb dX12_append_45 (by decide) ?_
        exact ih v1_3 (v2_3 + (-8)) _ _ _ _ hH (lv_sub hl [1, 0, 2] rfl) hf
set_option maxHeartbeats 4000000 in
set_option maxRecDepth 100000 in
theorem k_X12_append (l : Launch) (E : Ev) (K : Kd) (z : Nat) (o : Nat) (a_1 : Int32) (w : Wd) (ho : K o = some (10, 0)) {w' : Wd} (hf : f_X12_append K o a_1 w = some w') : Met l yX12_append (Cond.code yX12_append cX12_append 3 (Option.none : Option Jvm.ClassFile.FieldType) :: bt) ({ frames := 0, cells := 0, slots := 0, locals := 0 } : Room) (va_Pc [rv E (some o), .int a_1] (HB E K w z)) (QV E K z w') 0 0 (hA E) := by
  refine Met.ofW (cc := cX12_append) (maxL := 3) (ret := (Option.none : Option Jvm.ClassFile.FieldType)) (by decide) rfl ?_
  intro p e s m args below meth c s₁ B hml hv
  obtain ⟨rfl, hz, hP, hKs, hT, hb0⟩ := hv
  have C : CX p l e s m _ meth c cX12_append 3 RX12 (Option.none : Option Jvm.ClassFile.FieldType) E := ⟨B.exec, B.bytes, hml, findClass_of_methodNamed B.named, fun w h => atoms_spec (ws := Cond.code yX12_append cX12_append 3 (Option.none : Option Jvm.ClassFile.FieldType) :: bt) B.pre w (List.mem_cons_of_mem _ h), hKs, hT, by rw [hz]; exact hb0, B.notSynchronized, B.returns⟩
  have hH : HQ E K z w s s.heap [] := ⟨hP, va_S.rf, hz⟩
  obtain ⟨hx, hb, hml, hown, hts, hKs, hT, hb0, hlocks, hret⟩ := id C
  have hl := lv_entry [rv E (some o), .int a_1] (n := 3) (by simp [lg_len_nil, lg_len_i, lg_len_j, lg_len_q, lg_len_f, lg_len_d, lg_len_r])
  rw [lg_entry_eq]
  generalize (lg_sl [rv E (some o), .int a_1] ++ List.replicate (3 - (lg_sl [rv E (some o), .int a_1]).length) Slot.unset).toArray = ls at hl ⊢
  replace hl : lv_has ls 3 [(0, rv E (some o)), (1, .int a_1)] := by simpa only [lv_args, cat_q, cat_i, cat_j, reduceIte, Nat.reduceEqDiff, Nat.reduceAdd, Nat.zero_add] using hl
  generalize s.heap = H at hH ⊢
  unfold f_X12_append at hf
  refine lv_bipush (v := 24) hx hb dX12_append_0 (by decide) ?_
  refine lv_istore_n (i := 2) (lv' := [(2, .int 24), (0, rv E (some o)), (1, .int a_1)]) hx hb dX12_append_2 rfl hl (by decide) rfl (fun ls hl => ?_)
  refine l_X12_append_L3  C ho _ (fun v1_3 v2_3 w1 H locs ls hH hl hf => ?_) fu a_1 24 w _ _ _ hH (lv_sub hl [2, 0, 1] rfl) hf
  exact hw_vret hx hb hret hf hH hlocks dX12_append_48

theorem dX12_truncate_0 : decode cX12_truncate 0 = .ok (.iload_n 1, 1) := by decide +kernel
theorem dX12_truncate_1 : decode cX12_truncate 1 = .ok (.ifCond .lt 11, 3) := by decide +kernel
theorem dX12_truncate_4 : decode cX12_truncate 4 = .ok (.iload_n 1, 1) := by decide +kernel
theorem dX12_truncate_5 : decode cX12_truncate 5 = .ok (.aload_n 0, 1) := by decide +kernel
theorem dX12_truncate_6 : decode cX12_truncate 6 = .ok (.getfield 70, 3) := by decide +kernel
theorem dX12_truncate_9 : decode cX12_truncate 9 = .ok (.if_icmp .le 5, 3) := by decide +kernel
theorem dX12_truncate_12 : decode cX12_truncate 12 = .ok (.iconst 0, 1) := by decide +kernel
theorem dX12_truncate_13 : decode cX12_truncate 13 = .ok (.ireturn, 1) := by decide +kernel
theorem dX12_truncate_14 : decode cX12_truncate 14 = .ok (.aload_n 0, 1) := by decide +kernel
theorem dX12_truncate_15 : decode cX12_truncate 15 = .ok (.iload_n 1, 1) := by decide +kernel
theorem dX12_truncate_16 : decode cX12_truncate 16 = .ok (.putfield 70, 3) := by decide +kernel
theorem dX12_truncate_19 : decode cX12_truncate 19 = .ok (.iconst 1, 1) := by decide +kernel
theorem dX12_truncate_20 : decode cX12_truncate 20 = .ok (.ireturn, 1) := by decide +kernel
theorem hd_X12_truncate : yX12_truncate.cls = RX12 ∧ yX12_truncate.cls ≠ "java/lang/invoke/MethodHandle" ∧ yX12_truncate.cls ≠ "java/lang/invoke/VarHandle" ∧ (parseMethodDescriptor yX12_truncate.desc).map (fun d => d.parameters.length) = some 1 := by decide +kernel
theorem hs_X12_truncate : yX12_truncate.cls ≠ "java/lang/invoke/MethodHandle" ∧ yX12_truncate.cls ≠ "java/lang/invoke/VarHandle" ∧ (parseMethodDescriptor yX12_truncate.desc).map (fun d => d.parameters.length) = some 1 := by decide +kernel
set_option maxHeartbeats 4000000 in
set_option maxRecDepth 100000 in
theorem k_X12_truncate (l : Launch) (E : Ev) (K : Kd) (z : Nat) (o : Nat) (a_1 : Int32) (w : Wd) (ho : K o = some (10, 0)) {r : Bool} {w' : Wd} (hf : f_X12_truncate K o a_1 w = some (r, w')) : Met l yX12_truncate (Cond.code yX12_truncate cX12_truncate 2 (Option.some Jvm.ClassFile.FieldType.boolean) :: bt) ({ frames := 0, cells := 0, slots := 0, locals := 0 } : Room) (va_Pc [rv E (some o), .int a_1] (HB E K w z)) (QI E K z w' (b2i r)) 0 0 (hA E) := by
  refine Met.ofW (cc := cX12_truncate) (maxL := 2) (ret := (Option.some Jvm.ClassFile.FieldType.boolean)) (by decide) rfl ?_
  intro p e s m args below meth c s₁ B hml hv
  obtain ⟨rfl, hz, hP, hKs, hT, hb0⟩ := hv
  have C : CX p l e s m _ meth c cX12_truncate 2 RX12 (Option.some Jvm.ClassFile.FieldType.boolean) E := ⟨B.exec, B.bytes, hml, findClass_of_methodNamed B.named, fun w h => atoms_spec (ws := Cond.code yX12_truncate cX12_truncate 2 (Option.some Jvm.ClassFile.FieldType.boolean) :: bt) B.pre w (List.mem_cons_of_mem _ h), hKs, hT, by rw [hz]; exact hb0, B.notSynchronized, B.returns⟩
  have hH : HQ E K z w s s.heap [] := ⟨hP, va_S.rf, hz⟩
  obtain ⟨hx, hb, hml, hown, hts, hKs, hT, hb0, hlocks, hret⟩ := id C
  have hl := lv_entry [rv E (some o), .int a_1] (n := 2) (by simp [lg_len_nil, lg_len_i, lg_len_j, lg_len_q, lg_len_f, lg_len_d, lg_len_r])
  rw [lg_entry_eq]
  generalize (lg_sl [rv E (some o), .int a_1] ++ List.replicate (2 - (lg_sl [rv E (some o), .int a_1]).length) Slot.unset).toArray = ls at hl ⊢
  replace hl : lv_has ls 2 [(0, rv E (some o)), (1, .int a_1)] := by simpa only [lv_args, cat_q, cat_i, cat_j, reduceIte, Nat.reduceEqDiff, Nat.reduceAdd, Nat.zero_add] using hl
  generalize s.heap = H at hH ⊢
  unfold f_X12_truncate at hf
  refine lv_iload_n hx hb dX12_truncate_0 rfl (lv_at hl 1 rfl) ?_
  refine lv_if_lt (tgt := 12) hx hb dX12_truncate_1 (by decide) (fun c1 => ?_) (fun c1 => ?_)
  · replace hf := (if_pos c1).symm.trans hf
    refine lv_iconst (v := 0) hx hb dX12_truncate_12 (by decide) ?_
    exact hw_zret hx hb hret rfl hf hH hlocks dX12_truncate_13
  · replace hf := (if_neg c1).symm.trans hf
    refine lv_iload_n hx hb dX12_truncate_4 rfl (lv_at hl 1 rfl) ?_
    refine hl_aload_n hx hb dX12_truncate_5 rfl (lv_at hl 0 rfl) ?_
    refine g12_1 hx hb hts hown hKs hH rfl ho m2_210 dX12_truncate_6 ?_
    refine lv_icmp_le (tgt := 14) hx hb dX12_truncate_9 (by decide) (fun c2 => ?_) (fun c2 => ?_)
    · replace hf := (if_pos c2).symm.trans hf
      refine hl_aload_n hx hb dX12_truncate_14 rfl (lv_at hl 0 rfl) ?_
      refine lv_iload_n hx hb dX12_truncate_15 rfl (lv_at hl 1 rfl) ?_
      obtain ⟨w3, hw3, hf⟩ := bnd hf
      replace hw3 := Option.some.inj hw3
      refine p12_1 (v := a_1) hx hb hts hown hKs hH rfl ho m2_210 dX12_truncate_16 (fun H locs hH => ?_)
      rw [hw3] at hH
      refine lv_iconst (v := 1) hx hb dX12_truncate_19 (by decide) ?_
      exact hw_zret hx hb hret rfl hf hH hlocks dX12_truncate_20
    · replace hf := (if_neg c2).symm.trans hf
      refine lv_iconst (v := 0) hx hb dX12_truncate_12 (by decide) ?_
      exact hw_zret hx hb hret rfl hf hH hlocks dX12_truncate_13

theorem dX12_requireComingDay_0 : decode cX12_requireComingDay 0 = .ok (.iload_n 1, 1) := by decide +kernel
theorem dX12_requireComingDay_1 : decode cX12_requireComingDay 1 = .ok (.aload_n 0, 1) := by decide +kernel
theorem dX12_requireComingDay_2 : decode cX12_requireComingDay 2 = .ok (.getfield 35, 3) := by decide +kernel
theorem dX12_requireComingDay_5 : decode cX12_requireComingDay 5 = .ok (.getfield 124, 3) := by decide +kernel
theorem dX12_requireComingDay_8 : decode cX12_requireComingDay 8 = .ok (.if_icmp .lt 10, 3) := by decide +kernel
theorem dX12_requireComingDay_11 : decode cX12_requireComingDay 11 = .ok (.iload_n 1, 1) := by decide +kernel
theorem dX12_requireComingDay_12 : decode cX12_requireComingDay 12 = .ok (.sipush 600, 3) := by decide +kernel
theorem dX12_requireComingDay_15 : decode cX12_requireComingDay 15 = .ok (.if_icmp .lt 11, 3) := by decide +kernel
theorem dX12_requireComingDay_18 : decode cX12_requireComingDay 18 = .ok (.new 133, 3) := by decide +kernel
theorem dX12_requireComingDay_21 : decode cX12_requireComingDay 21 = .ok (.dup, 1) := by decide +kernel
theorem dX12_requireComingDay_22 : decode cX12_requireComingDay 22 = .ok (.invokespecial 135, 3) := by decide +kernel
theorem dX12_requireComingDay_25 : decode cX12_requireComingDay 25 = .ok (.athrow, 1) := by decide +kernel
theorem dX12_requireComingDay_26 : decode cX12_requireComingDay 26 = .ok (.return_, 1) := by decide +kernel
theorem hd_X12_requireComingDay : yX12_requireComingDay.cls = RX12 ∧ yX12_requireComingDay.cls ≠ "java/lang/invoke/MethodHandle" ∧ yX12_requireComingDay.cls ≠ "java/lang/invoke/VarHandle" ∧ (parseMethodDescriptor yX12_requireComingDay.desc).map (fun d => d.parameters.length) = some 1 := by decide +kernel
theorem hs_X12_requireComingDay : yX12_requireComingDay.cls ≠ "java/lang/invoke/MethodHandle" ∧ yX12_requireComingDay.cls ≠ "java/lang/invoke/VarHandle" ∧ (parseMethodDescriptor yX12_requireComingDay.desc).map (fun d => d.parameters.length) = some 1 := by decide +kernel
set_option maxHeartbeats 4000000 in
set_option maxRecDepth 100000 in
theorem k_X12_requireComingDay (l : Launch) (hls : l.stackTraces = false) (E : Ev) (K : Kd) (z : Nat) (o : Nat) (a_1 : Int32) (w : Wd) (ho : K o = some (10, 0)) {r : Unit ⊕ Nat} {w' : Wd} (hf : f_X12_requireComingDay K o a_1 w = some (r, w')) : vx_Met l yX12_requireComingDay (Cond.code yX12_requireComingDay cX12_requireComingDay 2 (Option.none : Option Jvm.ClassFile.FieldType) :: bt) ({ frames := 6, cells := 1, slots := 6, locals := 90 } : Room) (va_Pc [rv E (some o), .int a_1] (HB E K w z)) (XV E K z w' r) (XX E K w' r) 1 6 (hA E) := by
  refine vx_ofW (cc := cX12_requireComingDay) (maxL := 2) (ret := (Option.none : Option Jvm.ClassFile.FieldType)) (by decide) rfl ?_
  intro p e s m args below meth c s₁ B hml hout hv
  obtain ⟨rfl, hz, hP, hKs, hT, hb0⟩ := hv
  have C : CX p l e s m _ meth c cX12_requireComingDay 2 RX12 (Option.none : Option Jvm.ClassFile.FieldType) E := ⟨B.exec, B.bytes, hml, findClass_of_methodNamed B.named, fun w h => atoms_spec (ws := Cond.code yX12_requireComingDay cX12_requireComingDay 2 (Option.none : Option Jvm.ClassFile.FieldType) :: bt) B.pre w (List.mem_cons_of_mem _ h), hKs, hT, by rw [hz]; exact hb0, B.notSynchronized, B.returns⟩
  have hH : HQ E K z w s s.heap [] := ⟨hP, va_S.rf, hz⟩
  obtain ⟨hx, hb, hml, hown, hts, hKs, hT, hb0, hlocks, hret⟩ := id C
  have hl := lv_entry [rv E (some o), .int a_1] (n := 2) (by simp [lg_len_nil, lg_len_i, lg_len_j, lg_len_q, lg_len_f, lg_len_d, lg_len_r])
  rw [lg_entry_eq]
  generalize (lg_sl [rv E (some o), .int a_1] ++ List.replicate (2 - (lg_sl [rv E (some o), .int a_1]).length) Slot.unset).toArray = ls at hl ⊢
  replace hl : lv_has ls 2 [(0, rv E (some o)), (1, .int a_1)] := by simpa only [lv_args, cat_q, cat_i, cat_j, reduceIte, Nat.reduceEqDiff, Nat.reduceAdd, Nat.zero_add] using hl
  generalize s.heap = H at hH ⊢
  unfold f_X12_requireComingDay at hf
  refine lv_iload_n hx hb dX12_requireComingDay_0 rfl (lv_at hl 1 rfl) ?_
  refine hl_aload_n hx hb dX12_requireComingDay_1 rfl (lv_at hl 0 rfl) ?_
  refine g12_5 hx hb hts hown hKs hH rfl ho m2_214 dX12_requireComingDay_2 ?_
  obtain ⟨a1, ha1, hf⟩ := bnd hf
  replace ha1 := chk_some ha1
  refine gn10_1 hx hb hts hown hKs hH ha1.1 ha1.2 m2_118 dX12_requireComingDay_5 ?_
  refine lv_icmp_lt (tgt := 18) hx hb dX12_requireComingDay_8 (by decide) (fun c2 => ?_) (fun c2 => ?_)
  · replace hf := (if_pos c2).symm.trans hf
    exact hx_throw hx hb hls (code := 2) hml hl.1 hown hts hKs hT hb0 hH (by decide) rfl m3_54 m1_29 hat_RX12_135 dX12_requireComingDay_18 dX12_requireComingDay_21 dX12_requireComingDay_22 dX12_requireComingDay_25 hout (Nat.le_of_ble_eq_true rfl) rc0 (Nat.le_of_ble_eq_true rfl) (Nat.le_of_ble_eq_true rfl) (Nat.le_of_ble_eq_true rfl) hlocks hf (Nat.le_of_ble_eq_true rfl) (Nat.le_of_ble_eq_true rfl)
  · replace hf := (if_neg c2).symm.trans hf
    refine lv_iload_n hx hb dX12_requireComingDay_11 rfl (lv_at hl 1 rfl) ?_
    refine lv_sipush (v := 600) hx hb dX12_requireComingDay_12 (by decide) ?_
    refine lv_icmp_lt (tgt := 26) hx hb dX12_requireComingDay_15 (by decide) (fun c3 => ?_) (fun c3 => ?_)
    · replace hf := (if_pos c3).symm.trans hf
      exact hx_vret hx hb (Nat.le_of_ble_eq_true rfl) (Nat.le_of_ble_eq_true rfl) hret hf hH hlocks dX12_requireComingDay_26
    · replace hf := (if_neg c3).symm.trans hf
      exact hx_throw hx hb hls (code := 2) hml hl.1 hown hts hKs hT hb0 hH (by decide) rfl m3_54 m1_29 hat_RX12_135 dX12_requireComingDay_18 dX12_requireComingDay_21 dX12_requireComingDay_22 dX12_requireComingDay_25 hout (Nat.le_of_ble_eq_true rfl) rc0 (Nat.le_of_ble_eq_true rfl) (Nat.le_of_ble_eq_true rfl) (Nat.le_of_ble_eq_true rfl) hlocks hf (Nat.le_of_ble_eq_true rfl) (Nat.le_of_ble_eq_true rfl)

theorem dX12_requireReason_0 : decode cX12_requireReason 0 = .ok (.iload_n 1, 1) := by decide +kernel
theorem dX12_requireReason_1 : decode cX12_requireReason 1 = .ok (.ifCond .lt 8, 3) := by decide +kernel
theorem dX12_requireReason_4 : decode cX12_requireReason 4 = .ok (.iload_n 1, 1) := by decide +kernel
theorem dX12_requireReason_5 : decode cX12_requireReason 5 = .ok (.iconst 4, 1) := by decide +kernel
theorem dX12_requireReason_6 : decode cX12_requireReason 6 = .ok (.if_icmp .lt 11, 3) := by decide +kernel
theorem dX12_requireReason_9 : decode cX12_requireReason 9 = .ok (.new 133, 3) := by decide +kernel
theorem dX12_requireReason_12 : decode cX12_requireReason 12 = .ok (.dup, 1) := by decide +kernel
theorem dX12_requireReason_13 : decode cX12_requireReason 13 = .ok (.invokespecial 135, 3) := by decide +kernel
theorem dX12_requireReason_16 : decode cX12_requireReason 16 = .ok (.athrow, 1) := by decide +kernel
theorem dX12_requireReason_17 : decode cX12_requireReason 17 = .ok (.return_, 1) := by decide +kernel
theorem hd_X12_requireReason : yX12_requireReason.cls = RX12 ∧ yX12_requireReason.cls ≠ "java/lang/invoke/MethodHandle" ∧ yX12_requireReason.cls ≠ "java/lang/invoke/VarHandle" ∧ (parseMethodDescriptor yX12_requireReason.desc).map (fun d => d.parameters.length) = some 1 := by decide +kernel
theorem hs_X12_requireReason : yX12_requireReason.cls ≠ "java/lang/invoke/MethodHandle" ∧ yX12_requireReason.cls ≠ "java/lang/invoke/VarHandle" ∧ (parseMethodDescriptor yX12_requireReason.desc).map (fun d => d.parameters.length) = some 1 := by decide +kernel
set_option maxHeartbeats 4000000 in
set_option maxRecDepth 100000 in
theorem k_X12_requireReason (l : Launch) (hls : l.stackTraces = false) (E : Ev) (K : Kd) (z : Nat) (o : Nat) (a_1 : Int32) (w : Wd) (ho : K o = some (10, 0)) {r : Unit ⊕ Nat} {w' : Wd} (hf : f_X12_requireReason K o a_1 w = some (r, w')) : vx_Met l yX12_requireReason (Cond.code yX12_requireReason cX12_requireReason 2 (Option.none : Option Jvm.ClassFile.FieldType) :: bt) ({ frames := 6, cells := 1, slots := 6, locals := 90 } : Room) (va_Pc [rv E (some o), .int a_1] (HB E K w z)) (XV E K z w' r) (XX E K w' r) 1 6 (hA E) := by
  refine vx_ofW (cc := cX12_requireReason) (maxL := 2) (ret := (Option.none : Option Jvm.ClassFile.FieldType)) (by decide) rfl ?_
  intro p e s m args below meth c s₁ B hml hout hv
  obtain ⟨rfl, hz, hP, hKs, hT, hb0⟩ := hv
  have C : CX p l e s m _ meth c cX12_requireReason 2 RX12 (Option.none : Option Jvm.ClassFile.FieldType) E := ⟨B.exec, B.bytes, hml, findClass_of_methodNamed B.named, fun w h => atoms_spec (ws := Cond.code yX12_requireReason cX12_requireReason 2 (Option.none : Option Jvm.ClassFile.FieldType) :: bt) B.pre w (List.mem_cons_of_mem _ h), hKs, hT, by rw [hz]; exact hb0, B.notSynchronized, B.returns⟩
  have hH : HQ E K z w s s.heap [] := ⟨hP, va_S.rf, hz⟩
  obtain ⟨hx, hb, hml, hown, hts, hKs, hT, hb0, hlocks, hret⟩ := id C
  have hl := lv_entry [rv E (some o), .int a_1] (n := 2) (by simp [lg_len_nil, lg_len_i, lg_len_j, lg_len_q, lg_len_f, lg_len_d, lg_len_r])
  rw [lg_entry_eq]
  generalize (lg_sl [rv E (some o), .int a_1] ++ List.replicate (2 - (lg_sl [rv E (some o), .int a_1]).length) Slot.unset).toArray = ls at hl ⊢
  replace hl : lv_has ls 2 [(0, rv E (some o)), (1, .int a_1)] := by simpa only [lv_args, cat_q, cat_i, cat_j, reduceIte, Nat.reduceEqDiff, Nat.reduceAdd, Nat.zero_add] using hl
  generalize s.heap = H at hH ⊢
  unfold f_X12_requireReason at hf
  refine lv_iload_n hx hb dX12_requireReason_0 rfl (lv_at hl 1 rfl) ?_
  refine lv_if_lt (tgt := 9) hx hb dX12_requireReason_1 (by decide) (fun c1 => ?_) (fun c1 => ?_)
  · replace hf := (if_pos c1).symm.trans hf
    exact hx_throw hx hb hls (code := 2) hml hl.1 hown hts hKs hT hb0 hH (by decide) rfl m3_54 m1_29 hat_RX12_135 dX12_requireReason_9 dX12_requireReason_12 dX12_requireReason_13 dX12_requireReason_16 hout (Nat.le_of_ble_eq_true rfl) rc0 (Nat.le_of_ble_eq_true rfl) (Nat.le_of_ble_eq_true rfl) (Nat.le_of_ble_eq_true rfl) hlocks hf (Nat.le_of_ble_eq_true rfl) (Nat.le_of_ble_eq_true rfl)
  · replace hf := (if_neg c1).symm.trans hf
    refine lv_iload_n hx hb dX12_requireReason_4 rfl (lv_at hl 1 rfl) ?_
    refine lv_iconst (v := 4) hx hb dX12_requireReason_5 (by decide) ?_
    refine lv_icmp_lt (tgt := 17) hx hb dX12_requireReason_6 (by decide) (fun c2 => ?_) (fun c2 => ?_)
    · replace hf := (if_pos c2).symm.trans hf
      exact hx_vret hx hb (Nat.le_of_ble_eq_true rfl) (Nat.le_of_ble_eq_true rfl) hret hf hH hlocks dX12_requireReason_17
    · replace hf := (if_neg c2).symm.trans hf
      exact hx_throw hx hb hls (code := 2) hml hl.1 hown hts hKs hT hb0 hH (by decide) rfl m3_54 m1_29 hat_RX12_135 dX12_requireReason_9 dX12_requireReason_12 dX12_requireReason_13 dX12_requireReason_16 hout (Nat.le_of_ble_eq_true rfl) rc0 (Nat.le_of_ble_eq_true rfl) (Nat.le_of_ble_eq_true rfl) (Nat.le_of_ble_eq_true rfl) hlocks hf (Nat.le_of_ble_eq_true rfl) (Nat.le_of_ble_eq_true rfl)

theorem dX12_isLetter_0 : decode cX12_isLetter 0 = .ok (.iload_n 0, 1) := by decide +kernel
theorem dX12_isLetter_1 : decode cX12_isLetter 1 = .ok (.bipush 97, 2) := by decide +kernel
theorem dX12_isLetter_3 : decode cX12_isLetter 3 = .ok (.if_icmp .lt 13, 3) := by decide +kernel
theorem dX12_isLetter_6 : decode cX12_isLetter 6 = .ok (.iload_n 0, 1) := by decide +kernel
theorem dX12_isLetter_7 : decode cX12_isLetter 7 = .ok (.bipush 122, 2) := by decide +kernel
theorem dX12_isLetter_9 : decode cX12_isLetter 9 = .ok (.if_icmp .gt 7, 3) := by decide +kernel
theorem dX12_isLetter_12 : decode cX12_isLetter 12 = .ok (.iconst 1, 1) := by decide +kernel
theorem dX12_isLetter_13 : decode cX12_isLetter 13 = .ok (.goto 4, 3) := by decide +kernel
theorem dX12_isLetter_16 : decode cX12_isLetter 16 = .ok (.iconst 0, 1) := by decide +kernel
theorem dX12_isLetter_17 : decode cX12_isLetter 17 = .ok (.ireturn, 1) := by decide +kernel
theorem hs_X12_isLetter : yX12_isLetter.cls ≠ "java/lang/invoke/MethodHandle" ∧ yX12_isLetter.cls ≠ "java/lang/invoke/VarHandle" ∧ (parseMethodDescriptor yX12_isLetter.desc).map (fun d => d.parameters.length) = some 1 := by decide +kernel
set_option maxHeartbeats 4000000 in
set_option maxRecDepth 100000 in
theorem k_X12_isLetter (l : Launch) (E : Ev) (K : Kd) (z : Nat) (a_0 : Int32) (w : Wd) {r : Bool} {w' : Wd} (hf : f_X12_isLetter K a_0 w = some (r, w')) : Met l yX12_isLetter (Cond.code yX12_isLetter cX12_isLetter 1 (Option.some Jvm.ClassFile.FieldType.boolean) :: bt) ({ frames := 0, cells := 0, slots := 0, locals := 0 } : Room) (va_Pc [.int a_0] (HB E K w z)) (QI E K z w' (b2i r)) 0 0 (hA E) := by
  refine Met.ofW (cc := cX12_isLetter) (maxL := 1) (ret := (Option.some Jvm.ClassFile.FieldType.boolean)) (by decide) rfl ?_
  intro p e s m args below meth c s₁ B hml hv
  obtain ⟨rfl, hz, hP, hKs, hT, hb0⟩ := hv
  have C : CX p l e s m _ meth c cX12_isLetter 1 RX12 (Option.some Jvm.ClassFile.FieldType.boolean) E := ⟨B.exec, B.bytes, hml, findClass_of_methodNamed B.named, fun w h => atoms_spec (ws := Cond.code yX12_isLetter cX12_isLetter 1 (Option.some Jvm.ClassFile.FieldType.boolean) :: bt) B.pre w (List.mem_cons_of_mem _ h), hKs, hT, by rw [hz]; exact hb0, B.notSynchronized, B.returns⟩
  have hH : HQ E K z w s s.heap [] := ⟨hP, va_S.rf, hz⟩
  obtain ⟨hx, hb, hml, hown, hts, hKs, hT, hb0, hlocks, hret⟩ := id C
  have hl := lv_entry [.int a_0] (n := 1) (by simp [lg_len_nil, lg_len_i, lg_len_j, lg_len_q, lg_len_f, lg_len_d, lg_len_r])
  rw [lg_entry_eq]
  generalize (lg_sl [.int a_0] ++ List.replicate (1 - (lg_sl [.int a_0]).length) Slot.unset).toArray = ls at hl ⊢
  replace hl : lv_has ls 1 [(0, .int a_0)] := by simpa only [lv_args, cat_q, cat_i, cat_j, reduceIte, Nat.reduceEqDiff, Nat.reduceAdd, Nat.zero_add] using hl
  generalize s.heap = H at hH ⊢
  unfold f_X12_isLetter at hf
  refine lv_iload_n hx hb dX12_isLetter_0 rfl (lv_at hl 0 rfl) ?_
  refine lv_bipush (v := 97) hx hb dX12_isLetter_1 (by decide) ?_
  refine lv_icmp_lt (tgt := 16) hx hb dX12_isLetter_3 (by decide) (fun c1 => ?_) (fun c1 => ?_)
  · replace hf := (if_pos c1).symm.trans hf
    refine lv_iconst (v := 0) hx hb dX12_isLetter_16 (by decide) ?_
    exact hw_zret hx hb hret rfl hf hH hlocks dX12_isLetter_17
  · replace hf := (if_neg c1).symm.trans hf
    refine lv_iload_n hx hb dX12_isLetter_6 rfl (lv_at hl 0 rfl) ?_
    refine lv_bipush (v := 122) hx hb dX12_isLetter_7 (by decide) ?_
    refine lv_icmp_gt (tgt := 16) hx hb dX12_isLetter_9 (by decide) (fun c2 => ?_) (fun c2 => ?_)
    · replace hf := (if_pos c2).symm.trans hf
      refine lv_iconst (v := 0) hx hb dX12_isLetter_16 (by decide) ?_
      exact hw_zret hx hb hret rfl hf hH hlocks dX12_isLetter_17
    · replace hf := (if_neg c2).symm.trans hf
      refine lv_iconst (v := 1) hx hb dX12_isLetter_12 (by decide) ?_
      refine lv_goto (tgt := 17) hx hb dX12_isLetter_13 (by decide) ?_
      exact hw_zret hx hb hret rfl hf hH hlocks dX12_isLetter_17

theorem dX12_has_0 : decode cX12_has 0 = .ok (.iload_n 0, 1) := by decide +kernel
theorem dX12_has_1 : decode cX12_has 1 = .ok (.iload_n 1, 1) := by decide +kernel
theorem dX12_has_2 : decode cX12_has 2 = .ok (.iushr, 1) := by decide +kernel
theorem dX12_has_3 : decode cX12_has 3 = .ok (.iconst 1, 1) := by decide +kernel
theorem dX12_has_4 : decode cX12_has 4 = .ok (.iand, 1) := by decide +kernel
theorem dX12_has_5 : decode cX12_has 5 = .ok (.ifCond .eq 7, 3) := by decide +kernel
theorem dX12_has_8 : decode cX12_has 8 = .ok (.iconst 1, 1) := by decide +kernel
theorem dX12_has_9 : decode cX12_has 9 = .ok (.goto 4, 3) := by decide +kernel
theorem dX12_has_12 : decode cX12_has 12 = .ok (.iconst 0, 1) := by decide +kernel
theorem dX12_has_13 : decode cX12_has 13 = .ok (.ireturn, 1) := by decide +kernel
theorem hs_X12_has : yX12_has.cls ≠ "java/lang/invoke/MethodHandle" ∧ yX12_has.cls ≠ "java/lang/invoke/VarHandle" ∧ (parseMethodDescriptor yX12_has.desc).map (fun d => d.parameters.length) = some 2 := by decide +kernel
set_option maxHeartbeats 4000000 in
set_option maxRecDepth 100000 in
theorem k_X12_has (l : Launch) (E : Ev) (K : Kd) (z : Nat) (a_0 : Int32) (a_1 : Int32) (w : Wd) {r : Bool} {w' : Wd} (hf : f_X12_has K a_0 a_1 w = some (r, w')) : Met l yX12_has (Cond.code yX12_has cX12_has 2 (Option.some Jvm.ClassFile.FieldType.boolean) :: bt) ({ frames := 0, cells := 0, slots := 0, locals := 0 } : Room) (va_Pc [.int a_0, .int a_1] (HB E K w z)) (QI E K z w' (b2i r)) 0 0 (hA E) := by
  refine Met.ofW (cc := cX12_has) (maxL := 2) (ret := (Option.some Jvm.ClassFile.FieldType.boolean)) (by decide) rfl ?_
  intro p e s m args below meth c s₁ B hml hv
  obtain ⟨rfl, hz, hP, hKs, hT, hb0⟩ := hv
  have C : CX p l e s m _ meth c cX12_has 2 RX12 (Option.some Jvm.ClassFile.FieldType.boolean) E := ⟨B.exec, B.bytes, hml, findClass_of_methodNamed B.named, fun w h => atoms_spec (ws := Cond.code yX12_has cX12_has 2 (Option.some Jvm.ClassFile.FieldType.boolean) :: bt) B.pre w (List.mem_cons_of_mem _ h), hKs, hT, by rw [hz]; exact hb0, B.notSynchronized, B.returns⟩
  have hH : HQ E K z w s s.heap [] := ⟨hP, va_S.rf, hz⟩
  obtain ⟨hx, hb, hml, hown, hts, hKs, hT, hb0, hlocks, hret⟩ := id C
  have hl := lv_entry [.int a_0, .int a_1] (n := 2) (by simp [lg_len_nil, lg_len_i, lg_len_j, lg_len_q, lg_len_f, lg_len_d, lg_len_r])
  rw [lg_entry_eq]
  generalize (lg_sl [.int a_0, .int a_1] ++ List.replicate (2 - (lg_sl [.int a_0, .int a_1]).length) Slot.unset).toArray = ls at hl ⊢
  replace hl : lv_has ls 2 [(0, .int a_0), (1, .int a_1)] := by simpa only [lv_args, cat_q, cat_i, cat_j, reduceIte, Nat.reduceEqDiff, Nat.reduceAdd, Nat.zero_add] using hl
  generalize s.heap = H at hH ⊢
  unfold f_X12_has at hf
  refine lv_iload_n hx hb dX12_has_0 rfl (lv_at hl 0 rfl) ?_
  refine lv_iload_n hx hb dX12_has_1 rfl (lv_at hl 1 rfl) ?_
  refine lv_iushr (v := (ushr a_0 a_1)) hx hb dX12_has_2 rfl ?_
  refine lv_iconst (v := 1) hx hb dX12_has_3 (by decide) ?_
  refine lv_iand hx hb dX12_has_4 ?_
  refine lv_if_eq (tgt := 12) hx hb dX12_has_5 (by decide) (fun c1 => ?_) (fun c1 => ?_)
  · replace hf := (if_pos c1).symm.trans hf
    refine lv_iconst (v := 0) hx hb dX12_has_12 (by decide) ?_
    exact hw_zret hx hb hret rfl hf hH hlocks dX12_has_13
  · replace hf := (if_neg c1).symm.trans hf
    refine lv_iconst (v := 1) hx hb dX12_has_8 (by decide) ?_
    refine lv_goto (tgt := 13) hx hb dX12_has_9 (by decide) ?_
    exact hw_zret hx hb hret rfl hf hH hlocks dX12_has_13

theorem dX12_slotSet_0 : decode cX12_slotSet 0 = .ok (.iconst 1, 1) := by decide +kernel
theorem dX12_slotSet_1 : decode cX12_slotSet 1 = .ok (.iload_n 1, 1) := by decide +kernel
theorem dX12_slotSet_2 : decode cX12_slotSet 2 = .ok (.ishl, 1) := by decide +kernel
theorem dX12_slotSet_3 : decode cX12_slotSet 3 = .ok (.iconst 1, 1) := by decide +kernel
theorem dX12_slotSet_4 : decode cX12_slotSet 4 = .ok (.isub, 1) := by decide +kernel
theorem dX12_slotSet_5 : decode cX12_slotSet 5 = .ok (.iload_n 0, 1) := by decide +kernel
theorem dX12_slotSet_6 : decode cX12_slotSet 6 = .ok (.ishl, 1) := by decide +kernel
theorem dX12_slotSet_7 : decode cX12_slotSet 7 = .ok (.ireturn, 1) := by decide +kernel
theorem hs_X12_slotSet : yX12_slotSet.cls ≠ "java/lang/invoke/MethodHandle" ∧ yX12_slotSet.cls ≠ "java/lang/invoke/VarHandle" ∧ (parseMethodDescriptor yX12_slotSet.desc).map (fun d => d.parameters.length) = some 2 := by decide +kernel
set_option maxHeartbeats 4000000 in
set_option maxRecDepth 100000 in
theorem k_X12_slotSet (l : Launch) (E : Ev) (K : Kd) (z : Nat) (a_0 : Int32) (a_1 : Int32) (w : Wd) {r : Int32} {w' : Wd} (hf : f_X12_slotSet K a_0 a_1 w = some (r, w')) : Met l yX12_slotSet (Cond.code yX12_slotSet cX12_slotSet 2 (Option.some Jvm.ClassFile.FieldType.int) :: bt) ({ frames := 0, cells := 0, slots := 0, locals := 0 } : Room) (va_Pc [.int a_0, .int a_1] (HB E K w z)) (QI E K z w' r) 0 0 (hA E) := by
  refine Met.ofW (cc := cX12_slotSet) (maxL := 2) (ret := (Option.some Jvm.ClassFile.FieldType.int)) (by decide) rfl ?_
  intro p e s m args below meth c s₁ B hml hv
  obtain ⟨rfl, hz, hP, hKs, hT, hb0⟩ := hv
  have C : CX p l e s m _ meth c cX12_slotSet 2 RX12 (Option.some Jvm.ClassFile.FieldType.int) E := ⟨B.exec, B.bytes, hml, findClass_of_methodNamed B.named, fun w h => atoms_spec (ws := Cond.code yX12_slotSet cX12_slotSet 2 (Option.some Jvm.ClassFile.FieldType.int) :: bt) B.pre w (List.mem_cons_of_mem _ h), hKs, hT, by rw [hz]; exact hb0, B.notSynchronized, B.returns⟩
  have hH : HQ E K z w s s.heap [] := ⟨hP, va_S.rf, hz⟩
  obtain ⟨hx, hb, hml, hown, hts, hKs, hT, hb0, hlocks, hret⟩ := id C
  have hl := lv_entry [.int a_0, .int a_1] (n := 2) (by simp [lg_len_nil, lg_len_i, lg_len_j, lg_len_q, lg_len_f, lg_len_d, lg_len_r])
  rw [lg_entry_eq]
  generalize (lg_sl [.int a_0, .int a_1] ++ List.replicate (2 - (lg_sl [.int a_0, .int a_1]).length) Slot.unset).toArray = ls at hl ⊢
  replace hl : lv_has ls 2 [(0, .int a_0), (1, .int a_1)] := by simpa only [lv_args, cat_q, cat_i, cat_j, reduceIte, Nat.reduceEqDiff, Nat.reduceAdd, Nat.zero_add] using hl
  generalize s.heap = H at hH ⊢
  unfold f_X12_slotSet at hf
  refine lv_iconst (v := 1) hx hb dX12_slotSet_0 (by decide) ?_
  refine lv_iload_n hx hb dX12_slotSet_1 rfl (lv_at hl 1 rfl) ?_
  refine lv_ishl hx hb dX12_slotSet_2 ?_
  refine lv_iconst (v := 1) hx hb dX12_slotSet_3 (by decide) ?_
  refine lv_isub hx hb dX12_slotSet_4 ?_
  refine lv_iload_n hx hb dX12_slotSet_5 rfl (lv_at hl 0 rfl) ?_
  refine lv_ishl hx hb dX12_slotSet_6 ?_
  exact hw_iret hx hb hret hf hH hlocks dX12_slotSet_7

theorem dX1_init_0 : decode cX1_init 0 = .ok (.aload_n 0, 1) := by decide +kernel
theorem dX1_init_1 : decode cX1_init 1 = .ok (.invokespecial 3, 3) := by decide +kernel
theorem dX1_init_4 : decode cX1_init 4 = .ok (.aload_n 0, 1) := by decide +kernel
theorem dX1_init_5 : decode cX1_init 5 = .ok (.bipush 12, 2) := by decide +kernel
theorem dX1_init_7 : decode cX1_init 7 = .ok (.newarray .int, 2) := by decide +kernel
theorem dX1_init_9 : decode cX1_init 9 = .ok (.putfield 9, 3) := by decide +kernel
theorem dX1_init_12 : decode cX1_init 12 = .ok (.aload_n 0, 1) := by decide +kernel
theorem dX1_init_13 : decode cX1_init 13 = .ok (.bipush 6, 2) := by decide +kernel
theorem dX1_init_15 : decode cX1_init 15 = .ok (.newarray .int, 2) := by decide +kernel
theorem dX1_init_17 : decode cX1_init 17 = .ok (.putfield 15, 3) := by decide +kernel
theorem dX1_init_20 : decode cX1_init 20 = .ok (.aload_n 0, 1) := by decide +kernel
theorem dX1_init_21 : decode cX1_init 21 = .ok (.sipush 156, 3) := by decide +kernel
theorem dX1_init_24 : decode cX1_init 24 = .ok (.newarray .int, 2) := by decide +kernel
theorem dX1_init_26 : decode cX1_init 26 = .ok (.putfield 18, 3) := by decide +kernel
theorem dX1_init_29 : decode cX1_init 29 = .ok (.return_, 1) := by decide +kernel
theorem hd_X1_init : yX1_init.cls = RX1 ∧ yX1_init.cls ≠ "java/lang/invoke/MethodHandle" ∧ yX1_init.cls ≠ "java/lang/invoke/VarHandle" ∧ (parseMethodDescriptor yX1_init.desc).map (fun d => d.parameters.length) = some 0 := by decide +kernel
theorem hs_X1_init : yX1_init.cls ≠ "java/lang/invoke/MethodHandle" ∧ yX1_init.cls ≠ "java/lang/invoke/VarHandle" ∧ (parseMethodDescriptor yX1_init.desc).map (fun d => d.parameters.length) = some 0 := by decide +kernel
set_option maxHeartbeats 4000000 in
set_option maxRecDepth 100000 in
theorem k_X1_init (l : Launch) (E : Ev) (K : Kd) (n : Nat) (o : Nat) (w : Wd) {K' : Kd} {n' : Nat} {w' : Wd} (hf : f_X1_init K n o w = some (K', n', w')) : Met l yX1_init (Cond.code yX1_init cX1_init 1 (Option.none : Option Jvm.ClassFile.FieldType) :: bt) ({ frames := 1, cells := 3, slots := 174, locals := 12 } : Room) (va_Pc [rv E (some o)] (HB E K w (E.2.1 + n))) (QV E K' (E.2.1 + n') w') 3 174 (hA E) := by
  refine Met.ofW (cc := cX1_init) (maxL := 1) (ret := (Option.none : Option Jvm.ClassFile.FieldType)) (by decide) rfl ?_
  intro p e s m args below meth c s₁ B hml hv
  have hn2 : meth.name = "<init>" := (name_of_methodNamed B.named B.method).1
  obtain ⟨rfl, hz, hP, hKs, hT, hb0⟩ := hv
  have C : CX p l e s m _ meth c cX1_init 1 RX1 (Option.none : Option Jvm.ClassFile.FieldType) E := ⟨B.exec, B.bytes, hml, findClass_of_methodNamed B.named, fun w h => atoms_spec (ws := Cond.code yX1_init cX1_init 1 (Option.none : Option Jvm.ClassFile.FieldType) :: bt) B.pre w (List.mem_cons_of_mem _ h), hKs, hT, by rw [hz]; exact hb0, B.notSynchronized, B.returns⟩
  have hH : HQ E K (E.2.1 + n) w s s.heap [] := ⟨hP, va_S.rf, hz⟩
  obtain ⟨hx, hb, hml, hown, hts, hKs, hT, hb0, hlocks, hret⟩ := id C
  have hl := lv_entry [rv E (some o)] (n := 1) (by simp [lg_len_nil, lg_len_i, lg_len_j, lg_len_q, lg_len_f, lg_len_d, lg_len_r])
  rw [lg_entry_eq]
  generalize (lg_sl [rv E (some o)] ++ List.replicate (1 - (lg_sl [rv E (some o)]).length) Slot.unset).toArray = ls at hl ⊢
  replace hl : lv_has ls 1 [(0, rv E (some o))] := by simpa only [lv_args, cat_q, cat_i, cat_j, reduceIte, Nat.reduceEqDiff, Nat.reduceAdd, Nat.zero_add] using hl
  generalize s.heap = H at hH ⊢
  unfold f_X1_init at hf
  refine hl_aload_n hx hb dX1_init_0 rfl (lv_at hl 0 rfl) ?_
  refine hw_obj hx hb hml hl.1 hown hts m2_194 m1_40 m1_41 dX1_init_1 (Nat.le_of_ble_eq_true rfl) (Nat.le_of_ble_eq_true rfl) ?_
  refine hl_aload_n hx hb dX1_init_4 rfl (lv_at hl 0 rfl) ?_
  refine lv_bipush (v := 12) hx hb dX1_init_5 (by decide) ?_
  refine hw_newa20 (N := 12) hx hb hts m1_67 hKs hH (by decide) (by decide) (Nat.le_of_ble_eq_true rfl) (Nat.le_of_ble_eq_true rfl) (Nat.le_of_ble_eq_true rfl) dX1_init_7 (fun H hH => ?_)
  obtain ⟨K1, hK1, hf⟩ := bnd hf
  replace hK1 := Option.some.inj hK1
  obtain ⟨w2, hw2, hf⟩ := bnd hf
  replace hw2 := Option.some.inj hw2
  rw [hK1, hw2] at hH
  obtain ⟨a3, ha3, hf⟩ := bnd hf
  replace ha3 := chk_some ha3
  obtain ⟨w4, hw4, hf⟩ := bnd hf
  replace hw4 := Option.some.inj hw4
  refine pf1_0 (v := (some n)) hx hb hts hown hKs hH ha3.1 ha3.2 hn2 m2_195 dX1_init_9 (fun H locs hH => ?_)
  rw [hw4] at hH
  refine hl_aload_n hx hb dX1_init_12 rfl (lv_at hl 0 rfl) ?_
  refine lv_bipush (v := 6) hx hb dX1_init_13 (by decide) ?_
  refine hw_newa20 (N := 6) hx hb hts m1_67 hKs hH (by decide) (by decide) (Nat.le_of_ble_eq_true rfl) (Nat.le_of_ble_eq_true rfl) (Nat.le_of_ble_eq_true rfl) dX1_init_15 (fun H hH => ?_)
  obtain ⟨K5, hK5, hf⟩ := bnd hf
  replace hK5 := Option.some.inj hK5
  obtain ⟨w6, hw6, hf⟩ := bnd hf
  replace hw6 := Option.some.inj hw6
  rw [hK5, hw6] at hH
  obtain ⟨a7, ha7, hf⟩ := bnd hf
  replace ha7 := chk_some ha7
  obtain ⟨w8, hw8, hf⟩ := bnd hf
  replace hw8 := Option.some.inj hw8
  refine pf1_1 (v := (some (n + 1))) hx hb hts hown hKs hH ha7.1 ha7.2 hn2 m2_196 dX1_init_17 (fun H locs hH => ?_)
  rw [hw8] at hH
  refine hl_aload_n hx hb dX1_init_20 rfl (lv_at hl 0 rfl) ?_
  refine lv_sipush (v := 156) hx hb dX1_init_21 (by decide) ?_
  refine hw_newa20 (N := 156) hx hb hts m1_67 hKs hH (by decide) (by decide) (Nat.le_of_ble_eq_true rfl) (Nat.le_of_ble_eq_true rfl) (Nat.le_of_ble_eq_true rfl) dX1_init_24 (fun H hH => ?_)
  obtain ⟨K9, hK9, hf⟩ := bnd hf
  replace hK9 := Option.some.inj hK9
  obtain ⟨w10, hw10, hf⟩ := bnd hf
  replace hw10 := Option.some.inj hw10
  rw [hK9, hw10] at hH
  obtain ⟨a11, ha11, hf⟩ := bnd hf
  replace ha11 := chk_some ha11
  obtain ⟨w12, hw12, hf⟩ := bnd hf
  replace hw12 := Option.some.inj hw12
  refine pf1_2 (v := (some ((n + 1) + 1))) hx hb hts hown hKs hH ha11.1 ha11.2 hn2 m2_197 dX1_init_26 (fun H locs hH => ?_)
  rw [hw12] at hH
  exact hw_aret hx hb (Nat.le_of_ble_eq_true rfl) (Nat.le_of_ble_eq_true rfl) hret hf hH hlocks dX1_init_29

theorem dX2_init_0 : decode cX2_init 0 = .ok (.aload_n 0, 1) := by decide +kernel
theorem dX2_init_1 : decode cX2_init 1 = .ok (.invokespecial 3, 3) := by decide +kernel
theorem dX2_init_4 : decode cX2_init 4 = .ok (.aload_n 0, 1) := by decide +kernel
theorem dX2_init_5 : decode cX2_init 5 = .ok (.bipush 19, 2) := by decide +kernel
theorem dX2_init_7 : decode cX2_init 7 = .ok (.newarray .int, 2) := by decide +kernel
theorem dX2_init_9 : decode cX2_init 9 = .ok (.putfield 9, 3) := by decide +kernel
theorem dX2_init_12 : decode cX2_init 12 = .ok (.return_, 1) := by decide +kernel
theorem hd_X2_init : yX2_init.cls = RX2 ∧ yX2_init.cls ≠ "java/lang/invoke/MethodHandle" ∧ yX2_init.cls ≠ "java/lang/invoke/VarHandle" ∧ (parseMethodDescriptor yX2_init.desc).map (fun d => d.parameters.length) = some 0 := by decide +kernel
theorem hs_X2_init : yX2_init.cls ≠ "java/lang/invoke/MethodHandle" ∧ yX2_init.cls ≠ "java/lang/invoke/VarHandle" ∧ (parseMethodDescriptor yX2_init.desc).map (fun d => d.parameters.length) = some 0 := by decide +kernel
set_option maxHeartbeats 4000000 in
set_option maxRecDepth 100000 in
theorem k_X2_init (l : Launch) (E : Ev) (K : Kd) (n : Nat) (o : Nat) (w : Wd) {K' : Kd} {n' : Nat} {w' : Wd} (hf : f_X2_init K n o w = some (K', n', w')) : Met l yX2_init (Cond.code yX2_init cX2_init 1 (Option.none : Option Jvm.ClassFile.FieldType) :: bt) ({ frames := 1, cells := 1, slots := 19, locals := 12 } : Room) (va_Pc [rv E (some o)] (HB E K w (E.2.1 + n))) (QV E K' (E.2.1 + n') w') 1 19 (hA E) := by
  refine Met.ofW (cc := cX2_init) (maxL := 1) (ret := (Option.none : Option Jvm.ClassFile.FieldType)) (by decide) rfl ?_
  intro p e s m args below meth c s₁ B hml hv
  have hn2 : meth.name = "<init>" := (name_of_methodNamed B.named B.method).1
  obtain ⟨rfl, hz, hP, hKs, hT, hb0⟩ := hv
  have C : CX p l e s m _ meth c cX2_init 1 RX2 (Option.none : Option Jvm.ClassFile.FieldType) E := ⟨B.exec, B.bytes, hml, findClass_of_methodNamed B.named, fun w h => atoms_spec (ws := Cond.code yX2_init cX2_init 1 (Option.none : Option Jvm.ClassFile.FieldType) :: bt) B.pre w (List.mem_cons_of_mem _ h), hKs, hT, by rw [hz]; exact hb0, B.notSynchronized, B.returns⟩
  have hH : HQ E K (E.2.1 + n) w s s.heap [] := ⟨hP, va_S.rf, hz⟩
  obtain ⟨hx, hb, hml, hown, hts, hKs, hT, hb0, hlocks, hret⟩ := id C
  have hl := lv_entry [rv E (some o)] (n := 1) (by simp [lg_len_nil, lg_len_i, lg_len_j, lg_len_q, lg_len_f, lg_len_d, lg_len_r])
  rw [lg_entry_eq]
  generalize (lg_sl [rv E (some o)] ++ List.replicate (1 - (lg_sl [rv E (some o)]).length) Slot.unset).toArray = ls at hl ⊢
  replace hl : lv_has ls 1 [(0, rv E (some o))] := by simpa only [lv_args, cat_q, cat_i, cat_j, reduceIte, Nat.reduceEqDiff, Nat.reduceAdd, Nat.zero_add] using hl
  generalize s.heap = H at hH ⊢
  unfold f_X2_init at hf
  refine hl_aload_n hx hb dX2_init_0 rfl (lv_at hl 0 rfl) ?_
  refine hw_obj hx hb hml hl.1 hown hts m1_57 m1_40 m1_41 dX2_init_1 (Nat.le_of_ble_eq_true rfl) (Nat.le_of_ble_eq_true rfl) ?_
  refine hl_aload_n hx hb dX2_init_4 rfl (lv_at hl 0 rfl) ?_
  refine lv_bipush (v := 19) hx hb dX2_init_5 (by decide) ?_
  refine hw_newa20 (N := 19) hx hb hts m1_67 hKs hH (by decide) (by decide) (Nat.le_of_ble_eq_true rfl) (Nat.le_of_ble_eq_true rfl) (Nat.le_of_ble_eq_true rfl) dX2_init_7 (fun H hH => ?_)
  obtain ⟨K1, hK1, hf⟩ := bnd hf
  replace hK1 := Option.some.inj hK1
  obtain ⟨w2, hw2, hf⟩ := bnd hf
  replace hw2 := Option.some.inj hw2
  rw [hK1, hw2] at hH
  obtain ⟨a3, ha3, hf⟩ := bnd hf
  replace ha3 := chk_some ha3
  obtain ⟨w4, hw4, hf⟩ := bnd hf
  replace hw4 := Option.some.inj hw4
  refine pf2_0 (v := (some n)) hx hb hts hown hKs hH ha3.1 ha3.2 hn2 m1_58 dX2_init_9 (fun H locs hH => ?_)
  rw [hw4] at hH
  exact hw_aret hx hb (Nat.le_of_ble_eq_true rfl) (Nat.le_of_ble_eq_true rfl) hret hf hH hlocks dX2_init_12

theorem dX2_contains_0 : decode cX2_contains 0 = .ok (.iload_n 1, 1) := by decide +kernel
theorem dX2_contains_1 : decode cX2_contains 1 = .ok (.ifCond .lt 33, 3) := by decide +kernel
theorem dX2_contains_4 : decode cX2_contains 4 = .ok (.iload_n 1, 1) := by decide +kernel
theorem dX2_contains_5 : decode cX2_contains 5 = .ok (.sipush 600, 3) := by decide +kernel
theorem dX2_contains_8 : decode cX2_contains 8 = .ok (.if_icmp .ge 26, 3) := by decide +kernel
theorem dX2_contains_11 : decode cX2_contains 11 = .ok (.aload_n 0, 1) := by decide +kernel
theorem dX2_contains_12 : decode cX2_contains 12 = .ok (.getfield 9, 3) := by decide +kernel
theorem dX2_contains_15 : decode cX2_contains 15 = .ok (.iload_n 1, 1) := by decide +kernel
theorem dX2_contains_16 : decode cX2_contains 16 = .ok (.bipush 32, 2) := by decide +kernel
theorem dX2_contains_18 : decode cX2_contains 18 = .ok (.idiv, 1) := by decide +kernel
theorem dX2_contains_19 : decode cX2_contains 19 = .ok (.iaload, 1) := by decide +kernel
theorem dX2_contains_20 : decode cX2_contains 20 = .ok (.iload_n 1, 1) := by decide +kernel
theorem dX2_contains_21 : decode cX2_contains 21 = .ok (.bipush 32, 2) := by decide +kernel
theorem dX2_contains_23 : decode cX2_contains 23 = .ok (.irem, 1) := by decide +kernel
theorem dX2_contains_24 : decode cX2_contains 24 = .ok (.iushr, 1) := by decide +kernel
theorem dX2_contains_25 : decode cX2_contains 25 = .ok (.iconst 1, 1) := by decide +kernel
theorem dX2_contains_26 : decode cX2_contains 26 = .ok (.iand, 1) := by decide +kernel
theorem dX2_contains_27 : decode cX2_contains 27 = .ok (.ifCond .eq 7, 3) := by decide +kernel
theorem dX2_contains_30 : decode cX2_contains 30 = .ok (.iconst 1, 1) := by decide +kernel
theorem dX2_contains_31 : decode cX2_contains 31 = .ok (.goto 4, 3) := by decide +kernel
theorem dX2_contains_34 : decode cX2_contains 34 = .ok (.iconst 0, 1) := by decide +kernel
theorem dX2_contains_35 : decode cX2_contains 35 = .ok (.ireturn, 1) := by decide +kernel
theorem hd_X2_contains : yX2_contains.cls = RX2 ∧ yX2_contains.cls ≠ "java/lang/invoke/MethodHandle" ∧ yX2_contains.cls ≠ "java/lang/invoke/VarHandle" ∧ (parseMethodDescriptor yX2_contains.desc).map (fun d => d.parameters.length) = some 1 := by decide +kernel
theorem hs_X2_contains : yX2_contains.cls ≠ "java/lang/invoke/MethodHandle" ∧ yX2_contains.cls ≠ "java/lang/invoke/VarHandle" ∧ (parseMethodDescriptor yX2_contains.desc).map (fun d => d.parameters.length) = some 1 := by decide +kernel
set_option maxHeartbeats 4000000 in
set_option maxRecDepth 100000 in
theorem k_X2_contains (l : Launch) (E : Ev) (K : Kd) (z : Nat) (o : Nat) (a_1 : Int32) (w : Wd) (ho : K o = some (1, 0)) {r : Bool} {w' : Wd} (hf : f_X2_contains K o a_1 w = some (r, w')) : Met l yX2_contains (Cond.code yX2_contains cX2_contains 2 (Option.some Jvm.ClassFile.FieldType.boolean) :: bt) ({ frames := 0, cells := 0, slots := 0, locals := 0 } : Room) (va_Pc [rv E (some o), .int a_1] (HB E K w z)) (QI E K z w' (b2i r)) 0 0 (hA E) := by
  refine Met.ofW (cc := cX2_contains) (maxL := 2) (ret := (Option.some Jvm.ClassFile.FieldType.boolean)) (by decide) rfl ?_
  intro p e s m args below meth c s₁ B hml hv
  obtain ⟨rfl, hz, hP, hKs, hT, hb0⟩ := hv
  have C : CX p l e s m _ meth c cX2_contains 2 RX2 (Option.some Jvm.ClassFile.FieldType.boolean) E := ⟨B.exec, B.bytes, hml, findClass_of_methodNamed B.named, fun w h => atoms_spec (ws := Cond.code yX2_contains cX2_contains 2 (Option.some Jvm.ClassFile.FieldType.boolean) :: bt) B.pre w (List.mem_cons_of_mem _ h), hKs, hT, by rw [hz]; exact hb0, B.notSynchronized, B.returns⟩
  have hH : HQ E K z w s s.heap [] := ⟨hP, va_S.rf, hz⟩
  obtain ⟨hx, hb, hml, hown, hts, hKs, hT, hb0, hlocks, hret⟩ := id C
  have hl := lv_entry [rv E (some o), .int a_1] (n := 2) (by simp [lg_len_nil, lg_len_i, lg_len_j, lg_len_q, lg_len_f, lg_len_d, lg_len_r])
  rw [lg_entry_eq]
  generalize (lg_sl [rv E (some o), .int a_1] ++ List.replicate (2 - (lg_sl [rv E (some o), .int a_1]).length) Slot.unset).toArray = ls at hl ⊢
  replace hl : lv_has ls 2 [(0, rv E (some o)), (1, .int a_1)] := by simpa only [lv_args, cat_q, cat_i, cat_j, reduceIte, Nat.reduceEqDiff, Nat.reduceAdd, Nat.zero_add] using hl
  generalize s.heap = H at hH ⊢
  unfold f_X2_contains at hf
  refine lv_iload_n hx hb dX2_contains_0 rfl (lv_at hl 1 rfl) ?_
  refine lv_if_lt (tgt := 34) hx hb dX2_contains_1 (by decide) (fun c1 => ?_) (fun c1 => ?_)
  · replace hf := (if_pos c1).symm.trans hf
    refine lv_iconst (v := 0) hx hb dX2_contains_34 (by decide) ?_
    exact hw_zret hx hb hret rfl hf hH hlocks dX2_contains_35
  · replace hf := (if_neg c1).symm.trans hf
    refine lv_iload_n hx hb dX2_contains_4 rfl (lv_at hl 1 rfl) ?_
    refine lv_sipush (v := 600) hx hb dX2_contains_5 (by decide) ?_
    refine lv_icmp_ge (tgt := 34) hx hb dX2_contains_8 (by decide) (fun c2 => ?_) (fun c2 => ?_)
    · replace hf := (if_pos c2).symm.trans hf
      refine lv_iconst (v := 0) hx hb dX2_contains_34 (by decide) ?_
      exact hw_zret hx hb hret rfl hf hH hlocks dX2_contains_35
    · replace hf := (if_neg c2).symm.trans hf
      refine hl_aload_n hx hb dX2_contains_11 rfl (lv_at hl 0 rfl) ?_
      refine g2_0 hx hb hts hown hKs hH rfl ho m1_58 dX2_contains_12 ?_
      refine lv_iload_n hx hb dX2_contains_15 rfl (lv_at hl 1 rfl) ?_
      refine lv_bipush (v := 32) hx hb dX2_contains_16 (by decide) ?_
      refine lv_idiv hx hb dX2_contains_18 (by decide) ?_
      obtain ⟨a3, ha3, hf⟩ := bnd hf
      replace ha3 := cha_some ha3
      obtain ⟨j4, hj4, hf⟩ := bnd hf
      refine hw_iald hx hb hKs hH ha3.1 ha3.2 hj4 dX2_contains_19 ?_
      refine lv_iload_n hx hb dX2_contains_20 rfl (lv_at hl 1 rfl) ?_
      refine lv_bipush (v := 32) hx hb dX2_contains_21 (by decide) ?_
      refine lv_irem hx hb dX2_contains_23 (by decide) ?_
      refine lv_iushr (v := (ushr (aI w a3.1 j4) (a_1 - a_1 / 32 * 32))) hx hb dX2_contains_24 rfl ?_
      refine lv_iconst (v := 1) hx hb dX2_contains_25 (by decide) ?_
      refine lv_iand hx hb dX2_contains_26 ?_
      refine lv_if_eq (tgt := 34) hx hb dX2_contains_27 (by decide) (fun c5 => ?_) (fun c5 => ?_)
      · replace hf := (if_pos c5).symm.trans hf
        refine lv_iconst (v := 0) hx hb dX2_contains_34 (by decide) ?_
        exact hw_zret hx hb hret rfl hf hH hlocks dX2_contains_35
      · replace hf := (if_neg c5).symm.trans hf
        refine lv_iconst (v := 1) hx hb dX2_contains_30 (by decide) ?_
        refine lv_goto (tgt := 35) hx hb dX2_contains_31 (by decide) ?_
        exact hw_zret hx hb hret rfl hf hH hlocks dX2_contains_35

theorem dX2_add_0 : decode cX2_add 0 = .ok (.iload_n 1, 1) := by decide +kernel
theorem dX2_add_1 : decode cX2_add 1 = .ok (.ifCond .lt 46, 3) := by decide +kernel
theorem dX2_add_4 : decode cX2_add 4 = .ok (.iload_n 1, 1) := by decide +kernel
theorem dX2_add_5 : decode cX2_add 5 = .ok (.sipush 600, 3) := by decide +kernel
theorem dX2_add_8 : decode cX2_add 8 = .ok (.if_icmp .ge 39, 3) := by decide +kernel
theorem dX2_add_11 : decode cX2_add 11 = .ok (.aload_n 0, 1) := by decide +kernel
theorem dX2_add_12 : decode cX2_add 12 = .ok (.iload_n 1, 1) := by decide +kernel
theorem dX2_add_13 : decode cX2_add 13 = .ok (.invokevirtual 15, 3) := by decide +kernel
theorem dX2_add_16 : decode cX2_add 16 = .ok (.ifCond .ne 31, 3) := by decide +kernel
theorem dX2_add_19 : decode cX2_add 19 = .ok (.aload_n 0, 1) := by decide +kernel
theorem dX2_add_20 : decode cX2_add 20 = .ok (.getfield 9, 3) := by decide +kernel
theorem dX2_add_23 : decode cX2_add 23 = .ok (.iload_n 1, 1) := by decide +kernel
theorem dX2_add_24 : decode cX2_add 24 = .ok (.bipush 32, 2) := by decide +kernel
theorem dX2_add_26 : decode cX2_add 26 = .ok (.idiv, 1) := by decide +kernel
theorem dX2_add_27 : decode cX2_add 27 = .ok (.dup2, 1) := by decide +kernel
theorem dX2_add_28 : decode cX2_add 28 = .ok (.iaload, 1) := by decide +kernel
theorem dX2_add_29 : decode cX2_add 29 = .ok (.iconst 1, 1) := by decide +kernel
theorem dX2_add_30 : decode cX2_add 30 = .ok (.iload_n 1, 1) := by decide +kernel
theorem dX2_add_31 : decode cX2_add 31 = .ok (.bipush 32, 2) := by decide +kernel
theorem dX2_add_33 : decode cX2_add 33 = .ok (.irem, 1) := by decide +kernel
theorem dX2_add_34 : decode cX2_add 34 = .ok (.ishl, 1) := by decide +kernel
theorem dX2_add_35 : decode cX2_add 35 = .ok (.ior, 1) := by decide +kernel
theorem dX2_add_36 : decode cX2_add 36 = .ok (.iastore, 1) := by decide +kernel
theorem dX2_add_37 : decode cX2_add 37 = .ok (.aload_n 0, 1) := by decide +kernel
theorem dX2_add_38 : decode cX2_add 38 = .ok (.dup, 1) := by decide +kernel
theorem dX2_add_39 : decode cX2_add 39 = .ok (.getfield 19, 3) := by decide +kernel
theorem dX2_add_42 : decode cX2_add 42 = .ok (.iconst 1, 1) := by decide +kernel
theorem dX2_add_43 : decode cX2_add 43 = .ok (.iadd, 1) := by decide +kernel
theorem dX2_add_44 : decode cX2_add 44 = .ok (.putfield 19, 3) := by decide +kernel
theorem dX2_add_47 : decode cX2_add 47 = .ok (.return_, 1) := by decide +kernel
theorem hd_X2_add : yX2_add.cls = RX2 ∧ yX2_add.cls ≠ "java/lang/invoke/MethodHandle" ∧ yX2_add.cls ≠ "java/lang/invoke/VarHandle" ∧ (parseMethodDescriptor yX2_add.desc).map (fun d => d.parameters.length) = some 1 := by decide +kernel
theorem hs_X2_add : yX2_add.cls ≠ "java/lang/invoke/MethodHandle" ∧ yX2_add.cls ≠ "java/lang/invoke/VarHandle" ∧ (parseMethodDescriptor yX2_add.desc).map (fun d => d.parameters.length) = some 1 := by decide +kernel
set_option maxHeartbeats 4000000 in
set_option maxRecDepth 100000 in
theorem k_X2_add (l : Launch) (E : Ev) (K : Kd) (z : Nat) (o : Nat) (a_1 : Int32) (w : Wd) (ho : K o = some (1, 0)) {w' : Wd} (hf : f_X2_add K o a_1 w = some w') : Met l yX2_add (Cond.code yX2_add cX2_add 2 (Option.none : Option Jvm.ClassFile.FieldType) :: bt) ({ frames := 1, cells := 0, slots := 0, locals := 21 } : Room) (va_Pc [rv E (some o), .int a_1] (HB E K w z)) (QV E K z w') 0 0 (hA E) := by
  refine Met.ofW (cc := cX2_add) (maxL := 2) (ret := (Option.none : Option Jvm.ClassFile.FieldType)) (by decide) rfl ?_
  intro p e s m args below meth c s₁ B hml hv
  obtain ⟨rfl, hz, hP, hKs, hT, hb0⟩ := hv
  have C : CX p l e s m _ meth c cX2_add 2 RX2 (Option.none : Option Jvm.ClassFile.FieldType) E := ⟨B.exec, B.bytes, hml, findClass_of_methodNamed B.named, fun w h => atoms_spec (ws := Cond.code yX2_add cX2_add 2 (Option.none : Option Jvm.ClassFile.FieldType) :: bt) B.pre w (List.mem_cons_of_mem _ h), hKs, hT, by rw [hz]; exact hb0, B.notSynchronized, B.returns⟩
  have hH : HQ E K z w s s.heap [] := ⟨hP, va_S.rf, hz⟩
  obtain ⟨hx, hb, hml, hown, hts, hKs, hT, hb0, hlocks, hret⟩ := id C
  have hl := lv_entry [rv E (some o), .int a_1] (n := 2) (by simp [lg_len_nil, lg_len_i, lg_len_j, lg_len_q, lg_len_f, lg_len_d, lg_len_r])
  rw [lg_entry_eq]
  generalize (lg_sl [rv E (some o), .int a_1] ++ List.replicate (2 - (lg_sl [rv E (some o), .int a_1]).length) Slot.unset).toArray = ls at hl ⊢
  replace hl : lv_has ls 2 [(0, rv E (some o)), (1, .int a_1)] := by simpa only [lv_args, cat_q, cat_i, cat_j, reduceIte, Nat.reduceEqDiff, Nat.reduceAdd, Nat.zero_add] using hl
  generalize s.heap = H at hH ⊢
  unfold f_X2_add at hf
  refine lv_iload_n hx hb dX2_add_0 rfl (lv_at hl 1 rfl) ?_
  refine lv_if_lt (tgt := 47) hx hb dX2_add_1 (by decide) (fun c1 => ?_) (fun c1 => ?_)
  · replace hf := (if_pos c1).symm.trans hf
    exact hw_vret hx hb hret hf hH hlocks dX2_add_47
  · replace hf := (if_neg c1).symm.trans hf
    refine lv_iload_n hx hb dX2_add_4 rfl (lv_at hl 1 rfl) ?_
    refine lv_sipush (v := 600) hx hb dX2_add_5 (by decide) ?_
    refine lv_icmp_ge (tgt := 47) hx hb dX2_add_8 (by decide) (fun c2 => ?_) (fun c2 => ?_)
    · replace hf := (if_pos c2).symm.trans hf
      exact hw_vret hx hb hret hf hH hlocks dX2_add_47
    · replace hf := (if_neg c2).symm.trans hf
      refine hl_aload_n hx hb dX2_add_11 rfl (lv_at hl 0 rfl) ?_
      refine lv_iload_n hx hb dX2_add_12 rfl (lv_at hl 1 rfl) ?_
      obtain ⟨q3, hq3, hf⟩ := bnd hf
      refine hcV_i hx hb hml hown hts hKs hT hb0 hH (As := [.int a_1]) (rest := []) (k_X2_contains l E K H.size o a_1 w ho hq3) (gV m4_202 m3_153 m3_154 m1_3 m3_155) hd_X2_contains ⟨Nat.le_of_ble_eq_true rfl, Nat.le_of_ble_eq_true rfl, rfl, rfl⟩ rfl ho rfl rfl rfl hl.1 rfl rc0 rfl dX2_add_13 ⟨Nat.zero_le _, Nat.zero_le _⟩ (fun H locs hH => ?_)
      refine lv_if_ne (tgt := 47) hx hb dX2_add_16 (by decide) (fun c4 => ?_) (fun c4 => ?_)
      · replace hf := (if_neg c4).symm.trans hf
        exact hw_vret hx hb hret hf hH hlocks dX2_add_47
      · replace hf := (if_pos c4).symm.trans hf
        refine hl_aload_n hx hb dX2_add_19 rfl (lv_at hl 0 rfl) ?_
        refine g2_0 hx hb hts hown hKs hH rfl ho m1_58 dX2_add_20 ?_
        refine lv_iload_n hx hb dX2_add_23 rfl (lv_at hl 1 rfl) ?_
        refine lv_bipush (v := 32) hx hb dX2_add_24 (by decide) ?_
        refine lv_idiv hx hb dX2_add_26 (by decide) ?_
        refine lv_dup2_11 hx hb dX2_add_27 rfl rv_cat ?_
        obtain ⟨a5, ha5, hf⟩ := bnd hf
        replace ha5 := cha_some ha5
        obtain ⟨j6, hj6, hf⟩ := bnd hf
        refine hw_iald hx hb hKs hH ha5.1 ha5.2 hj6 dX2_add_28 ?_
        refine lv_iconst (v := 1) hx hb dX2_add_29 (by decide) ?_
        refine lv_iload_n hx hb dX2_add_30 rfl (lv_at hl 1 rfl) ?_
        refine lv_bipush (v := 32) hx hb dX2_add_31 (by decide) ?_
        refine lv_irem hx hb dX2_add_33 (by decide) ?_
        refine lv_ishl hx hb dX2_add_34 ?_
        refine lv_ior hx hb dX2_add_35 ?_
        obtain ⟨j7, hj7, hf⟩ := bnd hf
        obtain ⟨w8, hw8, hf⟩ := bnd hf
        replace hw8 := Option.some.inj hw8
        refine hw_iast (x := ((aI q3.2 a5.1 j6) ||| (1 <<< ((a_1 - a_1 / 32 * 32) &&& 31)))) hx hb hKs hH ha5.1 ha5.2 hj7 dX2_add_36 (fun H locs hH => ?_)
        rw [hw8] at hH
        refine hl_aload_n hx hb dX2_add_37 rfl (lv_at hl 0 rfl) ?_
        refine lv_dup hx hb dX2_add_38 rv_cat ?_
        refine g2_1 hx hb hts hown hKs hH rfl ho m1_59 dX2_add_39 ?_
        refine lv_iconst (v := 1) hx hb dX2_add_42 (by decide) ?_
        refine lv_iadd hx hb dX2_add_43 ?_
        obtain ⟨w9, hw9, hf⟩ := bnd hf
        replace hw9 := Option.some.inj hw9
        refine p2_1 (v := ((wI w8 201 o) + 1)) hx hb hts hown hKs hH rfl ho m1_59 dX2_add_44 (fun H locs hH => ?_)
        rw [hw9] at hH
        exact hw_vret hx hb hret hf hH hlocks dX2_add_47

theorem dX2_copyFrom_0 : decode cX2_copyFrom 0 = .ok (.aload_n 1, 1) := by decide +kernel
theorem dX2_copyFrom_1 : decode cX2_copyFrom 1 = .ok (.getfield 9, 3) := by decide +kernel
theorem dX2_copyFrom_4 : decode cX2_copyFrom 4 = .ok (.iconst 0, 1) := by decide +kernel
theorem dX2_copyFrom_5 : decode cX2_copyFrom 5 = .ok (.aload_n 0, 1) := by decide +kernel
theorem dX2_copyFrom_6 : decode cX2_copyFrom 6 = .ok (.getfield 9, 3) := by decide +kernel
theorem dX2_copyFrom_9 : decode cX2_copyFrom 9 = .ok (.iconst 0, 1) := by decide +kernel
theorem dX2_copyFrom_10 : decode cX2_copyFrom 10 = .ok (.aload_n 0, 1) := by decide +kernel
theorem dX2_copyFrom_11 : decode cX2_copyFrom 11 = .ok (.getfield 9, 3) := by decide +kernel
theorem dX2_copyFrom_14 : decode cX2_copyFrom 14 = .ok (.arraylength, 1) := by decide +kernel
theorem dX2_copyFrom_15 : decode cX2_copyFrom 15 = .ok (.invokestatic 29, 3) := by decide +kernel
theorem dX2_copyFrom_18 : decode cX2_copyFrom 18 = .ok (.aload_n 0, 1) := by decide +kernel
theorem dX2_copyFrom_19 : decode cX2_copyFrom 19 = .ok (.aload_n 1, 1) := by decide +kernel
theorem dX2_copyFrom_20 : decode cX2_copyFrom 20 = .ok (.getfield 19, 3) := by decide +kernel
theorem dX2_copyFrom_23 : decode cX2_copyFrom 23 = .ok (.putfield 19, 3) := by decide +kernel
theorem dX2_copyFrom_26 : decode cX2_copyFrom 26 = .ok (.return_, 1) := by decide +kernel
theorem hd_X2_copyFrom : yX2_copyFrom.cls = RX2 ∧ yX2_copyFrom.cls ≠ "java/lang/invoke/MethodHandle" ∧ yX2_copyFrom.cls ≠ "java/lang/invoke/VarHandle" ∧ (parseMethodDescriptor yX2_copyFrom.desc).map (fun d => d.parameters.length) = some 1 := by decide +kernel
theorem hs_X2_copyFrom : yX2_copyFrom.cls ≠ "java/lang/invoke/MethodHandle" ∧ yX2_copyFrom.cls ≠ "java/lang/invoke/VarHandle" ∧ (parseMethodDescriptor yX2_copyFrom.desc).map (fun d => d.parameters.length) = some 1 := by decide +kernel
set_option maxHeartbeats 4000000 in
set_option maxRecDepth 100000 in
theorem k_X2_copyFrom (l : Launch) (E : Ev) (K : Kd) (z : Nat) (o : Nat) (a_1 : Option Nat) (w : Wd) (ho : K o = some (1, 0)) {w' : Wd} (hf : f_X2_copyFrom K o a_1 w = some w') : Met l yX2_copyFrom (Cond.code yX2_copyFrom cX2_copyFrom 2 (Option.none : Option Jvm.ClassFile.FieldType) :: bt) ({ frames := 1, cells := 0, slots := 0, locals := 60 } : Room) (va_Pc [rv E (some o), rv E a_1] (HB E K w z)) (QV E K z w') 0 0 (hA E) := by
  refine Met.ofW (cc := cX2_copyFrom) (maxL := 2) (ret := (Option.none : Option Jvm.ClassFile.FieldType)) (by decide) rfl ?_
  intro p e s m args below meth c s₁ B hml hv
  obtain ⟨rfl, hz, hP, hKs, hT, hb0⟩ := hv
  have C : CX p l e s m _ meth c cX2_copyFrom 2 RX2 (Option.none : Option Jvm.ClassFile.FieldType) E := ⟨B.exec, B.bytes, hml, findClass_of_methodNamed B.named, fun w h => atoms_spec (ws := Cond.code yX2_copyFrom cX2_copyFrom 2 (Option.none : Option Jvm.ClassFile.FieldType) :: bt) B.pre w (List.mem_cons_of_mem _ h), hKs, hT, by rw [hz]; exact hb0, B.notSynchronized, B.returns⟩
  have hH : HQ E K z w s s.heap [] := ⟨hP, va_S.rf, hz⟩
  obtain ⟨hx, hb, hml, hown, hts, hKs, hT, hb0, hlocks, hret⟩ := id C
  have hl := lv_entry [rv E (some o), rv E a_1] (n := 2) (by simp [lg_len_nil, lg_len_i, lg_len_j, lg_len_q, lg_len_f, lg_len_d, lg_len_r])
  rw [lg_entry_eq]
  generalize (lg_sl [rv E (some o), rv E a_1] ++ List.replicate (2 - (lg_sl [rv E (some o), rv E a_1]).length) Slot.unset).toArray = ls at hl ⊢
  replace hl : lv_has ls 2 [(0, rv E (some o)), (1, rv E a_1)] := by simpa only [lv_args, cat_q, cat_i, cat_j, reduceIte, Nat.reduceEqDiff, Nat.reduceAdd, Nat.zero_add] using hl
  generalize s.heap = H at hH ⊢
  unfold f_X2_copyFrom at hf
  refine hl_aload_n hx hb dX2_copyFrom_0 rfl (lv_at hl 1 rfl) ?_
  obtain ⟨a1, ha1, hf⟩ := bnd hf
  replace ha1 := chk_some ha1
  refine g2_0 hx hb hts hown hKs hH ha1.1 ha1.2 m1_58 dX2_copyFrom_1 ?_
  refine lv_iconst (v := 0) hx hb dX2_copyFrom_4 (by decide) ?_
  refine hl_aload_n hx hb dX2_copyFrom_5 rfl (lv_at hl 0 rfl) ?_
  refine g2_0 hx hb hts hown hKs hH rfl ho m1_58 dX2_copyFrom_6 ?_
  refine lv_iconst (v := 0) hx hb dX2_copyFrom_9 (by decide) ?_
  refine hl_aload_n hx hb dX2_copyFrom_10 rfl (lv_at hl 0 rfl) ?_
  refine g2_0 hx hb hts hown hKs hH rfl ho m1_58 dX2_copyFrom_11 ?_
  obtain ⟨a2, ha2, hf⟩ := bnd hf
  replace ha2 := cha_some ha2
  refine hw_alen20 hx hb hKs hH ha2.1 ha2.2 dX2_copyFrom_14 ?_
  obtain ⟨a3, ha3, hf⟩ := bnd hf
  replace ha3 := cha_some ha3
  obtain ⟨_, hg4, hf⟩ := bnd hf
  replace hg4 := grd_some hg4
  obtain ⟨w5, hw5, hf⟩ := bnd hf
  replace hw5 := Option.some.inj hw5
  refine hw_copy hx hb (hml.trans hl.1.symm) hown (hts _ m3_131) (va_Nw.use rfl hKs.2.2.2.2.1) (hts _ m3_132) (hts _ m1_21) hKs hH ha3.1 ha3.2 ha2.1 ha2.2 hg4.1 hg4.2.1 hg4.2.2.1 hg4.2.2.2.1 hg4.2.2.2.2 (Nat.le_of_ble_eq_true rfl) (by decide) dX2_copyFrom_15 (fun H locs hH => ?_)
  rw [hw5] at hH
  refine hl_aload_n hx hb dX2_copyFrom_18 rfl (lv_at hl 0 rfl) ?_
  refine hl_aload_n hx hb dX2_copyFrom_19 rfl (lv_at hl 1 rfl) ?_
  refine g2_1 hx hb hts hown hKs hH ha1.1 ha1.2 m1_59 dX2_copyFrom_20 ?_
  obtain ⟨w6, hw6, hf⟩ := bnd hf
  replace hw6 := Option.some.inj hw6
  refine p2_1 (v := (wI w5 201 a1)) hx hb hts hown hKs hH rfl ho m1_59 dX2_copyFrom_23 (fun H locs hH => ?_)
  rw [hw6] at hH
  exact hw_vret hx hb hret hf hH hlocks dX2_copyFrom_26

theorem dX3_init_0 : decode cX3_init 0 = .ok (.aload_n 0, 1) := by decide +kernel
theorem dX3_init_1 : decode cX3_init 1 = .ok (.invokespecial 1, 3) := by decide +kernel
theorem dX3_init_4 : decode cX3_init 4 = .ok (.return_, 1) := by decide +kernel
theorem hd_X3_init : yX3_init.cls = RX3 ∧ yX3_init.cls ≠ "java/lang/invoke/MethodHandle" ∧ yX3_init.cls ≠ "java/lang/invoke/VarHandle" ∧ (parseMethodDescriptor yX3_init.desc).map (fun d => d.parameters.length) = some 0 := by decide +kernel
theorem hs_X3_init : yX3_init.cls ≠ "java/lang/invoke/MethodHandle" ∧ yX3_init.cls ≠ "java/lang/invoke/VarHandle" ∧ (parseMethodDescriptor yX3_init.desc).map (fun d => d.parameters.length) = some 0 := by decide +kernel
set_option maxHeartbeats 4000000 in
set_option maxRecDepth 100000 in
theorem k_X3_init (l : Launch) (E : Ev) (K : Kd) (n : Nat) (o : Nat) (w : Wd) {K' : Kd} {n' : Nat} {w' : Wd} (hf : f_X3_init K n o w = some (K', n', w')) : Met l yX3_init (Cond.code yX3_init cX3_init 1 (Option.none : Option Jvm.ClassFile.FieldType) :: bt) ({ frames := 1, cells := 0, slots := 0, locals := 12 } : Room) (va_Pc [rv E (some o)] (HB E K w (E.2.1 + n))) (QV E K' (E.2.1 + n') w') 0 0 (hA E) := by
  refine Met.ofW (cc := cX3_init) (maxL := 1) (ret := (Option.none : Option Jvm.ClassFile.FieldType)) (by decide) rfl ?_
  intro p e s m args below meth c s₁ B hml hv
  have hn2 : meth.name = "<init>" := (name_of_methodNamed B.named B.method).1
  obtain ⟨rfl, hz, hP, hKs, hT, hb0⟩ := hv
  have C : CX p l e s m _ meth c cX3_init 1 RX3 (Option.none : Option Jvm.ClassFile.FieldType) E := ⟨B.exec, B.bytes, hml, findClass_of_methodNamed B.named, fun w h => atoms_spec (ws := Cond.code yX3_init cX3_init 1 (Option.none : Option Jvm.ClassFile.FieldType) :: bt) B.pre w (List.mem_cons_of_mem _ h), hKs, hT, by rw [hz]; exact hb0, B.notSynchronized, B.returns⟩
  have hH : HQ E K (E.2.1 + n) w s s.heap [] := ⟨hP, va_S.rf, hz⟩
  obtain ⟨hx, hb, hml, hown, hts, hKs, hT, hb0, hlocks, hret⟩ := id C
  have hl := lv_entry [rv E (some o)] (n := 1) (by simp [lg_len_nil, lg_len_i, lg_len_j, lg_len_q, lg_len_f, lg_len_d, lg_len_r])
  rw [lg_entry_eq]
  generalize (lg_sl [rv E (some o)] ++ List.replicate (1 - (lg_sl [rv E (some o)]).length) Slot.unset).toArray = ls at hl ⊢
  replace hl : lv_has ls 1 [(0, rv E (some o))] := by simpa only [lv_args, cat_q, cat_i, cat_j, reduceIte, Nat.reduceEqDiff, Nat.reduceAdd, Nat.zero_add] using hl
  generalize s.heap = H at hH ⊢
  unfold f_X3_init at hf
  refine hl_aload_n hx hb dX3_init_0 rfl (lv_at hl 0 rfl) ?_
  refine hw_obj hx hb hml hl.1 hown hts m1_89 m1_40 m1_41 dX3_init_1 (Nat.le_of_ble_eq_true rfl) (Nat.le_of_ble_eq_true rfl) ?_
  exact hw_aret hx hb (Nat.le_of_ble_eq_true rfl) (Nat.le_of_ble_eq_true rfl) hret hf hH hlocks dX3_init_4

theorem dX3_clear_0 : decode cX3_clear 0 = .ok (.aload_n 0, 1) := by decide +kernel
theorem dX3_clear_1 : decode cX3_clear 1 = .ok (.iconst 0, 1) := by decide +kernel
theorem dX3_clear_2 : decode cX3_clear 2 = .ok (.putfield 7, 3) := by decide +kernel
theorem dX3_clear_5 : decode cX3_clear 5 = .ok (.aload_n 0, 1) := by decide +kernel
theorem dX3_clear_6 : decode cX3_clear 6 = .ok (.iconst 1, 1) := by decide +kernel
theorem dX3_clear_7 : decode cX3_clear 7 = .ok (.putfield 13, 3) := by decide +kernel
theorem dX3_clear_10 : decode cX3_clear 10 = .ok (.aload_n 0, 1) := by decide +kernel
theorem dX3_clear_11 : decode cX3_clear 11 = .ok (.iconst 1, 1) := by decide +kernel
theorem dX3_clear_12 : decode cX3_clear 12 = .ok (.putfield 16, 3) := by decide +kernel
theorem dX3_clear_15 : decode cX3_clear 15 = .ok (.aload_n 0, 1) := by decide +kernel
theorem dX3_clear_16 : decode cX3_clear 16 = .ok (.iconst 0, 1) := by decide +kernel
theorem dX3_clear_17 : decode cX3_clear 17 = .ok (.putfield 19, 3) := by decide +kernel
theorem dX3_clear_20 : decode cX3_clear 20 = .ok (.aload_n 0, 1) := by decide +kernel
theorem dX3_clear_21 : decode cX3_clear 21 = .ok (.iconst 0, 1) := by decide +kernel
theorem dX3_clear_22 : decode cX3_clear 22 = .ok (.putfield 23, 3) := by decide +kernel
theorem dX3_clear_25 : decode cX3_clear 25 = .ok (.aload_n 0, 1) := by decide +kernel
theorem dX3_clear_26 : decode cX3_clear 26 = .ok (.iconst 0, 1) := by decide +kernel
theorem dX3_clear_27 : decode cX3_clear 27 = .ok (.putfield 26, 3) := by decide +kernel
theorem dX3_clear_30 : decode cX3_clear 30 = .ok (.aload_n 0, 1) := by decide +kernel
theorem dX3_clear_31 : decode cX3_clear 31 = .ok (.iconst 0, 1) := by decide +kernel
theorem dX3_clear_32 : decode cX3_clear 32 = .ok (.putfield 29, 3) := by decide +kernel
theorem dX3_clear_35 : decode cX3_clear 35 = .ok (.return_, 1) := by decide +kernel
theorem hd_X3_clear : yX3_clear.cls = RX3 ∧ yX3_clear.cls ≠ "java/lang/invoke/MethodHandle" ∧ yX3_clear.cls ≠ "java/lang/invoke/VarHandle" ∧ (parseMethodDescriptor yX3_clear.desc).map (fun d => d.parameters.length) = some 0 := by decide +kernel
theorem hs_X3_clear : yX3_clear.cls ≠ "java/lang/invoke/MethodHandle" ∧ yX3_clear.cls ≠ "java/lang/invoke/VarHandle" ∧ (parseMethodDescriptor yX3_clear.desc).map (fun d => d.parameters.length) = some 0 := by decide +kernel
set_option maxHeartbeats 4000000 in
set_option maxRecDepth 100000 in
theorem k_X3_clear (l : Launch) (E : Ev) (K : Kd) (z : Nat) (o : Nat) (w : Wd) (ho : K o = some (2, 0)) {w' : Wd} (hf : f_X3_clear K o w = some w') : Met l yX3_clear (Cond.code yX3_clear cX3_clear 1 (Option.none : Option Jvm.ClassFile.FieldType) :: bt) ({ frames := 0, cells := 0, slots := 0, locals := 0 } : Room) (va_Pc [rv E (some o)] (HB E K w z)) (QV E K z w') 0 0 (hA E) := by
  refine Met.ofW (cc := cX3_clear) (maxL := 1) (ret := (Option.none : Option Jvm.ClassFile.FieldType)) (by decide) rfl ?_
  intro p e s m args below meth c s₁ B hml hv
  obtain ⟨rfl, hz, hP, hKs, hT, hb0⟩ := hv
  have C : CX p l e s m _ meth c cX3_clear 1 RX3 (Option.none : Option Jvm.ClassFile.FieldType) E := ⟨B.exec, B.bytes, hml, findClass_of_methodNamed B.named, fun w h => atoms_spec (ws := Cond.code yX3_clear cX3_clear 1 (Option.none : Option Jvm.ClassFile.FieldType) :: bt) B.pre w (List.mem_cons_of_mem _ h), hKs, hT, by rw [hz]; exact hb0, B.notSynchronized, B.returns⟩
  have hH : HQ E K z w s s.heap [] := ⟨hP, va_S.rf, hz⟩
  obtain ⟨hx, hb, hml, hown, hts, hKs, hT, hb0, hlocks, hret⟩ := id C
  have hl := lv_entry [rv E (some o)] (n := 1) (by simp [lg_len_nil, lg_len_i, lg_len_j, lg_len_q, lg_len_f, lg_len_d, lg_len_r])
  rw [lg_entry_eq]
  generalize (lg_sl [rv E (some o)] ++ List.replicate (1 - (lg_sl [rv E (some o)]).length) Slot.unset).toArray = ls at hl ⊢
  replace hl : lv_has ls 1 [(0, rv E (some o))] := by simpa only [lv_args, cat_q, cat_i, cat_j, reduceIte, Nat.reduceEqDiff, Nat.reduceAdd, Nat.zero_add] using hl
  generalize s.heap = H at hH ⊢
  unfold f_X3_clear at hf
  refine hl_aload_n hx hb dX3_clear_0 rfl (lv_at hl 0 rfl) ?_
  refine lv_iconst (v := 0) hx hb dX3_clear_1 (by decide) ?_
  obtain ⟨w1, hw1, hf⟩ := bnd hf
  replace hw1 := Option.some.inj hw1
  refine p3_0 (v := 0) hx hb hts hown hKs hH rfl ho m1_90 dX3_clear_2 (fun H locs hH => ?_)
  rw [hw1] at hH
  refine hl_aload_n hx hb dX3_clear_5 rfl (lv_at hl 0 rfl) ?_
  refine lv_iconst (v := 1) hx hb dX3_clear_6 (by decide) ?_
  obtain ⟨w2, hw2, hf⟩ := bnd hf
  replace hw2 := Option.some.inj hw2
  refine p3_1 (v := 1) hx hb hts hown hKs hH rfl ho m1_95 dX3_clear_7 (fun H locs hH => ?_)
  rw [hw2] at hH
  refine hl_aload_n hx hb dX3_clear_10 rfl (lv_at hl 0 rfl) ?_
  refine lv_iconst (v := 1) hx hb dX3_clear_11 (by decide) ?_
  obtain ⟨w3, hw3, hf⟩ := bnd hf
  replace hw3 := Option.some.inj hw3
  refine p3_2 (v := 1) hx hb hts hown hKs hH rfl ho m1_100 dX3_clear_12 (fun H locs hH => ?_)
  rw [hw3] at hH
  refine hl_aload_n hx hb dX3_clear_15 rfl (lv_at hl 0 rfl) ?_
  refine lv_iconst (v := 0) hx hb dX3_clear_16 (by decide) ?_
  obtain ⟨w4, hw4, hf⟩ := bnd hf
  replace hw4 := Option.some.inj hw4
  refine p3_3 (v := false) hx hb hts hown hKs hH rfl ho m1_104 dX3_clear_17 (fun H locs hH => ?_)
  rw [hw4] at hH
  refine hl_aload_n hx hb dX3_clear_20 rfl (lv_at hl 0 rfl) ?_
  refine lv_iconst (v := 0) hx hb dX3_clear_21 (by decide) ?_
  obtain ⟨w5, hw5, hf⟩ := bnd hf
  replace hw5 := Option.some.inj hw5
  refine p3_4 (v := 0) hx hb hts hown hKs hH rfl ho m1_108 dX3_clear_22 (fun H locs hH => ?_)
  rw [hw5] at hH
  refine hl_aload_n hx hb dX3_clear_25 rfl (lv_at hl 0 rfl) ?_
  refine lv_iconst (v := 0) hx hb dX3_clear_26 (by decide) ?_
  obtain ⟨w6, hw6, hf⟩ := bnd hf
  replace hw6 := Option.some.inj hw6
  refine p3_5 (v := 0) hx hb hts hown hKs hH rfl ho m1_112 dX3_clear_27 (fun H locs hH => ?_)
  rw [hw6] at hH
  refine hl_aload_n hx hb dX3_clear_30 rfl (lv_at hl 0 rfl) ?_
  refine lv_iconst (v := 0) hx hb dX3_clear_31 (by decide) ?_
  obtain ⟨w7, hw7, hf⟩ := bnd hf
  replace hw7 := Option.some.inj hw7
  refine p3_6 (v := 0) hx hb hts hown hKs hH rfl ho m1_117 dX3_clear_32 (fun H locs hH => ?_)
  rw [hw7] at hH
  exact hw_vret hx hb hret hf hH hlocks dX3_clear_35

theorem dX4_init_0 : decode cX4_init 0 = .ok (.aload_n 0, 1) := by decide +kernel
theorem dX4_init_1 : decode cX4_init 1 = .ok (.invokespecial 3, 3) := by decide +kernel
theorem dX4_init_4 : decode cX4_init 4 = .ok (.aload_n 0, 1) := by decide +kernel
theorem dX4_init_5 : decode cX4_init 5 = .ok (.iload_n 1, 1) := by decide +kernel
theorem dX4_init_6 : decode cX4_init 6 = .ok (.iconst 0, 1) := by decide +kernel
theorem dX4_init_7 : decode cX4_init 7 = .ok (.invokestatic 9, 3) := by decide +kernel
theorem dX4_init_10 : decode cX4_init 10 = .ok (.newarray .long, 2) := by decide +kernel
theorem dX4_init_12 : decode cX4_init 12 = .ok (.putfield 15, 3) := by decide +kernel
theorem dX4_init_15 : decode cX4_init 15 = .ok (.return_, 1) := by decide +kernel
theorem hd_X4_init : yX4_init.cls = RX4 ∧ yX4_init.cls ≠ "java/lang/invoke/MethodHandle" ∧ yX4_init.cls ≠ "java/lang/invoke/VarHandle" ∧ (parseMethodDescriptor yX4_init.desc).map (fun d => d.parameters.length) = some 1 := by decide +kernel
theorem hs_X4_init : yX4_init.cls ≠ "java/lang/invoke/MethodHandle" ∧ yX4_init.cls ≠ "java/lang/invoke/VarHandle" ∧ (parseMethodDescriptor yX4_init.desc).map (fun d => d.parameters.length) = some 1 := by decide +kernel
set_option maxHeartbeats 4000000 in
set_option maxRecDepth 100000 in
theorem k_X4_init (l : Launch) (E : Ev) (K : Kd) (n : Nat) (o : Nat) (a_1 : Int32) (w : Wd) {K' : Kd} {n' : Nat} {w' : Wd} (hf : f_X4_init K n o a_1 w = some (K', n', w')) : Met l yX4_init (Cond.code yX4_init cX4_init 2 (Option.none : Option Jvm.ClassFile.FieldType) :: bt) ({ frames := 1, cells := 1, slots := 12, locals := 21 } : Room) (va_Pc [rv E (some o), .int a_1] (HB E K w (E.2.1 + n))) (QV E K' (E.2.1 + n') w') 1 12 (hA E) := by
  refine Met.ofW (cc := cX4_init) (maxL := 2) (ret := (Option.none : Option Jvm.ClassFile.FieldType)) (by decide) rfl ?_
  intro p e s m args below meth c s₁ B hml hv
  have hn2 : meth.name = "<init>" := (name_of_methodNamed B.named B.method).1
  obtain ⟨rfl, hz, hP, hKs, hT, hb0⟩ := hv
  have C : CX p l e s m _ meth c cX4_init 2 RX4 (Option.none : Option Jvm.ClassFile.FieldType) E := ⟨B.exec, B.bytes, hml, findClass_of_methodNamed B.named, fun w h => atoms_spec (ws := Cond.code yX4_init cX4_init 2 (Option.none : Option Jvm.ClassFile.FieldType) :: bt) B.pre w (List.mem_cons_of_mem _ h), hKs, hT, by rw [hz]; exact hb0, B.notSynchronized, B.returns⟩
  have hH : HQ E K (E.2.1 + n) w s s.heap [] := ⟨hP, va_S.rf, hz⟩
  obtain ⟨hx, hb, hml, hown, hts, hKs, hT, hb0, hlocks, hret⟩ := id C
  have hl := lv_entry [rv E (some o), .int a_1] (n := 2) (by simp [lg_len_nil, lg_len_i, lg_len_j, lg_len_q, lg_len_f, lg_len_d, lg_len_r])
  rw [lg_entry_eq]
  generalize (lg_sl [rv E (some o), .int a_1] ++ List.replicate (2 - (lg_sl [rv E (some o), .int a_1]).length) Slot.unset).toArray = ls at hl ⊢
  replace hl : lv_has ls 2 [(0, rv E (some o)), (1, .int a_1)] := by simpa only [lv_args, cat_q, cat_i, cat_j, reduceIte, Nat.reduceEqDiff, Nat.reduceAdd, Nat.zero_add] using hl
  generalize s.heap = H at hH ⊢
  unfold f_X4_init at hf
  refine hl_aload_n hx hb dX4_init_0 rfl (lv_at hl 0 rfl) ?_
  refine hw_obj hx hb hml hl.1 hown hts m1_72 m1_40 m1_41 dX4_init_1 (Nat.le_of_ble_eq_true rfl) (Nat.le_of_ble_eq_true rfl) ?_
  refine hl_aload_n hx hb dX4_init_4 rfl (lv_at hl 0 rfl) ?_
  refine lv_iload_n hx hb dX4_init_5 rfl (lv_at hl 1 rfl) ?_
  refine lv_iconst (v := 0) hx hb dX4_init_6 (by decide) ?_
  refine va_mmax hx hb (hml.trans hl.1.symm) hown (hts _ m1_73) (hts _ m1_74) (hts _ m1_5) (hts _ m1_75) (Nat.le_of_ble_eq_true rfl) (Nat.le_trans (Nat.add_le_add_right (show rc 8 [rv E (some o)] from (rcV rc0)) 13) (Nat.le_of_ble_eq_true rfl)) (Nat.le_of_ble_eq_true rfl) (Nat.le_of_ble_eq_true rfl) dX4_init_7 ?_
  obtain ⟨_, hg1, hf⟩ := bnd hf
  replace hg1 := grd_some hg1
  refine hw_newa23 (N := (imax a_1 0).toNatClampNeg) hx hb hts m1_84 hKs hH hg1.1 rfl (Nat.le_trans (Nat.mul_le_mul_right _ hg1.2) (Nat.le_of_ble_eq_true rfl)) (Nat.le_of_ble_eq_true rfl) (Nat.le_trans (Nat.add_le_add_left hg1.2 _) (Nat.le_of_ble_eq_true rfl)) dX4_init_10 (fun H hH => ?_)
  obtain ⟨K2, hK2, hf⟩ := bnd hf
  replace hK2 := Option.some.inj hK2
  obtain ⟨w3, hw3, hf⟩ := bnd hf
  replace hw3 := Option.some.inj hw3
  rw [hK2, hw3] at hH
  refine W.widen (k := 1) (n := 12) (Nat.le_refl _) (Nat.add_le_add_left hg1.2 _) ?_
  obtain ⟨a4, ha4, hf⟩ := bnd hf
  replace ha4 := chk_some ha4
  obtain ⟨w5, hw5, hf⟩ := bnd hf
  replace hw5 := Option.some.inj hw5
  refine pf4_0 (v := (some n)) hx hb hts hown hKs hH ha4.1 ha4.2 hn2 m1_76 dX4_init_12 (fun H locs hH => ?_)
  rw [hw5] at hH
  exact hw_aret hx hb (Nat.le_of_ble_eq_true rfl) (Nat.le_of_ble_eq_true rfl) hret hf hH hlocks dX4_init_15

theorem dX4_isFull_0 : decode cX4_isFull 0 = .ok (.aload_n 0, 1) := by decide +kernel
theorem dX4_isFull_1 : decode cX4_isFull 1 = .ok (.getfield 21, 3) := by decide +kernel
theorem dX4_isFull_4 : decode cX4_isFull 4 = .ok (.aload_n 0, 1) := by decide +kernel
theorem dX4_isFull_5 : decode cX4_isFull 5 = .ok (.getfield 15, 3) := by decide +kernel
theorem dX4_isFull_8 : decode cX4_isFull 8 = .ok (.arraylength, 1) := by decide +kernel
theorem dX4_isFull_9 : decode cX4_isFull 9 = .ok (.if_icmp .lt 7, 3) := by decide +kernel
theorem dX4_isFull_12 : decode cX4_isFull 12 = .ok (.iconst 1, 1) := by decide +kernel
theorem dX4_isFull_13 : decode cX4_isFull 13 = .ok (.goto 4, 3) := by decide +kernel
theorem dX4_isFull_16 : decode cX4_isFull 16 = .ok (.iconst 0, 1) := by decide +kernel
theorem dX4_isFull_17 : decode cX4_isFull 17 = .ok (.ireturn, 1) := by decide +kernel
theorem hd_X4_isFull : yX4_isFull.cls = RX4 ∧ yX4_isFull.cls ≠ "java/lang/invoke/MethodHandle" ∧ yX4_isFull.cls ≠ "java/lang/invoke/VarHandle" ∧ (parseMethodDescriptor yX4_isFull.desc).map (fun d => d.parameters.length) = some 0 := by decide +kernel
theorem hs_X4_isFull : yX4_isFull.cls ≠ "java/lang/invoke/MethodHandle" ∧ yX4_isFull.cls ≠ "java/lang/invoke/VarHandle" ∧ (parseMethodDescriptor yX4_isFull.desc).map (fun d => d.parameters.length) = some 0 := by decide +kernel
set_option maxHeartbeats 4000000 in
set_option maxRecDepth 100000 in
theorem k_X4_isFull (l : Launch) (E : Ev) (K : Kd) (z : Nat) (o : Nat) (w : Wd) (ho : K o = some (3, 0)) {r : Bool} {w' : Wd} (hf : f_X4_isFull K o w = some (r, w')) : Met l yX4_isFull (Cond.code yX4_isFull cX4_isFull 1 (Option.some Jvm.ClassFile.FieldType.boolean) :: bt) ({ frames := 0, cells := 0, slots := 0, locals := 0 } : Room) (va_Pc [rv E (some o)] (HB E K w z)) (QI E K z w' (b2i r)) 0 0 (hA E) := by
  refine Met.ofW (cc := cX4_isFull) (maxL := 1) (ret := (Option.some Jvm.ClassFile.FieldType.boolean)) (by decide) rfl ?_
  intro p e s m args below meth c s₁ B hml hv
  obtain ⟨rfl, hz, hP, hKs, hT, hb0⟩ := hv
  have C : CX p l e s m _ meth c cX4_isFull 1 RX4 (Option.some Jvm.ClassFile.FieldType.boolean) E := ⟨B.exec, B.bytes, hml, findClass_of_methodNamed B.named, fun w h => atoms_spec (ws := Cond.code yX4_isFull cX4_isFull 1 (Option.some Jvm.ClassFile.FieldType.boolean) :: bt) B.pre w (List.mem_cons_of_mem _ h), hKs, hT, by rw [hz]; exact hb0, B.notSynchronized, B.returns⟩
  have hH : HQ E K z w s s.heap [] := ⟨hP, va_S.rf, hz⟩
  obtain ⟨hx, hb, hml, hown, hts, hKs, hT, hb0, hlocks, hret⟩ := id C
  have hl := lv_entry [rv E (some o)] (n := 1) (by simp [lg_len_nil, lg_len_i, lg_len_j, lg_len_q, lg_len_f, lg_len_d, lg_len_r])
  rw [lg_entry_eq]
  generalize (lg_sl [rv E (some o)] ++ List.replicate (1 - (lg_sl [rv E (some o)]).length) Slot.unset).toArray = ls at hl ⊢
  replace hl : lv_has ls 1 [(0, rv E (some o))] := by simpa only [lv_args, cat_q, cat_i, cat_j, reduceIte, Nat.reduceEqDiff, Nat.reduceAdd, Nat.zero_add] using hl
  generalize s.heap = H at hH ⊢
  unfold f_X4_isFull at hf
  refine hl_aload_n hx hb dX4_isFull_0 rfl (lv_at hl 0 rfl) ?_
  refine g4_1 hx hb hts hown hKs hH rfl ho m1_77 dX4_isFull_1 ?_
  refine hl_aload_n hx hb dX4_isFull_4 rfl (lv_at hl 0 rfl) ?_
  refine g4_0 hx hb hts hown hKs hH rfl ho m1_76 dX4_isFull_5 ?_
  obtain ⟨a1, ha1, hf⟩ := bnd hf
  replace ha1 := cha_some ha1
  refine hw_alen23 hx hb hKs hH ha1.1 ha1.2 dX4_isFull_8 ?_
  refine lv_icmp_lt (tgt := 16) hx hb dX4_isFull_9 (by decide) (fun c2 => ?_) (fun c2 => ?_)
  · replace hf := (if_pos c2).symm.trans hf
    refine lv_iconst (v := 0) hx hb dX4_isFull_16 (by decide) ?_
    exact hw_zret hx hb hret rfl hf hH hlocks dX4_isFull_17
  · replace hf := (if_neg c2).symm.trans hf
    refine lv_iconst (v := 1) hx hb dX4_isFull_12 (by decide) ?_
    refine lv_goto (tgt := 17) hx hb dX4_isFull_13 (by decide) ?_
    exact hw_zret hx hb hret rfl hf hH hlocks dX4_isFull_17

theorem dX4_add_0 : decode cX4_add 0 = .ok (.aload_n 0, 1) := by decide +kernel
theorem dX4_add_1 : decode cX4_add 1 = .ok (.getfield 21, 3) := by decide +kernel
theorem dX4_add_4 : decode cX4_add 4 = .ok (.aload_n 0, 1) := by decide +kernel
theorem dX4_add_5 : decode cX4_add 5 = .ok (.getfield 15, 3) := by decide +kernel
theorem dX4_add_8 : decode cX4_add 8 = .ok (.arraylength, 1) := by decide +kernel
theorem dX4_add_9 : decode cX4_add 9 = .ok (.if_icmp .ge 23, 3) := by decide +kernel
theorem dX4_add_12 : decode cX4_add 12 = .ok (.aload_n 0, 1) := by decide +kernel
theorem dX4_add_13 : decode cX4_add 13 = .ok (.getfield 15, 3) := by decide +kernel
theorem dX4_add_16 : decode cX4_add 16 = .ok (.aload_n 0, 1) := by decide +kernel
theorem dX4_add_17 : decode cX4_add 17 = .ok (.getfield 21, 3) := by decide +kernel
theorem dX4_add_20 : decode cX4_add 20 = .ok (.lload_n 1, 1) := by decide +kernel
theorem dX4_add_21 : decode cX4_add 21 = .ok (.lastore, 1) := by decide +kernel
theorem dX4_add_22 : decode cX4_add 22 = .ok (.aload_n 0, 1) := by decide +kernel
theorem dX4_add_23 : decode cX4_add 23 = .ok (.dup, 1) := by decide +kernel
theorem dX4_add_24 : decode cX4_add 24 = .ok (.getfield 21, 3) := by decide +kernel
theorem dX4_add_27 : decode cX4_add 27 = .ok (.iconst 1, 1) := by decide +kernel
theorem dX4_add_28 : decode cX4_add 28 = .ok (.iadd, 1) := by decide +kernel
theorem dX4_add_29 : decode cX4_add 29 = .ok (.putfield 21, 3) := by decide +kernel
theorem dX4_add_32 : decode cX4_add 32 = .ok (.return_, 1) := by decide +kernel
theorem hd_X4_add : yX4_add.cls = RX4 ∧ yX4_add.cls ≠ "java/lang/invoke/MethodHandle" ∧ yX4_add.cls ≠ "java/lang/invoke/VarHandle" ∧ (parseMethodDescriptor yX4_add.desc).map (fun d => d.parameters.length) = some 1 := by decide +kernel
theorem hs_X4_add : yX4_add.cls ≠ "java/lang/invoke/MethodHandle" ∧ yX4_add.cls ≠ "java/lang/invoke/VarHandle" ∧ (parseMethodDescriptor yX4_add.desc).map (fun d => d.parameters.length) = some 1 := by decide +kernel
set_option maxHeartbeats 4000000 in
set_option maxRecDepth 100000 in
theorem k_X4_add (l : Launch) (E : Ev) (K : Kd) (z : Nat) (o : Nat) (a_1 : Int64) (w : Wd) (ho : K o = some (3, 0)) {w' : Wd} (hf : f_X4_add K o a_1 w = some w') : Met l yX4_add (Cond.code yX4_add cX4_add 3 (Option.none : Option Jvm.ClassFile.FieldType) :: bt) ({ frames := 0, cells := 0, slots := 0, locals := 0 } : Room) (va_Pc [rv E (some o), .long a_1] (HB E K w z)) (QV E K z w') 0 0 (hA E) := by
  refine Met.ofW (cc := cX4_add) (maxL := 3) (ret := (Option.none : Option Jvm.ClassFile.FieldType)) (by decide) rfl ?_
  intro p e s m args below meth c s₁ B hml hv
  obtain ⟨rfl, hz, hP, hKs, hT, hb0⟩ := hv
  have C : CX p l e s m _ meth c cX4_add 3 RX4 (Option.none : Option Jvm.ClassFile.FieldType) E := ⟨B.exec, B.bytes, hml, findClass_of_methodNamed B.named, fun w h => atoms_spec (ws := Cond.code yX4_add cX4_add 3 (Option.none : Option Jvm.ClassFile.FieldType) :: bt) B.pre w (List.mem_cons_of_mem _ h), hKs, hT, by rw [hz]; exact hb0, B.notSynchronized, B.returns⟩
  have hH : HQ E K z w s s.heap [] := ⟨hP, va_S.rf, hz⟩
  obtain ⟨hx, hb, hml, hown, hts, hKs, hT, hb0, hlocks, hret⟩ := id C
  have hl := lv_entry [rv E (some o), .long a_1] (n := 3) (by simp [lg_len_nil, lg_len_i, lg_len_j, lg_len_q, lg_len_f, lg_len_d, lg_len_r])
  rw [lg_entry_eq]
  generalize (lg_sl [rv E (some o), .long a_1] ++ List.replicate (3 - (lg_sl [rv E (some o), .long a_1]).length) Slot.unset).toArray = ls at hl ⊢
  replace hl : lv_has ls 3 [(0, rv E (some o)), (1, .long a_1)] := by simpa only [lv_args, cat_q, cat_i, cat_j, reduceIte, Nat.reduceEqDiff, Nat.reduceAdd, Nat.zero_add] using hl
  generalize s.heap = H at hH ⊢
  unfold f_X4_add at hf
  refine hl_aload_n hx hb dX4_add_0 rfl (lv_at hl 0 rfl) ?_
  refine g4_1 hx hb hts hown hKs hH rfl ho m1_77 dX4_add_1 ?_
  refine hl_aload_n hx hb dX4_add_4 rfl (lv_at hl 0 rfl) ?_
  refine g4_0 hx hb hts hown hKs hH rfl ho m1_76 dX4_add_5 ?_
  obtain ⟨a1, ha1, hf⟩ := bnd hf
  replace ha1 := cha_some ha1
  refine hw_alen23 hx hb hKs hH ha1.1 ha1.2 dX4_add_8 ?_
  refine lv_icmp_ge (tgt := 32) hx hb dX4_add_9 (by decide) (fun c2 => ?_) (fun c2 => ?_)
  · replace hf := (if_pos c2).symm.trans hf
    exact hw_vret hx hb hret hf hH hlocks dX4_add_32
  · replace hf := (if_neg c2).symm.trans hf
    refine hl_aload_n hx hb dX4_add_12 rfl (lv_at hl 0 rfl) ?_
    refine g4_0 hx hb hts hown hKs hH rfl ho m1_76 dX4_add_13 ?_
    refine hl_aload_n hx hb dX4_add_16 rfl (lv_at hl 0 rfl) ?_
    refine g4_1 hx hb hts hown hKs hH rfl ho m1_77 dX4_add_17 ?_
    refine lv_lload_n hx hb dX4_add_20 rfl (lv_at hl 1 rfl) ?_
    obtain ⟨j3, hj3, hf⟩ := bnd hf
    obtain ⟨w4, hw4, hf⟩ := bnd hf
    replace hw4 := Option.some.inj hw4
    refine hw_last (x := a_1) hx hb hKs hH ha1.1 ha1.2 hj3 dX4_add_21 (fun H locs hH => ?_)
    rw [hw4] at hH
    refine hl_aload_n hx hb dX4_add_22 rfl (lv_at hl 0 rfl) ?_
    refine lv_dup hx hb dX4_add_23 rv_cat ?_
    refine g4_1 hx hb hts hown hKs hH rfl ho m1_77 dX4_add_24 ?_
    refine lv_iconst (v := 1) hx hb dX4_add_27 (by decide) ?_
    refine lv_iadd hx hb dX4_add_28 ?_
    obtain ⟨w5, hw5, hf⟩ := bnd hf
    replace hw5 := Option.some.inj hw5
    refine p4_1 (v := ((wI w4 401 o) + 1)) hx hb hts hown hKs hH rfl ho m1_77 dX4_add_29 (fun H locs hH => ?_)
    rw [hw5] at hH
    exact hw_vret hx hb hret hf hH hlocks dX4_add_32

theorem dX4_indexOf_0 : decode cX4_indexOf 0 = .ok (.iconst 0, 1) := by decide +kernel
theorem dX4_indexOf_1 : decode cX4_indexOf 1 = .ok (.istore_n 3, 1) := by decide +kernel
theorem dX4_indexOf_2 : decode cX4_indexOf 2 = .ok (.iload_n 3, 1) := by decide +kernel
theorem dX4_indexOf_3 : decode cX4_indexOf 3 = .ok (.aload_n 0, 1) := by decide +kernel
theorem dX4_indexOf_4 : decode cX4_indexOf 4 = .ok (.getfield 21, 3) := by decide +kernel
theorem dX4_indexOf_7 : decode cX4_indexOf 7 = .ok (.if_icmp .ge 22, 3) := by decide +kernel
theorem dX4_indexOf_10 : decode cX4_indexOf 10 = .ok (.aload_n 0, 1) := by decide +kernel
theorem dX4_indexOf_11 : decode cX4_indexOf 11 = .ok (.getfield 15, 3) := by decide +kernel
theorem dX4_indexOf_14 : decode cX4_indexOf 14 = .ok (.iload_n 3, 1) := by decide +kernel
theorem dX4_indexOf_15 : decode cX4_indexOf 15 = .ok (.laload, 1) := by decide +kernel
theorem dX4_indexOf_16 : decode cX4_indexOf 16 = .ok (.lload_n 1, 1) := by decide +kernel
theorem dX4_indexOf_17 : decode cX4_indexOf 17 = .ok (.lcmp, 1) := by decide +kernel
theorem dX4_indexOf_18 : decode cX4_indexOf 18 = .ok (.ifCond .ne 5, 3) := by decide +kernel
theorem dX4_indexOf_21 : decode cX4_indexOf 21 = .ok (.iload_n 3, 1) := by decide +kernel
theorem dX4_indexOf_22 : decode cX4_indexOf 22 = .ok (.ireturn, 1) := by decide +kernel
theorem dX4_indexOf_23 : decode cX4_indexOf 23 = .ok (.iinc 3 1, 3) := by decide +kernel
theorem dX4_indexOf_26 : decode cX4_indexOf 26 = .ok (.goto (-24), 3) := by decide +kernel
theorem dX4_indexOf_29 : decode cX4_indexOf 29 = .ok (.iconst (-1), 1) := by decide +kernel
theorem dX4_indexOf_30 : decode cX4_indexOf 30 = .ok (.ireturn, 1) := by decide +kernel
theorem hd_X4_indexOf : yX4_indexOf.cls = RX4 ∧ yX4_indexOf.cls ≠ "java/lang/invoke/MethodHandle" ∧ yX4_indexOf.cls ≠ "java/lang/invoke/VarHandle" ∧ (parseMethodDescriptor yX4_indexOf.desc).map (fun d => d.parameters.length) = some 1 := by decide +kernel
theorem hs_X4_indexOf : yX4_indexOf.cls ≠ "java/lang/invoke/MethodHandle" ∧ yX4_indexOf.cls ≠ "java/lang/invoke/VarHandle" ∧ (parseMethodDescriptor yX4_indexOf.desc).map (fun d => d.parameters.length) = some 1 := by decide +kernel
set_option maxHeartbeats 4000000 in
set_option maxRecDepth 100000 in
theorem l_X4_indexOf_L2 (C : CX p l e s m args meth c cX4_indexOf 4 RX4 (Option.some Jvm.ClassFile.FieldType.int) E) {o : Nat} (ho : K o = some (3, 0)) {r : Int32} {w' : Wd} (k : Int64 → Int32 → Wd → Option (Int32 × Wd)) (hk : ∀ (v1_2 : Int64) (v3_2 : Int32) (w : Wd) (H : Heap) (locs : List Loc) (ls : Array Slot), HQ E K z w s H locs → lv_has ls 4 [(1, .long v1_2), (3, .int v3_2), (0, rv E (some o))] → k v1_2 v3_2 w = some (r, w') → W p l e ({ frames := 0, cells := 0, slots := 0, locals := 0 } : Room) s m args below meth c H locs 0 0 (MQ below (QI E K z w' r) args s 0 0 (hA E)) (F0 m 29 ls [])) : ∀ (n : Nat) (v1_2 : Int64) (v3_2 : Int32) (w : Wd) (H : Heap) (locs : List Loc) (ls : Array Slot), HQ E K z w s H locs → lv_has ls 4 [(1, .long v1_2), (3, .int v3_2), (0, rv E (some o))] → f_X4_indexOf_L2 K o k n v1_2 v3_2 w = some (r, w') → W p l e ({ frames := 0, cells := 0, slots := 0, locals := 0 } : Room) s m args below meth c H locs 0 0 (MQ below (QI E K z w' r) args s 0 0 (hA E)) (F0 m 2 ls []) := by
  obtain ⟨hx, hb, hml, hown, hts, hKs, hT, hb0, hlocks, hret⟩ := id C
  intro n
  induction n with
  | zero =>
    intro v1_2 v3_2 w H locs ls hH hl hf
    cases hf
  | succ n ih =>
    intro v1_2 v3_2 w H locs ls hH hl hf
    rw [f_X4_indexOf_L2] at hf
    refine lv_iload_n hx hb dX4_indexOf_2 rfl (lv_at hl 1 rfl) ?_
    refine hl_aload_n hx hb dX4_indexOf_3 rfl (lv_at hl 2 rfl) ?_
    refine g4_1 hx hb hts hown hKs hH rfl ho m1_77 dX4_indexOf_4 ?_
    refine lv_icmp_ge (tgt := 29) hx hb dX4_indexOf_7 (by decide) (fun c2 => ?_) (fun c2 => ?_)
    · replace hf := (if_pos c2).symm.trans hf
      exact hk v1_2 v3_2 _ _ _ _ hH (lv_sub hl [0, 1, 2] rfl) hf
    · replace hf := (if_neg c2).symm.trans hf
      refine hl_aload_n hx hb dX4_indexOf_10 rfl (lv_at hl 2 rfl) ?_
      refine g4_0 hx hb hts hown hKs hH rfl ho m1_76 dX4_indexOf_11 ?_
      refine lv_iload_n hx hb dX4_indexOf_14 rfl (lv_at hl 1 rfl) ?_
      obtain ⟨a3, ha3, hf⟩ := bnd hf
      replace ha3 := cha_some ha3
      obtain ⟨j4, hj4, hf⟩ := bnd hf
      refine hw_lald hx hb hKs hH ha3.1 ha3.2 hj4 dX4_indexOf_15 ?_
      refine lv_lload_n hx hb dX4_indexOf_16 rfl (lv_at hl 0 rfl) ?_
      refine W.lcmp hx hb dX4_indexOf_17 ?_
      refine lv_if_ne (tgt := 23) hx hb dX4_indexOf_18 (by decide) (fun c5 => ?_) (fun c5 => ?_)
      · replace hf := (if_neg c5).symm.trans hf
        refine lv_iinc (v := (v3_2 + 1)) (lv' := [(3, .int ((v3_2 + 1))), (1, .long v1_2), (0, rv E (some o))]) hx hb dX4_indexOf_23 hl (k := 1) rfl rfl (by decide) rfl (fun ls hl => ?_)
        refine lv_goto (tgt := 2) hx hb dX4_indexOf_26 (by decide) ?_
        exact ih v1_2 (v3_2 + 1) _ _ _ _ hH (lv_sub hl [1, 0, 2] rfl) hf
      · replace hf := (if_pos c5).symm.trans hf
        refine lv_iload_n hx hb dX4_indexOf_21 rfl (lv_at hl 1 rfl) ?_
        exact hw_iret hx hb hret hf hH hlocks dX4_indexOf_22
set_option maxHeartbeats 4000000 in
set_option maxRecDepth 100000 in
theorem k_X4_indexOf (l : Launch) (E : Ev) (K : Kd) (z : Nat) (o : Nat) (a_1 : Int64) (w : Wd) (ho : K o = some (3, 0)) {r : Int32} {w' : Wd} (hf : f_X4_indexOf K o a_1 w = some (r, w')) : Met l yX4_indexOf (Cond.code yX4_indexOf cX4_indexOf 4 (Option.some Jvm.ClassFile.FieldType.int) :: bt) ({ frames := 0, cells := 0, slots := 0, locals := 0 } : Room) (va_Pc [rv E (some o), .long a_1] (HB E K w z)) (QI E K z w' r) 0 0 (hA E) := by
  refine Met.ofW (cc := cX4_indexOf) (maxL := 4) (ret := (Option.some Jvm.ClassFile.FieldType.int)) (by decide) rfl ?_
  intro p e s m args below meth c s₁ B hml hv
  obtain ⟨rfl, hz, hP, hKs, hT, hb0⟩ := hv
  have C : CX p l e s m _ meth c cX4_indexOf 4 RX4 (Option.some Jvm.ClassFile.FieldType.int) E := ⟨B.exec, B.bytes, hml, findClass_of_methodNamed B.named, fun w h => atoms_spec (ws := Cond.code yX4_indexOf cX4_indexOf 4 (Option.some Jvm.ClassFile.FieldType.int) :: bt) B.pre w (List.mem_cons_of_mem _ h), hKs, hT, by rw [hz]; exact hb0, B.notSynchronized, B.returns⟩
  have hH : HQ E K z w s s.heap [] := ⟨hP, va_S.rf, hz⟩
  obtain ⟨hx, hb, hml, hown, hts, hKs, hT, hb0, hlocks, hret⟩ := id C
  have hl := lv_entry [rv E (some o), .long a_1] (n := 4) (by simp [lg_len_nil, lg_len_i, lg_len_j, lg_len_q, lg_len_f, lg_len_d, lg_len_r])
  rw [lg_entry_eq]
  generalize (lg_sl [rv E (some o), .long a_1] ++ List.replicate (4 - (lg_sl [rv E (some o), .long a_1]).length) Slot.unset).toArray = ls at hl ⊢
  replace hl : lv_has ls 4 [(0, rv E (some o)), (1, .long a_1)] := by simpa only [lv_args, cat_q, cat_i, cat_j, reduceIte, Nat.reduceEqDiff, Nat.reduceAdd, Nat.zero_add] using hl
  generalize s.heap = H at hH ⊢
  unfold f_X4_indexOf at hf
  refine lv_iconst (v := 0) hx hb dX4_indexOf_0 (by decide) ?_
  refine lv_istore_n (i := 3) (lv' := [(3, .int 0), (0, rv E (some o)), (1, .long a_1)]) hx hb dX4_indexOf_1 rfl hl (by decide) rfl (fun ls hl => ?_)
  refine l_X4_indexOf_L2  C ho _ (fun v1_2 v3_2 w1 H locs ls hH hl hf => ?_) fu a_1 0 w _ _ _ hH (lv_sub hl [2, 0, 1] rfl) hf
  refine lv_iconst (v := (-1)) hx hb dX4_indexOf_29 (by decide) ?_
  exact hw_iret hx hb hret hf hH hlocks dX4_indexOf_30

theorem dX5_exchange_0 : decode cX5_exchange 0 = .ok (.aload_n 0, 1) := by decide +kernel
theorem dX5_exchange_1 : decode cX5_exchange 1 = .ok (.getfield 21, 3) := by decide +kernel
theorem dX5_exchange_4 : decode cX5_exchange 4 = .ok (.astore_n 2, 1) := by decide +kernel
theorem dX5_exchange_5 : decode cX5_exchange 5 = .ok (.aload_n 0, 1) := by decide +kernel
theorem dX5_exchange_6 : decode cX5_exchange 6 = .ok (.aload_n 1, 1) := by decide +kernel
theorem dX5_exchange_7 : decode cX5_exchange 7 = .ok (.putfield 21, 3) := by decide +kernel
theorem dX5_exchange_10 : decode cX5_exchange 10 = .ok (.aload_n 2, 1) := by decide +kernel
theorem dX5_exchange_11 : decode cX5_exchange 11 = .ok (.areturn, 1) := by decide +kernel
theorem hd_X5_exchange : yX5_exchange.cls = RX5 ∧ yX5_exchange.cls ≠ "java/lang/invoke/MethodHandle" ∧ yX5_exchange.cls ≠ "java/lang/invoke/VarHandle" ∧ (parseMethodDescriptor yX5_exchange.desc).map (fun d => d.parameters.length) = some 1 := by decide +kernel
theorem hs_X5_exchange : yX5_exchange.cls ≠ "java/lang/invoke/MethodHandle" ∧ yX5_exchange.cls ≠ "java/lang/invoke/VarHandle" ∧ (parseMethodDescriptor yX5_exchange.desc).map (fun d => d.parameters.length) = some 1 := by decide +kernel
set_option maxHeartbeats 4000000 in
set_option maxRecDepth 100000 in
theorem k_X5_exchange (l : Launch) (E : Ev) (K : Kd) (z : Nat) (o : Nat) (a_1 : Option Nat) (w : Wd) (ho : K o = some (4, 0)) {r : Option Nat} {w' : Wd} (hf : f_X5_exchange K o a_1 w = some (r, w')) : Met l yX5_exchange (Cond.code yX5_exchange cX5_exchange 3 (Option.some (Jvm.ClassFile.FieldType.object RX9)) :: bt) ({ frames := 0, cells := 0, slots := 0, locals := 0 } : Room) (va_Pc [rv E (some o), rv E a_1] (HB E K w z)) (QR E K z w' r) 0 0 (hA E) := by
  refine Met.ofW (cc := cX5_exchange) (maxL := 3) (ret := (Option.some (Jvm.ClassFile.FieldType.object RX9))) (by decide) rfl ?_
  intro p e s m args below meth c s₁ B hml hv
  obtain ⟨rfl, hz, hP, hKs, hT, hb0⟩ := hv
  have C : CX p l e s m _ meth c cX5_exchange 3 RX5 (Option.some (Jvm.ClassFile.FieldType.object RX9)) E := ⟨B.exec, B.bytes, hml, findClass_of_methodNamed B.named, fun w h => atoms_spec (ws := Cond.code yX5_exchange cX5_exchange 3 (Option.some (Jvm.ClassFile.FieldType.object RX9)) :: bt) B.pre w (List.mem_cons_of_mem _ h), hKs, hT, by rw [hz]; exact hb0, B.notSynchronized, B.returns⟩
  have hH : HQ E K z w s s.heap [] := ⟨hP, va_S.rf, hz⟩
  obtain ⟨hx, hb, hml, hown, hts, hKs, hT, hb0, hlocks, hret⟩ := id C
  have hl := lv_entry [rv E (some o), rv E a_1] (n := 3) (by simp [lg_len_nil, lg_len_i, lg_len_j, lg_len_q, lg_len_f, lg_len_d, lg_len_r])
  rw [lg_entry_eq]
  generalize (lg_sl [rv E (some o), rv E a_1] ++ List.replicate (3 - (lg_sl [rv E (some o), rv E a_1]).length) Slot.unset).toArray = ls at hl ⊢
  replace hl : lv_has ls 3 [(0, rv E (some o)), (1, rv E a_1)] := by simpa only [lv_args, cat_q, cat_i, cat_j, reduceIte, Nat.reduceEqDiff, Nat.reduceAdd, Nat.zero_add] using hl
  generalize s.heap = H at hH ⊢
  unfold f_X5_exchange at hf
  refine hl_aload_n hx hb dX5_exchange_0 rfl (lv_at hl 0 rfl) ?_
  refine g5_1 hx hb hts hown hKs hH rfl ho m2_25 dX5_exchange_1 ?_
  refine hl_astore_n (i := 2) (lv' := [(2, rv E (wR w 501 o)), (0, rv E (some o)), (1, rv E a_1)]) hx hb dX5_exchange_4 rfl hl (by decide) (by simp [List.filter_cons, cat_q, cat_i, cat_j, imax, imin]) (fun ls hl => ?_)
  refine hl_aload_n hx hb dX5_exchange_5 rfl (lv_at hl 1 rfl) ?_
  refine hl_aload_n hx hb dX5_exchange_6 rfl (lv_at hl 2 rfl) ?_
  obtain ⟨w1, hw1, hf⟩ := bnd hf
  replace hw1 := Option.some.inj hw1
  refine p5_1 (v := a_1) hx hb hts hown hKs hH rfl ho m2_25 dX5_exchange_7 (fun H locs hH => ?_)
  rw [hw1] at hH
  refine hl_aload_n hx hb dX5_exchange_10 rfl (lv_at hl 0 rfl) ?_
  exact hw_qret hx hb hret (by simp) hf hH hlocks dX5_exchange_11

theorem dX5_fail_0 : decode cX5_fail 0 = .ok (.aload_n 0, 1) := by decide +kernel
theorem dX5_fail_1 : decode cX5_fail 1 = .ok (.iload_n 1, 1) := by decide +kernel
theorem dX5_fail_2 : decode cX5_fail 2 = .ok (.putfield 29, 3) := by decide +kernel
theorem dX5_fail_5 : decode cX5_fail 5 = .ok (.aload_n 0, 1) := by decide +kernel
theorem dX5_fail_6 : decode cX5_fail 6 = .ok (.aload_n 0, 1) := by decide +kernel
theorem dX5_fail_7 : decode cX5_fail 7 = .ok (.getfield 12, 3) := by decide +kernel
theorem dX5_fail_10 : decode cX5_fail 10 = .ok (.getfield 59, 3) := by decide +kernel
theorem dX5_fail_13 : decode cX5_fail 13 = .ok (.putfield 25, 3) := by decide +kernel
theorem dX5_fail_16 : decode cX5_fail 16 = .ok (.iconst 0, 1) := by decide +kernel
theorem dX5_fail_17 : decode cX5_fail 17 = .ok (.ireturn, 1) := by decide +kernel
theorem hd_X5_fail : yX5_fail.cls = RX5 ∧ yX5_fail.cls ≠ "java/lang/invoke/MethodHandle" ∧ yX5_fail.cls ≠ "java/lang/invoke/VarHandle" ∧ (parseMethodDescriptor yX5_fail.desc).map (fun d => d.parameters.length) = some 1 := by decide +kernel
theorem hs_X5_fail : yX5_fail.cls ≠ "java/lang/invoke/MethodHandle" ∧ yX5_fail.cls ≠ "java/lang/invoke/VarHandle" ∧ (parseMethodDescriptor yX5_fail.desc).map (fun d => d.parameters.length) = some 1 := by decide +kernel
set_option maxHeartbeats 4000000 in
set_option maxRecDepth 100000 in
theorem k_X5_fail (l : Launch) (E : Ev) (K : Kd) (z : Nat) (o : Nat) (a_1 : Int32) (w : Wd) (ho : K o = some (4, 0)) {r : Bool} {w' : Wd} (hf : f_X5_fail K o a_1 w = some (r, w')) : Met l yX5_fail (Cond.code yX5_fail cX5_fail 2 (Option.some Jvm.ClassFile.FieldType.boolean) :: bt) ({ frames := 0, cells := 0, slots := 0, locals := 0 } : Room) (va_Pc [rv E (some o), .int a_1] (HB E K w z)) (QI E K z w' (b2i r)) 0 0 (hA E) := by
  refine Met.ofW (cc := cX5_fail) (maxL := 2) (ret := (Option.some Jvm.ClassFile.FieldType.boolean)) (by decide) rfl ?_
  intro p e s m args below meth c s₁ B hml hv
  obtain ⟨rfl, hz, hP, hKs, hT, hb0⟩ := hv
  have C : CX p l e s m _ meth c cX5_fail 2 RX5 (Option.some Jvm.ClassFile.FieldType.boolean) E := ⟨B.exec, B.bytes, hml, findClass_of_methodNamed B.named, fun w h => atoms_spec (ws := Cond.code yX5_fail cX5_fail 2 (Option.some Jvm.ClassFile.FieldType.boolean) :: bt) B.pre w (List.mem_cons_of_mem _ h), hKs, hT, by rw [hz]; exact hb0, B.notSynchronized, B.returns⟩
  have hH : HQ E K z w s s.heap [] := ⟨hP, va_S.rf, hz⟩
  obtain ⟨hx, hb, hml, hown, hts, hKs, hT, hb0, hlocks, hret⟩ := id C
  have hl := lv_entry [rv E (some o), .int a_1] (n := 2) (by simp [lg_len_nil, lg_len_i, lg_len_j, lg_len_q, lg_len_f, lg_len_d, lg_len_r])
  rw [lg_entry_eq]
  generalize (lg_sl [rv E (some o), .int a_1] ++ List.replicate (2 - (lg_sl [rv E (some o), .int a_1]).length) Slot.unset).toArray = ls at hl ⊢
  replace hl : lv_has ls 2 [(0, rv E (some o)), (1, .int a_1)] := by simpa only [lv_args, cat_q, cat_i, cat_j, reduceIte, Nat.reduceEqDiff, Nat.reduceAdd, Nat.zero_add] using hl
  generalize s.heap = H at hH ⊢
  unfold f_X5_fail at hf
  refine hl_aload_n hx hb dX5_fail_0 rfl (lv_at hl 0 rfl) ?_
  refine lv_iload_n hx hb dX5_fail_1 rfl (lv_at hl 1 rfl) ?_
  obtain ⟨w1, hw1, hf⟩ := bnd hf
  replace hw1 := Option.some.inj hw1
  refine p5_2 (v := a_1) hx hb hts hown hKs hH rfl ho m2_26 dX5_fail_2 (fun H locs hH => ?_)
  rw [hw1] at hH
  refine hl_aload_n hx hb dX5_fail_5 rfl (lv_at hl 0 rfl) ?_
  refine hl_aload_n hx hb dX5_fail_6 rfl (lv_at hl 0 rfl) ?_
  refine g5_0 hx hb hts hown hKs hH rfl ho m2_24 dX5_fail_7 ?_
  obtain ⟨a2, ha2, hf⟩ := bnd hf
  replace ha2 := chk_some ha2
  refine gn8_2 hx hb hts hown hKs hH ha2.1 ha2.2 m1_238 dX5_fail_10 ?_
  obtain ⟨w3, hw3, hf⟩ := bnd hf
  replace hw3 := Option.some.inj hw3
  refine p5_3 (v := (wI w1 802 a2)) hx hb hts hown hKs hH rfl ho m2_28 dX5_fail_13 (fun H locs hH => ?_)
  rw [hw3] at hH
  refine lv_iconst (v := 0) hx hb dX5_fail_16 (by decide) ?_
  exact hw_zret hx hb hret rfl hf hH hlocks dX5_fail_17

theorem dX5_seesToldName_0 : decode cX5_seesToldName 0 = .ok (.aload_n 0, 1) := by decide +kernel
theorem dX5_seesToldName_1 : decode cX5_seesToldName 1 = .ok (.getfield 12, 3) := by decide +kernel
theorem dX5_seesToldName_4 : decode cX5_seesToldName 4 = .ok (.getfield 39, 3) := by decide +kernel
theorem dX5_seesToldName_7 : decode cX5_seesToldName 7 = .ok (.getstatic 253, 3) := by decide +kernel
theorem dX5_seesToldName_10 : decode cX5_seesToldName 10 = .ok (.if_acmp .eq 9, 3) := by decide +kernel
theorem dX5_seesToldName_13 : decode cX5_seesToldName 13 = .ok (.aload_n 0, 1) := by decide +kernel
theorem dX5_seesToldName_14 : decode cX5_seesToldName 14 = .ok (.iconst 1, 1) := by decide +kernel
theorem dX5_seesToldName_15 : decode cX5_seesToldName 15 = .ok (.invokevirtual 99, 3) := by decide +kernel
theorem dX5_seesToldName_18 : decode cX5_seesToldName 18 = .ok (.ireturn, 1) := by decide +kernel
theorem dX5_seesToldName_19 : decode cX5_seesToldName 19 = .ok (.aload_n 0, 1) := by decide +kernel
theorem dX5_seesToldName_20 : decode cX5_seesToldName 20 = .ok (.aload_n 0, 1) := by decide +kernel
theorem dX5_seesToldName_21 : decode cX5_seesToldName 21 = .ok (.getfield 21, 3) := by decide +kernel
theorem dX5_seesToldName_24 : decode cX5_seesToldName 24 = .ok (.getfield 244, 3) := by decide +kernel
theorem dX5_seesToldName_27 : decode cX5_seesToldName 27 = .ok (.iload_n 1, 1) := by decide +kernel
theorem dX5_seesToldName_28 : decode cX5_seesToldName 28 = .ok (.aaload, 1) := by decide +kernel
theorem dX5_seesToldName_29 : decode cX5_seesToldName 29 = .ok (.aload_n 0, 1) := by decide +kernel
theorem dX5_seesToldName_30 : decode cX5_seesToldName 30 = .ok (.getfield 12, 3) := by decide +kernel
theorem dX5_seesToldName_33 : decode cX5_seesToldName 33 = .ok (.getfield 256, 3) := by decide +kernel
theorem dX5_seesToldName_36 : decode cX5_seesToldName 36 = .ok (.invokevirtual 260, 3) := by decide +kernel
theorem dX5_seesToldName_39 : decode cX5_seesToldName 39 = .ok (.putfield 186, 3) := by decide +kernel
theorem dX5_seesToldName_42 : decode cX5_seesToldName 42 = .ok (.aload_n 0, 1) := by decide +kernel
theorem dX5_seesToldName_43 : decode cX5_seesToldName 43 = .ok (.getfield 186, 3) := by decide +kernel
theorem dX5_seesToldName_46 : decode cX5_seesToldName 46 = .ok (.iconst (-1), 1) := by decide +kernel
theorem dX5_seesToldName_47 : decode cX5_seesToldName 47 = .ok (.if_icmp .ne 11, 3) := by decide +kernel
theorem dX5_seesToldName_50 : decode cX5_seesToldName 50 = .ok (.aload_n 0, 1) := by decide +kernel
theorem dX5_seesToldName_51 : decode cX5_seesToldName 51 = .ok (.iconst 3, 1) := by decide +kernel
theorem dX5_seesToldName_52 : decode cX5_seesToldName 52 = .ok (.invokevirtual 99, 3) := by decide +kernel
theorem dX5_seesToldName_55 : decode cX5_seesToldName 55 = .ok (.ifCond .eq 7, 3) := by decide +kernel
theorem dX5_seesToldName_58 : decode cX5_seesToldName 58 = .ok (.iconst 1, 1) := by decide +kernel
theorem dX5_seesToldName_59 : decode cX5_seesToldName 59 = .ok (.goto 4, 3) := by decide +kernel
theorem dX5_seesToldName_62 : decode cX5_seesToldName 62 = .ok (.iconst 0, 1) := by decide +kernel
theorem dX5_seesToldName_63 : decode cX5_seesToldName 63 = .ok (.ireturn, 1) := by decide +kernel
theorem hd_X5_seesToldName : yX5_seesToldName.cls = RX5 ∧ yX5_seesToldName.cls ≠ "java/lang/invoke/MethodHandle" ∧ yX5_seesToldName.cls ≠ "java/lang/invoke/VarHandle" ∧ (parseMethodDescriptor yX5_seesToldName.desc).map (fun d => d.parameters.length) = some 1 := by decide +kernel
theorem hs_X5_seesToldName : yX5_seesToldName.cls ≠ "java/lang/invoke/MethodHandle" ∧ yX5_seesToldName.cls ≠ "java/lang/invoke/VarHandle" ∧ (parseMethodDescriptor yX5_seesToldName.desc).map (fun d => d.parameters.length) = some 1 := by decide +kernel
set_option maxHeartbeats 4000000 in
set_option maxRecDepth 100000 in
theorem k_X5_seesToldName (l : Launch) (E : Ev) (K : Kd) (z : Nat) (o : Nat) (a_1 : Int32) (w : Wd) (ho : K o = some (4, 0)) {r : Bool} {w' : Wd} (hf : f_X5_seesToldName K o a_1 w = some (r, w')) : Met l yX5_seesToldName (Cond.code yX5_seesToldName cX5_seesToldName 2 (Option.some Jvm.ClassFile.FieldType.boolean) :: bt) ({ frames := 1, cells := 0, slots := 0, locals := 23 } : Room) (va_Pc [rv E (some o), .int a_1] (HB E K w z)) (QI E K z w' (b2i r)) 0 0 (hA E) := by
  refine Met.ofW (cc := cX5_seesToldName) (maxL := 2) (ret := (Option.some Jvm.ClassFile.FieldType.boolean)) (by decide) rfl ?_
  intro p e s m args below meth c s₁ B hml hv
  obtain ⟨rfl, hz, hP, hKs, hT, hb0⟩ := hv
  have C : CX p l e s m _ meth c cX5_seesToldName 2 RX5 (Option.some Jvm.ClassFile.FieldType.boolean) E := ⟨B.exec, B.bytes, hml, findClass_of_methodNamed B.named, fun w h => atoms_spec (ws := Cond.code yX5_seesToldName cX5_seesToldName 2 (Option.some Jvm.ClassFile.FieldType.boolean) :: bt) B.pre w (List.mem_cons_of_mem _ h), hKs, hT, by rw [hz]; exact hb0, B.notSynchronized, B.returns⟩
  have hH : HQ E K z w s s.heap [] := ⟨hP, va_S.rf, hz⟩
  obtain ⟨hx, hb, hml, hown, hts, hKs, hT, hb0, hlocks, hret⟩ := id C
  have hl := lv_entry [rv E (some o), .int a_1] (n := 2) (by simp [lg_len_nil, lg_len_i, lg_len_j, lg_len_q, lg_len_f, lg_len_d, lg_len_r])
  rw [lg_entry_eq]
  generalize (lg_sl [rv E (some o), .int a_1] ++ List.replicate (2 - (lg_sl [rv E (some o), .int a_1]).length) Slot.unset).toArray = ls at hl ⊢
  replace hl : lv_has ls 2 [(0, rv E (some o)), (1, .int a_1)] := by simpa only [lv_args, cat_q, cat_i, cat_j, reduceIte, Nat.reduceEqDiff, Nat.reduceAdd, Nat.zero_add] using hl
  generalize s.heap = H at hH ⊢
  unfold f_X5_seesToldName at hf
  refine hl_aload_n hx hb dX5_seesToldName_0 rfl (lv_at hl 0 rfl) ?_
  refine g5_0 hx hb hts hown hKs hH rfl ho m2_24 dX5_seesToldName_1 ?_
  obtain ⟨a1, ha1, hf⟩ := bnd hf
  replace ha1 := chk_some ha1
  refine gn8_4 hx hb hts hown hKs hH ha1.1 ha1.2 m2_1 dX5_seesToldName_4 ?_
  refine hw_tok hx hb 16 (by decide) hts hown hT hH m4_215 dX5_seesToldName_7 ?_
  obtain ⟨_, hg2, hf⟩ := bnd hf
  refine hw_acmp_eq (tgt := 19) hx hb hT (grd_some hg2) rfl dX5_seesToldName_10 (by decide) (fun c3 => ?_) (fun c3 => ?_)
  · replace hf := (if_pos c3).symm.trans hf
    refine hl_aload_n hx hb dX5_seesToldName_19 rfl (lv_at hl 0 rfl) ?_
    refine hl_aload_n hx hb dX5_seesToldName_20 rfl (lv_at hl 0 rfl) ?_
    refine g5_1 hx hb hts hown hKs hH rfl ho m2_25 dX5_seesToldName_21 ?_
    obtain ⟨a4, ha4, hf⟩ := bnd hf
    replace ha4 := chk_some ha4
    refine gn9_0 hx hb hts hown hKs hH ha4.1 ha4.2 m1_152 dX5_seesToldName_24 ?_
    refine lv_iload_n hx hb dX5_seesToldName_27 rfl (lv_at hl 1 rfl) ?_
    obtain ⟨a5, ha5, hf⟩ := bnd hf
    replace ha5 := cha_some ha5
    obtain ⟨j6, hj6, hf⟩ := bnd hf
    refine hw_aald26 hx hb hKs hH ha5.1 ha5.2 hj6 dX5_seesToldName_28 ?_
    refine hl_aload_n hx hb dX5_seesToldName_29 rfl (lv_at hl 0 rfl) ?_
    refine g5_0 hx hb hts hown hKs hH rfl ho m2_24 dX5_seesToldName_30 ?_
    refine gn8_5 hx hb hts hown hKs hH ha1.1 ha1.2 m2_3 dX5_seesToldName_33 ?_
    obtain ⟨a7, ha7, hf⟩ := bnd hf
    replace ha7 := chk_some ha7
    obtain ⟨q8, hq8, hf⟩ := bnd hf
    refine hcV_i hx hb hml hown hts hKs hT hb0 hH (As := [.long (wJ w 805 a1)]) (rest := [rv E (some o)]) (k_X4_indexOf l E K H.size a7 (wJ w 805 a1) w ha7.2 hq8) (gV m4_216 m4_217 m4_218 m1_4 m4_219) hd_X4_indexOf ⟨Nat.le_of_ble_eq_true rfl, Nat.le_of_ble_eq_true rfl, rfl, rfl⟩ ha7.1 ha7.2 rfl rfl rfl hl.1 rfl (rcV rc0) rfl dX5_seesToldName_36 ⟨Nat.zero_le _, Nat.zero_le _⟩ (fun H locs hH => ?_)
    obtain ⟨w9, hw9, hf⟩ := bnd hf
    replace hw9 := Option.some.inj hw9
    refine p5_4 (v := q8.1) hx hb hts hown hKs hH rfl ho m2_30 dX5_seesToldName_39 (fun H locs hH => ?_)
    rw [hw9] at hH
    refine hl_aload_n hx hb dX5_seesToldName_42 rfl (lv_at hl 0 rfl) ?_
    refine g5_4 hx hb hts hown hKs hH rfl ho m2_30 dX5_seesToldName_43 ?_
    refine lv_iconst (v := (-1)) hx hb dX5_seesToldName_46 (by decide) ?_
    refine lv_icmp_ne (tgt := 58) hx hb dX5_seesToldName_47 (by decide) (fun c10 => ?_) (fun c10 => ?_)
    · replace hf := (if_neg c10).symm.trans hf
      refine lv_iconst (v := 1) hx hb dX5_seesToldName_58 (by decide) ?_
      refine lv_goto (tgt := 63) hx hb dX5_seesToldName_59 (by decide) ?_
      exact hw_zret hx hb hret rfl hf hH hlocks dX5_seesToldName_63
    · replace hf := (if_pos c10).symm.trans hf
      refine hl_aload_n hx hb dX5_seesToldName_50 rfl (lv_at hl 0 rfl) ?_
      refine lv_iconst (v := 3) hx hb dX5_seesToldName_51 (by decide) ?_
      obtain ⟨q11, hq11, hf⟩ := bnd hf
      refine hcV_i hx hb hml hown hts hKs hT hb0 hH (As := [.int 3]) (rest := []) (k_X5_fail l E K H.size o 3 w9 ho hq11) (gV m4_187 m4_189 ms_13 m1_8 m4_190) hd_X5_fail ⟨Nat.le_of_ble_eq_true rfl, Nat.le_of_ble_eq_true rfl, rfl, rfl⟩ rfl ho rfl rfl rfl hl.1 rfl rc0 rfl dX5_seesToldName_52 ⟨Nat.zero_le _, Nat.zero_le _⟩ (fun H locs hH => ?_)
      refine lv_if_eq (tgt := 62) hx hb dX5_seesToldName_55 (by decide) (fun c12 => ?_) (fun c12 => ?_)
      · replace hf := (if_pos c12).symm.trans hf
        refine lv_iconst (v := 0) hx hb dX5_seesToldName_62 (by decide) ?_
        exact hw_zret hx hb hret rfl hf hH hlocks dX5_seesToldName_63
      · replace hf := (if_neg c12).symm.trans hf
        refine lv_iconst (v := 1) hx hb dX5_seesToldName_58 (by decide) ?_
        refine lv_goto (tgt := 63) hx hb dX5_seesToldName_59 (by decide) ?_
        exact hw_zret hx hb hret rfl hf hH hlocks dX5_seesToldName_63
  · replace hf := (if_neg c3).symm.trans hf
    refine hl_aload_n hx hb dX5_seesToldName_13 rfl (lv_at hl 0 rfl) ?_
    refine lv_iconst (v := 1) hx hb dX5_seesToldName_14 (by decide) ?_
    obtain ⟨q13, hq13, hf⟩ := bnd hf
    refine hcV_i hx hb hml hown hts hKs hT hb0 hH (As := [.int 1]) (rest := []) (k_X5_fail l E K H.size o 1 w ho hq13) (gV m4_187 m4_189 ms_13 m1_8 m4_190) hd_X5_fail ⟨Nat.le_of_ble_eq_true rfl, Nat.le_of_ble_eq_true rfl, rfl, rfl⟩ rfl ho rfl rfl rfl hl.1 rfl rc0 rfl dX5_seesToldName_15 ⟨Nat.zero_le _, Nat.zero_le _⟩ (fun H locs hH => ?_)
    exact hw_zret hx hb hret rfl hf hH hlocks dX5_seesToldName_18

theorem dX5_seesNumber_0 : decode cX5_seesNumber 0 = .ok (.aload_n 0, 1) := by decide +kernel
theorem dX5_seesNumber_1 : decode cX5_seesNumber 1 = .ok (.getfield 12, 3) := by decide +kernel
theorem dX5_seesNumber_4 : decode cX5_seesNumber 4 = .ok (.getfield 39, 3) := by decide +kernel
theorem dX5_seesNumber_7 : decode cX5_seesNumber 7 = .ok (.getstatic 267, 3) := by decide +kernel
theorem dX5_seesNumber_10 : decode cX5_seesNumber 10 = .ok (.if_acmp .eq 9, 3) := by decide +kernel
theorem dX5_seesNumber_13 : decode cX5_seesNumber 13 = .ok (.aload_n 0, 1) := by decide +kernel
theorem dX5_seesNumber_14 : decode cX5_seesNumber 14 = .ok (.iconst 1, 1) := by decide +kernel
theorem dX5_seesNumber_15 : decode cX5_seesNumber 15 = .ok (.invokevirtual 99, 3) := by decide +kernel
theorem dX5_seesNumber_18 : decode cX5_seesNumber 18 = .ok (.ireturn, 1) := by decide +kernel
theorem dX5_seesNumber_19 : decode cX5_seesNumber 19 = .ok (.aload_n 0, 1) := by decide +kernel
theorem dX5_seesNumber_20 : decode cX5_seesNumber 20 = .ok (.getfield 12, 3) := by decide +kernel
theorem dX5_seesNumber_23 : decode cX5_seesNumber 23 = .ok (.getfield 119, 3) := by decide +kernel
theorem dX5_seesNumber_26 : decode cX5_seesNumber 26 = .ok (.iload_n 1, 1) := by decide +kernel
theorem dX5_seesNumber_27 : decode cX5_seesNumber 27 = .ok (.if_icmp .lt 14, 3) := by decide +kernel
theorem dX5_seesNumber_30 : decode cX5_seesNumber 30 = .ok (.aload_n 0, 1) := by decide +kernel
theorem dX5_seesNumber_31 : decode cX5_seesNumber 31 = .ok (.getfield 12, 3) := by decide +kernel
theorem dX5_seesNumber_34 : decode cX5_seesNumber 34 = .ok (.getfield 119, 3) := by decide +kernel
theorem dX5_seesNumber_37 : decode cX5_seesNumber 37 = .ok (.iload_n 2, 1) := by decide +kernel
theorem dX5_seesNumber_38 : decode cX5_seesNumber 38 = .ok (.if_icmp .le 11, 3) := by decide +kernel
theorem dX5_seesNumber_41 : decode cX5_seesNumber 41 = .ok (.aload_n 0, 1) := by decide +kernel
theorem dX5_seesNumber_42 : decode cX5_seesNumber 42 = .ok (.iconst 2, 1) := by decide +kernel
theorem dX5_seesNumber_43 : decode cX5_seesNumber 43 = .ok (.invokevirtual 99, 3) := by decide +kernel
theorem dX5_seesNumber_46 : decode cX5_seesNumber 46 = .ok (.ifCond .eq 7, 3) := by decide +kernel
theorem dX5_seesNumber_49 : decode cX5_seesNumber 49 = .ok (.iconst 1, 1) := by decide +kernel
theorem dX5_seesNumber_50 : decode cX5_seesNumber 50 = .ok (.goto 4, 3) := by decide +kernel
theorem dX5_seesNumber_53 : decode cX5_seesNumber 53 = .ok (.iconst 0, 1) := by decide +kernel
theorem dX5_seesNumber_54 : decode cX5_seesNumber 54 = .ok (.ireturn, 1) := by decide +kernel
theorem hd_X5_seesNumber : yX5_seesNumber.cls = RX5 ∧ yX5_seesNumber.cls ≠ "java/lang/invoke/MethodHandle" ∧ yX5_seesNumber.cls ≠ "java/lang/invoke/VarHandle" ∧ (parseMethodDescriptor yX5_seesNumber.desc).map (fun d => d.parameters.length) = some 2 := by decide +kernel
theorem hs_X5_seesNumber : yX5_seesNumber.cls ≠ "java/lang/invoke/MethodHandle" ∧ yX5_seesNumber.cls ≠ "java/lang/invoke/VarHandle" ∧ (parseMethodDescriptor yX5_seesNumber.desc).map (fun d => d.parameters.length) = some 2 := by decide +kernel
set_option maxHeartbeats 4000000 in
set_option maxRecDepth 100000 in
theorem k_X5_seesNumber (l : Launch) (E : Ev) (K : Kd) (z : Nat) (o : Nat) (a_1 : Int32) (a_2 : Int32) (w : Wd) (ho : K o = some (4, 0)) {r : Bool} {w' : Wd} (hf : f_X5_seesNumber K o a_1 a_2 w = some (r, w')) : Met l yX5_seesNumber (Cond.code yX5_seesNumber cX5_seesNumber 3 (Option.some Jvm.ClassFile.FieldType.boolean) :: bt) ({ frames := 1, cells := 0, slots := 0, locals := 21 } : Room) (va_Pc [rv E (some o), .int a_1, .int a_2] (HB E K w z)) (QI E K z w' (b2i r)) 0 0 (hA E) := by
  refine Met.ofW (cc := cX5_seesNumber) (maxL := 3) (ret := (Option.some Jvm.ClassFile.FieldType.boolean)) (by decide) rfl ?_
  intro p e s m args below meth c s₁ B hml hv
  obtain ⟨rfl, hz, hP, hKs, hT, hb0⟩ := hv
  have C : CX p l e s m _ meth c cX5_seesNumber 3 RX5 (Option.some Jvm.ClassFile.FieldType.boolean) E := ⟨B.exec, B.bytes, hml, findClass_of_methodNamed B.named, fun w h => atoms_spec (ws := Cond.code yX5_seesNumber cX5_seesNumber 3 (Option.some Jvm.ClassFile.FieldType.boolean) :: bt) B.pre w (List.mem_cons_of_mem _ h), hKs, hT, by rw [hz]; exact hb0, B.notSynchronized, B.returns⟩
  have hH : HQ E K z w s s.heap [] := ⟨hP, va_S.rf, hz⟩
  obtain ⟨hx, hb, hml, hown, hts, hKs, hT, hb0, hlocks, hret⟩ := id C
  have hl := lv_entry [rv E (some o), .int a_1, .int a_2] (n := 3) (by simp [lg_len_nil, lg_len_i, lg_len_j, lg_len_q, lg_len_f, lg_len_d, lg_len_r])
  rw [lg_entry_eq]
  generalize (lg_sl [rv E (some o), .int a_1, .int a_2] ++ List.replicate (3 - (lg_sl [rv E (some o), .int a_1, .int a_2]).length) Slot.unset).toArray = ls at hl ⊢
  replace hl : lv_has ls 3 [(0, rv E (some o)), (1, .int a_1), (2, .int a_2)] := by simpa only [lv_args, cat_q, cat_i, cat_j, reduceIte, Nat.reduceEqDiff, Nat.reduceAdd, Nat.zero_add] using hl
  generalize s.heap = H at hH ⊢
  unfold f_X5_seesNumber at hf
  refine hl_aload_n hx hb dX5_seesNumber_0 rfl (lv_at hl 0 rfl) ?_
  refine g5_0 hx hb hts hown hKs hH rfl ho m2_24 dX5_seesNumber_1 ?_
  obtain ⟨a1, ha1, hf⟩ := bnd hf
  replace ha1 := chk_some ha1
  refine gn8_4 hx hb hts hown hKs hH ha1.1 ha1.2 m2_1 dX5_seesNumber_4 ?_
  refine hw_tok hx hb 17 (by decide) hts hown hT hH m4_196 dX5_seesNumber_7 ?_
  obtain ⟨_, hg2, hf⟩ := bnd hf
  refine hw_acmp_eq (tgt := 19) hx hb hT (grd_some hg2) rfl dX5_seesNumber_10 (by decide) (fun c3 => ?_) (fun c3 => ?_)
  · replace hf := (if_pos c3).symm.trans hf
    refine hl_aload_n hx hb dX5_seesNumber_19 rfl (lv_at hl 0 rfl) ?_
    refine g5_0 hx hb hts hown hKs hH rfl ho m2_24 dX5_seesNumber_20 ?_
    refine gn8_6 hx hb hts hown hKs hH ha1.1 ha1.2 m2_5 dX5_seesNumber_23 ?_
    refine lv_iload_n hx hb dX5_seesNumber_26 rfl (lv_at hl 1 rfl) ?_
    refine lv_icmp_lt (tgt := 41) hx hb dX5_seesNumber_27 (by decide) (fun c4 => ?_) (fun c4 => ?_)
    · replace hf := (if_pos c4).symm.trans hf
      refine hl_aload_n hx hb dX5_seesNumber_41 rfl (lv_at hl 0 rfl) ?_
      refine lv_iconst (v := 2) hx hb dX5_seesNumber_42 (by decide) ?_
      obtain ⟨q5, hq5, hf⟩ := bnd hf
      refine hcV_i hx hb hml hown hts hKs hT hb0 hH (As := [.int 2]) (rest := []) (k_X5_fail l E K H.size o 2 w ho hq5) (gV m4_187 m4_189 ms_13 m1_8 m4_190) hd_X5_fail ⟨Nat.le_of_ble_eq_true rfl, Nat.le_of_ble_eq_true rfl, rfl, rfl⟩ rfl ho rfl rfl rfl hl.1 rfl rc0 rfl dX5_seesNumber_43 ⟨Nat.zero_le _, Nat.zero_le _⟩ (fun H locs hH => ?_)
      refine lv_if_eq (tgt := 53) hx hb dX5_seesNumber_46 (by decide) (fun c6 => ?_) (fun c6 => ?_)
      · replace hf := (if_pos c6).symm.trans hf
        refine lv_iconst (v := 0) hx hb dX5_seesNumber_53 (by decide) ?_
        exact hw_zret hx hb hret rfl hf hH hlocks dX5_seesNumber_54
      · replace hf := (if_neg c6).symm.trans hf
        refine lv_iconst (v := 1) hx hb dX5_seesNumber_49 (by decide) ?_
        refine lv_goto (tgt := 54) hx hb dX5_seesNumber_50 (by decide) ?_
        exact hw_zret hx hb hret rfl hf hH hlocks dX5_seesNumber_54
    · replace hf := (if_neg c4).symm.trans hf
      refine hl_aload_n hx hb dX5_seesNumber_30 rfl (lv_at hl 0 rfl) ?_
      refine g5_0 hx hb hts hown hKs hH rfl ho m2_24 dX5_seesNumber_31 ?_
      refine gn8_6 hx hb hts hown hKs hH ha1.1 ha1.2 m2_5 dX5_seesNumber_34 ?_
      refine lv_iload_n hx hb dX5_seesNumber_37 rfl (lv_at hl 2 rfl) ?_
      refine lv_icmp_le (tgt := 49) hx hb dX5_seesNumber_38 (by decide) (fun c7 => ?_) (fun c7 => ?_)
      · replace hf := (if_pos c7).symm.trans hf
        refine lv_iconst (v := 1) hx hb dX5_seesNumber_49 (by decide) ?_
        refine lv_goto (tgt := 54) hx hb dX5_seesNumber_50 (by decide) ?_
        exact hw_zret hx hb hret rfl hf hH hlocks dX5_seesNumber_54
      · replace hf := (if_neg c7).symm.trans hf
        refine hl_aload_n hx hb dX5_seesNumber_41 rfl (lv_at hl 0 rfl) ?_
        refine lv_iconst (v := 2) hx hb dX5_seesNumber_42 (by decide) ?_
        obtain ⟨q8, hq8, hf⟩ := bnd hf
        refine hcV_i hx hb hml hown hts hKs hT hb0 hH (As := [.int 2]) (rest := []) (k_X5_fail l E K H.size o 2 w ho hq8) (gV m4_187 m4_189 ms_13 m1_8 m4_190) hd_X5_fail ⟨Nat.le_of_ble_eq_true rfl, Nat.le_of_ble_eq_true rfl, rfl, rfl⟩ rfl ho rfl rfl rfl hl.1 rfl rc0 rfl dX5_seesNumber_43 ⟨Nat.zero_le _, Nat.zero_le _⟩ (fun H locs hH => ?_)
        refine lv_if_eq (tgt := 53) hx hb dX5_seesNumber_46 (by decide) (fun c9 => ?_) (fun c9 => ?_)
        · replace hf := (if_pos c9).symm.trans hf
          refine lv_iconst (v := 0) hx hb dX5_seesNumber_53 (by decide) ?_
          exact hw_zret hx hb hret rfl hf hH hlocks dX5_seesNumber_54
        · replace hf := (if_neg c9).symm.trans hf
          refine lv_iconst (v := 1) hx hb dX5_seesNumber_49 (by decide) ?_
          refine lv_goto (tgt := 54) hx hb dX5_seesNumber_50 (by decide) ?_
          exact hw_zret hx hb hret rfl hf hH hlocks dX5_seesNumber_54
  · replace hf := (if_neg c3).symm.trans hf
    refine hl_aload_n hx hb dX5_seesNumber_13 rfl (lv_at hl 0 rfl) ?_
    refine lv_iconst (v := 1) hx hb dX5_seesNumber_14 (by decide) ?_
    obtain ⟨q10, hq10, hf⟩ := bnd hf
    refine hcV_i hx hb hml hown hts hKs hT hb0 hH (As := [.int 1]) (rest := []) (k_X5_fail l E K H.size o 1 w ho hq10) (gV m4_187 m4_189 ms_13 m1_8 m4_190) hd_X5_fail ⟨Nat.le_of_ble_eq_true rfl, Nat.le_of_ble_eq_true rfl, rfl, rfl⟩ rfl ho rfl rfl rfl hl.1 rfl rc0 rfl dX5_seesNumber_15 ⟨Nat.zero_le _, Nat.zero_le _⟩ (fun H locs hH => ?_)
    exact hw_zret hx hb hret rfl hf hH hlocks dX5_seesNumber_18

theorem dX6_init_0 : decode cX6_init 0 = .ok (.aload_n 0, 1) := by decide +kernel
theorem dX6_init_1 : decode cX6_init 1 = .ok (.invokespecial 3, 3) := by decide +kernel
theorem dX6_init_4 : decode cX6_init 4 = .ok (.aload_n 0, 1) := by decide +kernel
theorem dX6_init_5 : decode cX6_init 5 = .ok (.iconst 3, 1) := by decide +kernel
theorem dX6_init_6 : decode cX6_init 6 = .ok (.newarray .int, 2) := by decide +kernel
theorem dX6_init_8 : decode cX6_init 8 = .ok (.putfield 9, 3) := by decide +kernel
theorem dX6_init_11 : decode cX6_init 11 = .ok (.aload_n 0, 1) := by decide +kernel
theorem dX6_init_12 : decode cX6_init 12 = .ok (.bipush 6, 2) := by decide +kernel
theorem dX6_init_14 : decode cX6_init 14 = .ok (.newarray .int, 2) := by decide +kernel
theorem dX6_init_16 : decode cX6_init 16 = .ok (.putfield 15, 3) := by decide +kernel
theorem dX6_init_19 : decode cX6_init 19 = .ok (.aload_n 0, 1) := by decide +kernel
theorem dX6_init_20 : decode cX6_init 20 = .ok (.bipush 6, 2) := by decide +kernel
theorem dX6_init_22 : decode cX6_init 22 = .ok (.newarray .int, 2) := by decide +kernel
theorem dX6_init_24 : decode cX6_init 24 = .ok (.putfield 18, 3) := by decide +kernel
theorem dX6_init_27 : decode cX6_init 27 = .ok (.aload_n 0, 1) := by decide +kernel
theorem dX6_init_28 : decode cX6_init 28 = .ok (.bipush 12, 2) := by decide +kernel
theorem dX6_init_30 : decode cX6_init 30 = .ok (.newarray .int, 2) := by decide +kernel
theorem dX6_init_32 : decode cX6_init 32 = .ok (.putfield 21, 3) := by decide +kernel
theorem dX6_init_35 : decode cX6_init 35 = .ok (.return_, 1) := by decide +kernel
theorem hd_X6_init : yX6_init.cls = RX6 ∧ yX6_init.cls ≠ "java/lang/invoke/MethodHandle" ∧ yX6_init.cls ≠ "java/lang/invoke/VarHandle" ∧ (parseMethodDescriptor yX6_init.desc).map (fun d => d.parameters.length) = some 0 := by decide +kernel
theorem hs_X6_init : yX6_init.cls ≠ "java/lang/invoke/MethodHandle" ∧ yX6_init.cls ≠ "java/lang/invoke/VarHandle" ∧ (parseMethodDescriptor yX6_init.desc).map (fun d => d.parameters.length) = some 0 := by decide +kernel
set_option maxHeartbeats 4000000 in
set_option maxRecDepth 100000 in
theorem k_X6_init (l : Launch) (E : Ev) (K : Kd) (n : Nat) (o : Nat) (w : Wd) {K' : Kd} {n' : Nat} {w' : Wd} (hf : f_X6_init K n o w = some (K', n', w')) : Met l yX6_init (Cond.code yX6_init cX6_init 1 (Option.none : Option Jvm.ClassFile.FieldType) :: bt) ({ frames := 1, cells := 4, slots := 27, locals := 12 } : Room) (va_Pc [rv E (some o)] (HB E K w (E.2.1 + n))) (QV E K' (E.2.1 + n') w') 4 27 (hA E) := by
  refine Met.ofW (cc := cX6_init) (maxL := 1) (ret := (Option.none : Option Jvm.ClassFile.FieldType)) (by decide) rfl ?_
  intro p e s m args below meth c s₁ B hml hv
  have hn2 : meth.name = "<init>" := (name_of_methodNamed B.named B.method).1
  obtain ⟨rfl, hz, hP, hKs, hT, hb0⟩ := hv
  have C : CX p l e s m _ meth c cX6_init 1 RX6 (Option.none : Option Jvm.ClassFile.FieldType) E := ⟨B.exec, B.bytes, hml, findClass_of_methodNamed B.named, fun w h => atoms_spec (ws := Cond.code yX6_init cX6_init 1 (Option.none : Option Jvm.ClassFile.FieldType) :: bt) B.pre w (List.mem_cons_of_mem _ h), hKs, hT, by rw [hz]; exact hb0, B.notSynchronized, B.returns⟩
  have hH : HQ E K (E.2.1 + n) w s s.heap [] := ⟨hP, va_S.rf, hz⟩
  obtain ⟨hx, hb, hml, hown, hts, hKs, hT, hb0, hlocks, hret⟩ := id C
  have hl := lv_entry [rv E (some o)] (n := 1) (by simp [lg_len_nil, lg_len_i, lg_len_j, lg_len_q, lg_len_f, lg_len_d, lg_len_r])
  rw [lg_entry_eq]
  generalize (lg_sl [rv E (some o)] ++ List.replicate (1 - (lg_sl [rv E (some o)]).length) Slot.unset).toArray = ls at hl ⊢
  replace hl : lv_has ls 1 [(0, rv E (some o))] := by simpa only [lv_args, cat_q, cat_i, cat_j, reduceIte, Nat.reduceEqDiff, Nat.reduceAdd, Nat.zero_add] using hl
  generalize s.heap = H at hH ⊢
  unfold f_X6_init at hf
  refine hl_aload_n hx hb dX6_init_0 rfl (lv_at hl 0 rfl) ?_
  refine hw_obj hx hb hml hl.1 hown hts m2_147 m1_40 m1_41 dX6_init_1 (Nat.le_of_ble_eq_true rfl) (Nat.le_of_ble_eq_true rfl) ?_
  refine hl_aload_n hx hb dX6_init_4 rfl (lv_at hl 0 rfl) ?_
  refine lv_iconst (v := 3) hx hb dX6_init_5 (by decide) ?_
  refine hw_newa20 (N := 3) hx hb hts m1_67 hKs hH (by decide) (by decide) (Nat.le_of_ble_eq_true rfl) (Nat.le_of_ble_eq_true rfl) (Nat.le_of_ble_eq_true rfl) dX6_init_6 (fun H hH => ?_)
  obtain ⟨K1, hK1, hf⟩ := bnd hf
  replace hK1 := Option.some.inj hK1
  obtain ⟨w2, hw2, hf⟩ := bnd hf
  replace hw2 := Option.some.inj hw2
  rw [hK1, hw2] at hH
  obtain ⟨a3, ha3, hf⟩ := bnd hf
  replace ha3 := chk_some ha3
  obtain ⟨w4, hw4, hf⟩ := bnd hf
  replace hw4 := Option.some.inj hw4
  refine pf6_0 (v := (some n)) hx hb hts hown hKs hH ha3.1 ha3.2 hn2 m2_148 dX6_init_8 (fun H locs hH => ?_)
  rw [hw4] at hH
  refine hl_aload_n hx hb dX6_init_11 rfl (lv_at hl 0 rfl) ?_
  refine lv_bipush (v := 6) hx hb dX6_init_12 (by decide) ?_
  refine hw_newa20 (N := 6) hx hb hts m1_67 hKs hH (by decide) (by decide) (Nat.le_of_ble_eq_true rfl) (Nat.le_of_ble_eq_true rfl) (Nat.le_of_ble_eq_true rfl) dX6_init_14 (fun H hH => ?_)
  obtain ⟨K5, hK5, hf⟩ := bnd hf
  replace hK5 := Option.some.inj hK5
  obtain ⟨w6, hw6, hf⟩ := bnd hf
  replace hw6 := Option.some.inj hw6
  rw [hK5, hw6] at hH
  obtain ⟨a7, ha7, hf⟩ := bnd hf
  replace ha7 := chk_some ha7
  obtain ⟨w8, hw8, hf⟩ := bnd hf
  replace hw8 := Option.some.inj hw8
  refine pf6_1 (v := (some (n + 1))) hx hb hts hown hKs hH ha7.1 ha7.2 hn2 m2_149 dX6_init_16 (fun H locs hH => ?_)
  rw [hw8] at hH
  refine hl_aload_n hx hb dX6_init_19 rfl (lv_at hl 0 rfl) ?_
  refine lv_bipush (v := 6) hx hb dX6_init_20 (by decide) ?_
  refine hw_newa20 (N := 6) hx hb hts m1_67 hKs hH (by decide) (by decide) (Nat.le_of_ble_eq_true rfl) (Nat.le_of_ble_eq_true rfl) (Nat.le_of_ble_eq_true rfl) dX6_init_22 (fun H hH => ?_)
  obtain ⟨K9, hK9, hf⟩ := bnd hf
  replace hK9 := Option.some.inj hK9
  obtain ⟨w10, hw10, hf⟩ := bnd hf
  replace hw10 := Option.some.inj hw10
  rw [hK9, hw10] at hH
  obtain ⟨a11, ha11, hf⟩ := bnd hf
  replace ha11 := chk_some ha11
  obtain ⟨w12, hw12, hf⟩ := bnd hf
  replace hw12 := Option.some.inj hw12
  refine pf6_2 (v := (some ((n + 1) + 1))) hx hb hts hown hKs hH ha11.1 ha11.2 hn2 m2_150 dX6_init_24 (fun H locs hH => ?_)
  rw [hw12] at hH
  refine hl_aload_n hx hb dX6_init_27 rfl (lv_at hl 0 rfl) ?_
  refine lv_bipush (v := 12) hx hb dX6_init_28 (by decide) ?_
  refine hw_newa20 (N := 12) hx hb hts m1_67 hKs hH (by decide) (by decide) (Nat.le_of_ble_eq_true rfl) (Nat.le_of_ble_eq_true rfl) (Nat.le_of_ble_eq_true rfl) dX6_init_30 (fun H hH => ?_)
  obtain ⟨K13, hK13, hf⟩ := bnd hf
  replace hK13 := Option.some.inj hK13
  obtain ⟨w14, hw14, hf⟩ := bnd hf
  replace hw14 := Option.some.inj hw14
  rw [hK13, hw14] at hH
  obtain ⟨a15, ha15, hf⟩ := bnd hf
  replace ha15 := chk_some ha15
  obtain ⟨w16, hw16, hf⟩ := bnd hf
  replace hw16 := Option.some.inj hw16
  refine pf6_3 (v := (some (((n + 1) + 1) + 1))) hx hb hts hown hKs hH ha15.1 ha15.2 hn2 m2_151 dX6_init_32 (fun H locs hH => ?_)
  rw [hw16] at hH
  exact hw_aret hx hb (Nat.le_of_ble_eq_true rfl) (Nat.le_of_ble_eq_true rfl) hret hf hH hlocks dX6_init_35

theorem dX6_firstDay_0 : decode cX6_firstDay 0 = .ok (.aload_n 0, 1) := by decide +kernel
theorem dX6_firstDay_1 : decode cX6_firstDay 1 = .ok (.getfield 36, 3) := by decide +kernel
theorem dX6_firstDay_4 : decode cX6_firstDay 4 = .ok (.aload_n 0, 1) := by decide +kernel
theorem dX6_firstDay_5 : decode cX6_firstDay 5 = .ok (.getfield 24, 3) := by decide +kernel
theorem dX6_firstDay_8 : decode cX6_firstDay 8 = .ok (.getfield 30, 3) := by decide +kernel
theorem dX6_firstDay_11 : decode cX6_firstDay 11 = .ok (.iload_n 1, 1) := by decide +kernel
theorem dX6_firstDay_12 : decode cX6_firstDay 12 = .ok (.aaload, 1) := by decide +kernel
theorem dX6_firstDay_13 : decode cX6_firstDay 13 = .ok (.getfield 40, 3) := by decide +kernel
theorem dX6_firstDay_16 : decode cX6_firstDay 16 = .ok (.invokestatic 129, 3) := by decide +kernel
theorem dX6_firstDay_19 : decode cX6_firstDay 19 = .ok (.ireturn, 1) := by decide +kernel
theorem hs_X6_firstDay : yX6_firstDay.cls ≠ "java/lang/invoke/MethodHandle" ∧ yX6_firstDay.cls ≠ "java/lang/invoke/VarHandle" ∧ (parseMethodDescriptor yX6_firstDay.desc).map (fun d => d.parameters.length) = some 2 := by decide +kernel
set_option maxHeartbeats 4000000 in
set_option maxRecDepth 100000 in
theorem k_X6_firstDay (l : Launch) (E : Ev) (K : Kd) (z : Nat) (a_0 : Option Nat) (a_1 : Int32) (w : Wd) {r : Int32} {w' : Wd} (hf : f_X6_firstDay K a_0 a_1 w = some (r, w')) : Met l yX6_firstDay (Cond.code yX6_firstDay cX6_firstDay 2 (Option.some Jvm.ClassFile.FieldType.int) :: bt) ({ frames := 1, cells := 0, slots := 0, locals := 21 } : Room) (va_Pc [rv E a_0, .int a_1] (HB E K w z)) (QI E K z w' r) 0 0 (hA E) := by
  refine Met.ofW (cc := cX6_firstDay) (maxL := 2) (ret := (Option.some Jvm.ClassFile.FieldType.int)) (by decide) rfl ?_
  intro p e s m args below meth c s₁ B hml hv
  obtain ⟨rfl, hz, hP, hKs, hT, hb0⟩ := hv
  have C : CX p l e s m _ meth c cX6_firstDay 2 RX6 (Option.some Jvm.ClassFile.FieldType.int) E := ⟨B.exec, B.bytes, hml, findClass_of_methodNamed B.named, fun w h => atoms_spec (ws := Cond.code yX6_firstDay cX6_firstDay 2 (Option.some Jvm.ClassFile.FieldType.int) :: bt) B.pre w (List.mem_cons_of_mem _ h), hKs, hT, by rw [hz]; exact hb0, B.notSynchronized, B.returns⟩
  have hH : HQ E K z w s s.heap [] := ⟨hP, va_S.rf, hz⟩
  obtain ⟨hx, hb, hml, hown, hts, hKs, hT, hb0, hlocks, hret⟩ := id C
  have hl := lv_entry [rv E a_0, .int a_1] (n := 2) (by simp [lg_len_nil, lg_len_i, lg_len_j, lg_len_q, lg_len_f, lg_len_d, lg_len_r])
  rw [lg_entry_eq]
  generalize (lg_sl [rv E a_0, .int a_1] ++ List.replicate (2 - (lg_sl [rv E a_0, .int a_1]).length) Slot.unset).toArray = ls at hl ⊢
  replace hl : lv_has ls 2 [(0, rv E a_0), (1, .int a_1)] := by simpa only [lv_args, cat_q, cat_i, cat_j, reduceIte, Nat.reduceEqDiff, Nat.reduceAdd, Nat.zero_add] using hl
  generalize s.heap = H at hH ⊢
  unfold f_X6_firstDay at hf
  refine hl_aload_n hx hb dX6_firstDay_0 rfl (lv_at hl 0 rfl) ?_
  obtain ⟨a1, ha1, hf⟩ := bnd hf
  replace ha1 := chk_some ha1
  refine gn10_1 hx hb hts hown hKs hH ha1.1 ha1.2 m2_117 dX6_firstDay_1 ?_
  refine hl_aload_n hx hb dX6_firstDay_4 rfl (lv_at hl 0 rfl) ?_
  refine gn10_0 hx hb hts hown hKs hH ha1.1 ha1.2 m2_114 dX6_firstDay_5 ?_
  obtain ⟨a2, ha2, hf⟩ := bnd hf
  replace ha2 := chk_some ha2
  refine gn9_9 hx hb hts hown hKs hH ha2.1 ha2.2 m1_172 dX6_firstDay_8 ?_
  refine lv_iload_n hx hb dX6_firstDay_11 rfl (lv_at hl 1 rfl) ?_
  obtain ⟨a3, ha3, hf⟩ := bnd hf
  replace ha3 := cha_some ha3
  obtain ⟨j4, hj4, hf⟩ := bnd hf
  refine hw_aald25 hx hb hKs hH ha3.1 ha3.2 hj4 dX6_firstDay_12 ?_
  obtain ⟨a5, ha5, hf⟩ := bnd hf
  replace ha5 := chk_some ha5
  refine gn3_0 hx hb hts hown hKs hH ha5.1 ha5.2 m1_91 dX6_firstDay_13 ?_
  refine va_mmax hx hb (hml.trans hl.1.symm) hown (hts _ m3_205) (hts _ m1_74) (hts _ m1_5) (hts _ m1_75) (Nat.le_of_ble_eq_true rfl) (Nat.le_trans (Nat.add_le_add_right (show rc 8 [] from rc0) 13) (Nat.le_of_ble_eq_true rfl)) (Nat.le_of_ble_eq_true rfl) (Nat.le_of_ble_eq_true rfl) dX6_firstDay_16 ?_
  exact hw_iret hx hb hret hf hH hlocks dX6_firstDay_19

theorem dX6_leastLoaded_0 : decode cX6_leastLoaded 0 = .ok (.iconst (-1), 1) := by decide +kernel
theorem dX6_leastLoaded_1 : decode cX6_leastLoaded 1 = .ok (.istore_n 3, 1) := by decide +kernel
theorem dX6_leastLoaded_2 : decode cX6_leastLoaded 2 = .ok (.iconst 0, 1) := by decide +kernel
theorem dX6_leastLoaded_3 : decode cX6_leastLoaded 3 = .ok (.istore 4, 2) := by decide +kernel
theorem dX6_leastLoaded_5 : decode cX6_leastLoaded 5 = .ok (.iload 4, 2) := by decide +kernel
theorem dX6_leastLoaded_7 : decode cX6_leastLoaded 7 = .ok (.iload_n 1, 1) := by decide +kernel
theorem dX6_leastLoaded_8 : decode cX6_leastLoaded 8 = .ok (.if_icmp .ge 74, 3) := by decide +kernel
theorem dX6_leastLoaded_11 : decode cX6_leastLoaded 11 = .ok (.aload_n 0, 1) := by decide +kernel
theorem dX6_leastLoaded_12 : decode cX6_leastLoaded 12 = .ok (.getfield 78, 3) := by decide +kernel
theorem dX6_leastLoaded_15 : decode cX6_leastLoaded 15 = .ok (.aload_n 0, 1) := by decide +kernel
theorem dX6_leastLoaded_16 : decode cX6_leastLoaded 16 = .ok (.getfield 71, 3) := by decide +kernel
theorem dX6_leastLoaded_19 : decode cX6_leastLoaded 19 = .ok (.ior, 1) := by decide +kernel
theorem dX6_leastLoaded_20 : decode cX6_leastLoaded 20 = .ok (.iload 4, 2) := by decide +kernel
theorem dX6_leastLoaded_22 : decode cX6_leastLoaded 22 = .ok (.invokestatic 74, 3) := by decide +kernel
theorem dX6_leastLoaded_25 : decode cX6_leastLoaded 25 = .ok (.ifCond .ne 19, 3) := by decide +kernel
theorem dX6_leastLoaded_28 : decode cX6_leastLoaded 28 = .ok (.iload_n 2, 1) := by decide +kernel
theorem dX6_leastLoaded_29 : decode cX6_leastLoaded 29 = .ok (.aload_n 0, 1) := by decide +kernel
theorem dX6_leastLoaded_30 : decode cX6_leastLoaded 30 = .ok (.getfield 15, 3) := by decide +kernel
theorem dX6_leastLoaded_33 : decode cX6_leastLoaded 33 = .ok (.iload 4, 2) := by decide +kernel
theorem dX6_leastLoaded_35 : decode cX6_leastLoaded 35 = .ok (.iaload, 1) := by decide +kernel
theorem dX6_leastLoaded_36 : decode cX6_leastLoaded 36 = .ok (.iand, 1) := by decide +kernel
theorem dX6_leastLoaded_37 : decode cX6_leastLoaded 37 = .ok (.ifCond .ne 7, 3) := by decide +kernel
theorem dX6_leastLoaded_40 : decode cX6_leastLoaded 40 = .ok (.iconst 1, 1) := by decide +kernel
theorem dX6_leastLoaded_41 : decode cX6_leastLoaded 41 = .ok (.goto 4, 3) := by decide +kernel
theorem dX6_leastLoaded_44 : decode cX6_leastLoaded 44 = .ok (.iconst 0, 1) := by decide +kernel
theorem dX6_leastLoaded_45 : decode cX6_leastLoaded 45 = .ok (.istore 5, 2) := by decide +kernel
theorem dX6_leastLoaded_47 : decode cX6_leastLoaded 47 = .ok (.iload 5, 2) := by decide +kernel
theorem dX6_leastLoaded_49 : decode cX6_leastLoaded 49 = .ok (.ifCond .eq 27, 3) := by decide +kernel
theorem dX6_leastLoaded_52 : decode cX6_leastLoaded 52 = .ok (.iload_n 3, 1) := by decide +kernel
theorem dX6_leastLoaded_53 : decode cX6_leastLoaded 53 = .ok (.iconst (-1), 1) := by decide +kernel
theorem dX6_leastLoaded_54 : decode cX6_leastLoaded 54 = .ok (.if_icmp .eq 19, 3) := by decide +kernel
theorem dX6_leastLoaded_57 : decode cX6_leastLoaded 57 = .ok (.aload_n 0, 1) := by decide +kernel
theorem dX6_leastLoaded_58 : decode cX6_leastLoaded 58 = .ok (.getfield 18, 3) := by decide +kernel
theorem dX6_leastLoaded_61 : decode cX6_leastLoaded 61 = .ok (.iload 4, 2) := by decide +kernel
theorem dX6_leastLoaded_63 : decode cX6_leastLoaded 63 = .ok (.iaload, 1) := by decide +kernel
theorem dX6_leastLoaded_64 : decode cX6_leastLoaded 64 = .ok (.aload_n 0, 1) := by decide +kernel
theorem dX6_leastLoaded_65 : decode cX6_leastLoaded 65 = .ok (.getfield 18, 3) := by decide +kernel
theorem dX6_leastLoaded_68 : decode cX6_leastLoaded 68 = .ok (.iload_n 3, 1) := by decide +kernel
theorem dX6_leastLoaded_69 : decode cX6_leastLoaded 69 = .ok (.iaload, 1) := by decide +kernel
theorem dX6_leastLoaded_70 : decode cX6_leastLoaded 70 = .ok (.if_icmp .ge 6, 3) := by decide +kernel
theorem dX6_leastLoaded_73 : decode cX6_leastLoaded 73 = .ok (.iload 4, 2) := by decide +kernel
theorem dX6_leastLoaded_75 : decode cX6_leastLoaded 75 = .ok (.istore_n 3, 1) := by decide +kernel
theorem dX6_leastLoaded_76 : decode cX6_leastLoaded 76 = .ok (.iinc 4 1, 3) := by decide +kernel
theorem dX6_leastLoaded_79 : decode cX6_leastLoaded 79 = .ok (.goto (-74), 3) := by decide +kernel
theorem dX6_leastLoaded_82 : decode cX6_leastLoaded 82 = .ok (.iload_n 3, 1) := by decide +kernel
theorem dX6_leastLoaded_83 : decode cX6_leastLoaded 83 = .ok (.ireturn, 1) := by decide +kernel
theorem hd_X6_leastLoaded : yX6_leastLoaded.cls = RX6 ∧ yX6_leastLoaded.cls ≠ "java/lang/invoke/MethodHandle" ∧ yX6_leastLoaded.cls ≠ "java/lang/invoke/VarHandle" ∧ (parseMethodDescriptor yX6_leastLoaded.desc).map (fun d => d.parameters.length) = some 2 := by decide +kernel
theorem hs_X6_leastLoaded : yX6_leastLoaded.cls ≠ "java/lang/invoke/MethodHandle" ∧ yX6_leastLoaded.cls ≠ "java/lang/invoke/VarHandle" ∧ (parseMethodDescriptor yX6_leastLoaded.desc).map (fun d => d.parameters.length) = some 2 := by decide +kernel
set_option maxHeartbeats 4000000 in
set_option maxRecDepth 100000 in
theorem l_X6_leastLoaded_L5 (C : CX p l e s m args meth c cX6_leastLoaded 6 RX6 (Option.some Jvm.ClassFile.FieldType.int) E) {o : Nat} (ho : K o = some (5, 0)) {r : Int32} {w' : Wd} (k : Int32 → Int32 → Int32 → Int32 → Wd → Option (Int32 × Wd)) (hk : ∀ (v1_5 : Int32) (v2_5 : Int32) (v3_5 : Int32) (v4_5 : Int32) (w : Wd) (H : Heap) (locs : List Loc) (ls : Array Slot), HQ E K z w s H locs → lv_has ls 6 [(1, .int v1_5), (2, .int v2_5), (3, .int v3_5), (4, .int v4_5), (0, rv E (some o))] → k v1_5 v2_5 v3_5 v4_5 w = some (r, w') → W p l e ({ frames := 1, cells := 0, slots := 0, locals := 21 } : Room) s m args below meth c H locs 0 0 (MQ below (QI E K z w' r) args s 0 0 (hA E)) (F0 m 82 ls [])) : ∀ (n : Nat) (v1_5 : Int32) (v2_5 : Int32) (v3_5 : Int32) (v4_5 : Int32) (w : Wd) (H : Heap) (locs : List Loc) (ls : Array Slot), HQ E K z w s H locs → lv_has ls 6 [(1, .int v1_5), (2, .int v2_5), (3, .int v3_5), (4, .int v4_5), (0, rv E (some o))] → f_X6_leastLoaded_L5 K o k n v1_5 v2_5 v3_5 v4_5 w = some (r, w') → W p l e ({ frames := 1, cells := 0, slots := 0, locals := 21 } : Room) s m args below meth c H locs 0 0 (MQ below (QI E K z w' r) args s 0 0 (hA E)) (F0 m 5 ls []) := by
  obtain ⟨hx, hb, hml, hown, hts, hKs, hT, hb0, hlocks, hret⟩ := id C
  intro n
  induction n with
  | zero =>
    intro v1_5 v2_5 v3_5 v4_5 w H locs ls hH hl hf
    cases hf
  | succ n ih =>
    intro v1_5 v2_5 v3_5 v4_5 w H locs ls hH hl hf
    rw [f_X6_leastLoaded_L5] at hf
    refine lv_iload hx hb dX6_leastLoaded_5 (lv_at hl 3 rfl) ?_
    refine lv_iload_n hx hb dX6_leastLoaded_7 rfl (lv_at hl 0 rfl) ?_
    refine lv_icmp_ge (tgt := 82) hx hb dX6_leastLoaded_8 (by decide) (fun c2 => ?_) (fun c2 => ?_)
    · replace hf := (if_pos c2).symm.trans hf
      exact hk v1_5 v2_5 v3_5 v4_5 _ _ _ _ hH (lv_sub hl [0, 1, 2, 3, 4] rfl) hf
    · replace hf := (if_neg c2).symm.trans hf
      refine hl_aload_n hx hb dX6_leastLoaded_11 rfl (lv_at hl 4 rfl) ?_
      refine g6_4 hx hb hts hown hKs hH rfl ho m2_152 dX6_leastLoaded_12 ?_
      refine hl_aload_n hx hb dX6_leastLoaded_15 rfl (lv_at hl 4 rfl) ?_
      refine g6_5 hx hb hts hown hKs hH rfl ho m2_153 dX6_leastLoaded_16 ?_
      refine lv_ior hx hb dX6_leastLoaded_19 ?_
      refine lv_iload hx hb dX6_leastLoaded_20 (lv_at hl 3 rfl) ?_
      obtain ⟨q3, hq3, hf⟩ := bnd hf
      refine hcM_i hx hb hml hown hts hKs hT hb0 hH (As := [.int (((wI w 604 o) ||| (wI w 605 o))), .int v4_5]) (rest := []) (k_X12_has l E K H.size ((wI w 604 o) ||| (wI w 605 o)) v4_5 w hq3) m4_11 m3_188 m1_1 m3_189 hs_X12_has ⟨Nat.le_of_ble_eq_true rfl, Nat.le_of_ble_eq_true rfl, rfl, rfl⟩ hl.1 rfl rc0 rfl dX6_leastLoaded_22 ⟨Nat.zero_le _, Nat.zero_le _⟩ (fun H locs hH => ?_)
      refine lv_if_ne (tgt := 44) hx hb dX6_leastLoaded_25 (by decide) (fun c4 => ?_) (fun c4 => ?_)
      · replace hf := (if_neg c4).symm.trans hf
        refine lv_iconst (v := 0) hx hb dX6_leastLoaded_44 (by decide) ?_
        refine lv_istore (i := 5) (lv' := [(5, .int 0), (1, .int v1_5), (2, .int v2_5), (3, .int v3_5), (4, .int v4_5), (0, rv E (some o))]) hx hb dX6_leastLoaded_45 hl (by decide) rfl (fun ls hl => ?_)
        refine lv_iload hx hb dX6_leastLoaded_47 (lv_at hl 0 rfl) ?_
        refine lv_if_eq (tgt := 76) hx hb dX6_leastLoaded_49 (by decide) (fun c5 => ?_) (fun c5 => ?_)
        · skip
          refine lv_iinc (v := (v4_5 + 1)) (lv' := [(4, .int ((v4_5 + 1))), (5, .int 0), (1, .int v1_5), (2, .int v2_5), (3, .int v3_5), (0, rv E (some o))]) hx hb dX6_leastLoaded_76 hl (k := 4) rfl rfl (by decide) rfl (fun ls hl => ?_)
          refine lv_goto (tgt := 5) hx hb dX6_leastLoaded_79 (by decide) ?_
          exact ih v1_5 v2_5 v3_5 (v4_5 + 1) _ _ _ _ hH (lv_sub hl [2, 3, 4, 0, 5] rfl) hf
        · exact (by revert c5; decide : False).elim
      · replace hf := (if_pos c4).symm.trans hf
        refine lv_iload_n hx hb dX6_leastLoaded_28 rfl (lv_at hl 1 rfl) ?_
        refine hl_aload_n hx hb dX6_leastLoaded_29 rfl (lv_at hl 4 rfl) ?_
        refine g6_1 hx hb hts hown hKs hH rfl ho m2_149 dX6_leastLoaded_30 ?_
        refine lv_iload hx hb dX6_leastLoaded_33 (lv_at hl 3 rfl) ?_
        obtain ⟨a6, ha6, hf⟩ := bnd hf
        replace ha6 := cha_some ha6
        obtain ⟨j7, hj7, hf⟩ := bnd hf
        refine hw_iald hx hb hKs hH ha6.1 ha6.2 hj7 dX6_leastLoaded_35 ?_
        refine lv_iand hx hb dX6_leastLoaded_36 ?_
        refine lv_if_ne (tgt := 44) hx hb dX6_leastLoaded_37 (by decide) (fun c8 => ?_) (fun c8 => ?_)
        · replace hf := (if_neg c8).symm.trans hf
          refine lv_iconst (v := 0) hx hb dX6_leastLoaded_44 (by decide) ?_
          refine lv_istore (i := 5) (lv' := [(5, .int 0), (1, .int v1_5), (2, .int v2_5), (3, .int v3_5), (4, .int v4_5), (0, rv E (some o))]) hx hb dX6_leastLoaded_45 hl (by decide) rfl (fun ls hl => ?_)
          refine lv_iload hx hb dX6_leastLoaded_47 (lv_at hl 0 rfl) ?_
          refine lv_if_eq (tgt := 76) hx hb dX6_leastLoaded_49 (by decide) (fun c9 => ?_) (fun c9 => ?_)
          · skip
            refine lv_iinc (v := (v4_5 + 1)) (lv' := [(4, .int ((v4_5 + 1))), (5, .int 0), (1, .int v1_5), (2, .int v2_5), (3, .int v3_5), (0, rv E (some o))]) hx hb dX6_leastLoaded_76 hl (k := 4) rfl rfl (by decide) rfl (fun ls hl => ?_)
            refine lv_goto (tgt := 5) hx hb dX6_leastLoaded_79 (by decide) ?_
            exact ih v1_5 v2_5 v3_5 (v4_5 + 1) _ _ _ _ hH (lv_sub hl [2, 3, 4, 0, 5] rfl) hf
          · exact (by revert c9; decide : False).elim
        · replace hf := (if_pos c8).symm.trans hf
          refine lv_iconst (v := 1) hx hb dX6_leastLoaded_40 (by decide) ?_
          refine lv_goto (tgt := 45) hx hb dX6_leastLoaded_41 (by decide) ?_
          refine lv_istore (i := 5) (lv' := [(5, .int 1), (1, .int v1_5), (2, .int v2_5), (3, .int v3_5), (4, .int v4_5), (0, rv E (some o))]) hx hb dX6_leastLoaded_45 hl (by decide) rfl (fun ls hl => ?_)
          refine lv_iload hx hb dX6_leastLoaded_47 (lv_at hl 0 rfl) ?_
          refine lv_if_eq (tgt := 76) hx hb dX6_leastLoaded_49 (by decide) (fun c10 => ?_) (fun c10 => ?_)
          · exact (by revert c10; decide : False).elim
          · skip
            refine lv_iload_n hx hb dX6_leastLoaded_52 rfl (lv_at hl 3 rfl) ?_
            refine lv_iconst (v := (-1)) hx hb dX6_leastLoaded_53 (by decide) ?_
            refine lv_icmp_eq (tgt := 73) hx hb dX6_leastLoaded_54 (by decide) (fun c11 => ?_) (fun c11 => ?_)
            · replace hf := (if_pos c11).symm.trans hf
              refine lv_iload hx hb dX6_leastLoaded_73 (lv_at hl 4 rfl) ?_
              refine lv_istore_n (i := 3) (lv' := [(3, .int v4_5), (5, .int 1), (1, .int v1_5), (2, .int v2_5), (4, .int v4_5), (0, rv E (some o))]) hx hb dX6_leastLoaded_75 rfl hl (by decide) rfl (fun ls hl => ?_)
              refine lv_iinc (v := (v4_5 + 1)) (lv' := [(4, .int ((v4_5 + 1))), (3, .int v4_5), (5, .int 1), (1, .int v1_5), (2, .int v2_5), (0, rv E (some o))]) hx hb dX6_leastLoaded_76 hl (k := 4) rfl rfl (by decide) rfl (fun ls hl => ?_)
              refine lv_goto (tgt := 5) hx hb dX6_leastLoaded_79 (by decide) ?_
              exact ih v1_5 v2_5 v4_5 (v4_5 + 1) _ _ _ _ hH (lv_sub hl [3, 4, 1, 0, 5] rfl) hf
            · replace hf := (if_neg c11).symm.trans hf
              refine hl_aload_n hx hb dX6_leastLoaded_57 rfl (lv_at hl 5 rfl) ?_
              refine g6_2 hx hb hts hown hKs hH rfl ho m2_150 dX6_leastLoaded_58 ?_
              refine lv_iload hx hb dX6_leastLoaded_61 (lv_at hl 4 rfl) ?_
              obtain ⟨a12, ha12, hf⟩ := bnd hf
              replace ha12 := cha_some ha12
              obtain ⟨j13, hj13, hf⟩ := bnd hf
              refine hw_iald hx hb hKs hH ha12.1 ha12.2 hj13 dX6_leastLoaded_63 ?_
              refine hl_aload_n hx hb dX6_leastLoaded_64 rfl (lv_at hl 5 rfl) ?_
              refine g6_2 hx hb hts hown hKs hH rfl ho m2_150 dX6_leastLoaded_65 ?_
              refine lv_iload_n hx hb dX6_leastLoaded_68 rfl (lv_at hl 3 rfl) ?_
              obtain ⟨j14, hj14, hf⟩ := bnd hf
              refine hw_iald hx hb hKs hH ha12.1 ha12.2 hj14 dX6_leastLoaded_69 ?_
              refine lv_icmp_ge (tgt := 76) hx hb dX6_leastLoaded_70 (by decide) (fun c15 => ?_) (fun c15 => ?_)
              · replace hf := (if_pos c15).symm.trans hf
                refine lv_iinc (v := (v4_5 + 1)) (lv' := [(4, .int ((v4_5 + 1))), (5, .int 1), (1, .int v1_5), (2, .int v2_5), (3, .int v3_5), (0, rv E (some o))]) hx hb dX6_leastLoaded_76 hl (k := 4) rfl rfl (by decide) rfl (fun ls hl => ?_)
                refine lv_goto (tgt := 5) hx hb dX6_leastLoaded_79 (by decide) ?_
                exact ih v1_5 v2_5 v3_5 (v4_5 + 1) _ _ _ _ hH (lv_sub hl [2, 3, 4, 0, 5] rfl) hf
              · replace hf := (if_neg c15).symm.trans hf
                refine lv_iload hx hb dX6_leastLoaded_73 (lv_at hl 4 rfl) ?_
                refine lv_istore_n (i := 3) (lv' := [(3, .int v4_5), (5, .int 1), (1, .int v1_5), (2, .int v2_5), (4, .int v4_5), (0, rv E (some o))]) hx hb dX6_leastLoaded_75 rfl hl (by decide) rfl (fun ls hl => ?_)
                refine lv_iinc (v := (v4_5 + 1)) (lv' := [(4, .int ((v4_5 + 1))), (3, .int v4_5), (5, .int 1), (1, .int v1_5), (2, .int v2_5), (0, rv E (some o))]) hx hb dX6_leastLoaded_76 hl (k := 4) rfl rfl (by decide) rfl (fun ls hl => ?_)
                refine lv_goto (tgt := 5) hx hb dX6_leastLoaded_79 (by decide) ?_
                exact ih v1_5 v2_5 v4_5 (v4_5 + 1) _ _ _ _ hH (lv_sub hl [3, 4, 1, 0, 5] rfl) hf
set_option maxHeartbeats 4000000 in
set_option maxRecDepth 100000 in
theorem k_X6_leastLoaded (l : Launch) (E : Ev) (K : Kd) (z : Nat) (o : Nat) (a_1 : Int32) (a_2 : Int32) (w : Wd) (ho : K o = some (5, 0)) {r : Int32} {w' : Wd} (hf : f_X6_leastLoaded K o a_1 a_2 w = some (r, w')) : Met l yX6_leastLoaded (Cond.code yX6_leastLoaded cX6_leastLoaded 6 (Option.some Jvm.ClassFile.FieldType.int) :: bt) ({ frames := 1, cells := 0, slots := 0, locals := 21 } : Room) (va_Pc [rv E (some o), .int a_1, .int a_2] (HB E K w z)) (QI E K z w' r) 0 0 (hA E) := by
  refine Met.ofW (cc := cX6_leastLoaded) (maxL := 6) (ret := (Option.some Jvm.ClassFile.FieldType.int)) (by decide) rfl ?_
  intro p e s m args below meth c s₁ B hml hv
  obtain ⟨rfl, hz, hP, hKs, hT, hb0⟩ := hv
  have C : CX p l e s m _ meth c cX6_leastLoaded 6 RX6 (Option.some Jvm.ClassFile.FieldType.int) E := ⟨B.exec, B.bytes, hml, findClass_of_methodNamed B.named, fun w h => atoms_spec (ws := Cond.code yX6_leastLoaded cX6_leastLoaded 6 (Option.some Jvm.ClassFile.FieldType.int) :: bt) B.pre w (List.mem_cons_of_mem _ h), hKs, hT, by rw [hz]; exact hb0, B.notSynchronized, B.returns⟩
  have hH : HQ E K z w s s.heap [] := ⟨hP, va_S.rf, hz⟩
  obtain ⟨hx, hb, hml, hown, hts, hKs, hT, hb0, hlocks, hret⟩ := id C
  have hl := lv_entry [rv E (some o), .int a_1, .int a_2] (n := 6) (by simp [lg_len_nil, lg_len_i, lg_len_j, lg_len_q, lg_len_f, lg_len_d, lg_len_r])
  rw [lg_entry_eq]
  generalize (lg_sl [rv E (some o), .int a_1, .int a_2] ++ List.replicate (6 - (lg_sl [rv E (some o), .int a_1, .int a_2]).length) Slot.unset).toArray = ls at hl ⊢
  replace hl : lv_has ls 6 [(0, rv E (some o)), (1, .int a_1), (2, .int a_2)] := by simpa only [lv_args, cat_q, cat_i, cat_j, reduceIte, Nat.reduceEqDiff, Nat.reduceAdd, Nat.zero_add] using hl
  generalize s.heap = H at hH ⊢
  unfold f_X6_leastLoaded at hf
  refine lv_iconst (v := (-1)) hx hb dX6_leastLoaded_0 (by decide) ?_
  refine lv_istore_n (i := 3) (lv' := [(3, .int ((-1))), (0, rv E (some o)), (1, .int a_1), (2, .int a_2)]) hx hb dX6_leastLoaded_1 rfl hl (by decide) rfl (fun ls hl => ?_)
  refine lv_iconst (v := 0) hx hb dX6_leastLoaded_2 (by decide) ?_
  refine lv_istore (i := 4) (lv' := [(4, .int 0), (3, .int ((-1))), (0, rv E (some o)), (1, .int a_1), (2, .int a_2)]) hx hb dX6_leastLoaded_3 hl (by decide) rfl (fun ls hl => ?_)
  refine l_X6_leastLoaded_L5  C ho _ (fun v1_5 v2_5 v3_5 v4_5 w1 H locs ls hH hl hf => ?_) fu a_1 a_2 (-1) 0 w _ _ _ hH (lv_sub hl [3, 4, 1, 0, 2] rfl) hf
  refine lv_iload_n hx hb dX6_leastLoaded_82 rfl (lv_at hl 2 rfl) ?_
  exact hw_iret hx hb hret hf hH hlocks dX6_leastLoaded_83

theorem dX6_take_0 : decode cX6_take 0 = .ok (.iload_n 1, 1) := by decide +kernel
theorem dX6_take_1 : decode cX6_take 1 = .ok (.ifCond .lt 16, 3) := by decide +kernel
theorem dX6_take_4 : decode cX6_take 4 = .ok (.iload_n 1, 1) := by decide +kernel
theorem dX6_take_5 : decode cX6_take 5 = .ok (.aload_n 0, 1) := by decide +kernel
theorem dX6_take_6 : decode cX6_take 6 = .ok (.arraylength, 1) := by decide +kernel
theorem dX6_take_7 : decode cX6_take 7 = .ok (.if_icmp .ge 10, 3) := by decide +kernel
theorem dX6_take_10 : decode cX6_take 10 = .ok (.aload_n 0, 1) := by decide +kernel
theorem dX6_take_11 : decode cX6_take 11 = .ok (.iload_n 1, 1) := by decide +kernel
theorem dX6_take_12 : decode cX6_take 12 = .ok (.dup2, 1) := by decide +kernel
theorem dX6_take_13 : decode cX6_take 13 = .ok (.iaload, 1) := by decide +kernel
theorem dX6_take_14 : decode cX6_take 14 = .ok (.iload_n 2, 1) := by decide +kernel
theorem dX6_take_15 : decode cX6_take 15 = .ok (.ior, 1) := by decide +kernel
theorem dX6_take_16 : decode cX6_take 16 = .ok (.iastore, 1) := by decide +kernel
theorem dX6_take_17 : decode cX6_take 17 = .ok (.return_, 1) := by decide +kernel
theorem hs_X6_take : yX6_take.cls ≠ "java/lang/invoke/MethodHandle" ∧ yX6_take.cls ≠ "java/lang/invoke/VarHandle" ∧ (parseMethodDescriptor yX6_take.desc).map (fun d => d.parameters.length) = some 3 := by decide +kernel
set_option maxHeartbeats 4000000 in
set_option maxRecDepth 100000 in
theorem k_X6_take (l : Launch) (E : Ev) (K : Kd) (z : Nat) (a_0 : Option Nat) (a_1 : Int32) (a_2 : Int32) (w : Wd) {w' : Wd} (hf : f_X6_take K a_0 a_1 a_2 w = some w') : Met l yX6_take (Cond.code yX6_take cX6_take 3 (Option.none : Option Jvm.ClassFile.FieldType) :: bt) ({ frames := 0, cells := 0, slots := 0, locals := 0 } : Room) (va_Pc [rv E a_0, .int a_1, .int a_2] (HB E K w z)) (QV E K z w') 0 0 (hA E) := by
  refine Met.ofW (cc := cX6_take) (maxL := 3) (ret := (Option.none : Option Jvm.ClassFile.FieldType)) (by decide) rfl ?_
  intro p e s m args below meth c s₁ B hml hv
  obtain ⟨rfl, hz, hP, hKs, hT, hb0⟩ := hv
  have C : CX p l e s m _ meth c cX6_take 3 RX6 (Option.none : Option Jvm.ClassFile.FieldType) E := ⟨B.exec, B.bytes, hml, findClass_of_methodNamed B.named, fun w h => atoms_spec (ws := Cond.code yX6_take cX6_take 3 (Option.none : Option Jvm.ClassFile.FieldType) :: bt) B.pre w (List.mem_cons_of_mem _ h), hKs, hT, by rw [hz]; exact hb0, B.notSynchronized, B.returns⟩
  have hH : HQ E K z w s s.heap [] := ⟨hP, va_S.rf, hz⟩
  obtain ⟨hx, hb, hml, hown, hts, hKs, hT, hb0, hlocks, hret⟩ := id C
  have hl := lv_entry [rv E a_0, .int a_1, .int a_2] (n := 3) (by simp [lg_len_nil, lg_len_i, lg_len_j, lg_len_q, lg_len_f, lg_len_d, lg_len_r])
  rw [lg_entry_eq]
  generalize (lg_sl [rv E a_0, .int a_1, .int a_2] ++ List.replicate (3 - (lg_sl [rv E a_0, .int a_1, .int a_2]).length) Slot.unset).toArray = ls at hl ⊢
  replace hl : lv_has ls 3 [(0, rv E a_0), (1, .int a_1), (2, .int a_2)] := by simpa only [lv_args, cat_q, cat_i, cat_j, reduceIte, Nat.reduceEqDiff, Nat.reduceAdd, Nat.zero_add] using hl
  generalize s.heap = H at hH ⊢
  unfold f_X6_take at hf
  refine lv_iload_n hx hb dX6_take_0 rfl (lv_at hl 1 rfl) ?_
  refine lv_if_lt (tgt := 17) hx hb dX6_take_1 (by decide) (fun c1 => ?_) (fun c1 => ?_)
  · replace hf := (if_pos c1).symm.trans hf
    exact hw_vret hx hb hret hf hH hlocks dX6_take_17
  · replace hf := (if_neg c1).symm.trans hf
    refine lv_iload_n hx hb dX6_take_4 rfl (lv_at hl 1 rfl) ?_
    refine hl_aload_n hx hb dX6_take_5 rfl (lv_at hl 0 rfl) ?_
    obtain ⟨a2, ha2, hf⟩ := bnd hf
    replace ha2 := cha_some ha2
    refine hw_alen20 hx hb hKs hH ha2.1 ha2.2 dX6_take_6 ?_
    refine lv_icmp_ge (tgt := 17) hx hb dX6_take_7 (by decide) (fun c3 => ?_) (fun c3 => ?_)
    · replace hf := (if_pos c3).symm.trans hf
      exact hw_vret hx hb hret hf hH hlocks dX6_take_17
    · replace hf := (if_neg c3).symm.trans hf
      refine hl_aload_n hx hb dX6_take_10 rfl (lv_at hl 0 rfl) ?_
      refine lv_iload_n hx hb dX6_take_11 rfl (lv_at hl 1 rfl) ?_
      refine lv_dup2_11 hx hb dX6_take_12 rfl rv_cat ?_
      obtain ⟨j4, hj4, hf⟩ := bnd hf
      refine hw_iald hx hb hKs hH ha2.1 ha2.2 hj4 dX6_take_13 ?_
      refine lv_iload_n hx hb dX6_take_14 rfl (lv_at hl 2 rfl) ?_
      refine lv_ior hx hb dX6_take_15 ?_
      obtain ⟨j5, hj5, hf⟩ := bnd hf
      obtain ⟨w6, hw6, hf⟩ := bnd hf
      replace hw6 := Option.some.inj hw6
      refine hw_iast (x := ((aI w a2.1 j4) ||| a_2)) hx hb hKs hH ha2.1 ha2.2 hj5 dX6_take_16 (fun H locs hH => ?_)
      rw [hw6] at hH
      exact hw_vret hx hb hret hf hH hlocks dX6_take_17

theorem dX7_init_0 : decode cX7_init 0 = .ok (.aload_n 0, 1) := by decide +kernel
theorem dX7_init_1 : decode cX7_init 1 = .ok (.invokespecial 3, 3) := by decide +kernel
theorem dX7_init_4 : decode cX7_init 4 = .ok (.aload_n 0, 1) := by decide +kernel
theorem dX7_init_5 : decode cX7_init 5 = .ok (.bipush 20, 2) := by decide +kernel
theorem dX7_init_7 : decode cX7_init 7 = .ok (.newarray .int, 2) := by decide +kernel
theorem dX7_init_9 : decode cX7_init 9 = .ok (.putfield 9, 3) := by decide +kernel
theorem dX7_init_12 : decode cX7_init 12 = .ok (.return_, 1) := by decide +kernel
theorem hd_X7_init : yX7_init.cls = RX7 ∧ yX7_init.cls ≠ "java/lang/invoke/MethodHandle" ∧ yX7_init.cls ≠ "java/lang/invoke/VarHandle" ∧ (parseMethodDescriptor yX7_init.desc).map (fun d => d.parameters.length) = some 0 := by decide +kernel
theorem hs_X7_init : yX7_init.cls ≠ "java/lang/invoke/MethodHandle" ∧ yX7_init.cls ≠ "java/lang/invoke/VarHandle" ∧ (parseMethodDescriptor yX7_init.desc).map (fun d => d.parameters.length) = some 0 := by decide +kernel
set_option maxHeartbeats 4000000 in
set_option maxRecDepth 100000 in
theorem k_X7_init (l : Launch) (E : Ev) (K : Kd) (n : Nat) (o : Nat) (w : Wd) {K' : Kd} {n' : Nat} {w' : Wd} (hf : f_X7_init K n o w = some (K', n', w')) : Met l yX7_init (Cond.code yX7_init cX7_init 1 (Option.none : Option Jvm.ClassFile.FieldType) :: bt) ({ frames := 1, cells := 1, slots := 20, locals := 12 } : Room) (va_Pc [rv E (some o)] (HB E K w (E.2.1 + n))) (QV E K' (E.2.1 + n') w') 1 20 (hA E) := by
  refine Met.ofW (cc := cX7_init) (maxL := 1) (ret := (Option.none : Option Jvm.ClassFile.FieldType)) (by decide) rfl ?_
  intro p e s m args below meth c s₁ B hml hv
  have hn2 : meth.name = "<init>" := (name_of_methodNamed B.named B.method).1
  obtain ⟨rfl, hz, hP, hKs, hT, hb0⟩ := hv
  have C : CX p l e s m _ meth c cX7_init 1 RX7 (Option.none : Option Jvm.ClassFile.FieldType) E := ⟨B.exec, B.bytes, hml, findClass_of_methodNamed B.named, fun w h => atoms_spec (ws := Cond.code yX7_init cX7_init 1 (Option.none : Option Jvm.ClassFile.FieldType) :: bt) B.pre w (List.mem_cons_of_mem _ h), hKs, hT, by rw [hz]; exact hb0, B.notSynchronized, B.returns⟩
  have hH : HQ E K (E.2.1 + n) w s s.heap [] := ⟨hP, va_S.rf, hz⟩
  obtain ⟨hx, hb, hml, hown, hts, hKs, hT, hb0, hlocks, hret⟩ := id C
  have hl := lv_entry [rv E (some o)] (n := 1) (by simp [lg_len_nil, lg_len_i, lg_len_j, lg_len_q, lg_len_f, lg_len_d, lg_len_r])
  rw [lg_entry_eq]
  generalize (lg_sl [rv E (some o)] ++ List.replicate (1 - (lg_sl [rv E (some o)]).length) Slot.unset).toArray = ls at hl ⊢
  replace hl : lv_has ls 1 [(0, rv E (some o))] := by simpa only [lv_args, cat_q, cat_i, cat_j, reduceIte, Nat.reduceEqDiff, Nat.reduceAdd, Nat.zero_add] using hl
  generalize s.heap = H at hH ⊢
  unfold f_X7_init at hf
  refine hl_aload_n hx hb dX7_init_0 rfl (lv_at hl 0 rfl) ?_
  refine hw_obj hx hb hml hl.1 hown hts m2_62 m1_40 m1_41 dX7_init_1 (Nat.le_of_ble_eq_true rfl) (Nat.le_of_ble_eq_true rfl) ?_
  refine hl_aload_n hx hb dX7_init_4 rfl (lv_at hl 0 rfl) ?_
  refine lv_bipush (v := 20) hx hb dX7_init_5 (by decide) ?_
  refine hw_newa20 (N := 20) hx hb hts m1_67 hKs hH (by decide) (by decide) (Nat.le_of_ble_eq_true rfl) (Nat.le_of_ble_eq_true rfl) (Nat.le_of_ble_eq_true rfl) dX7_init_7 (fun H hH => ?_)
  obtain ⟨K1, hK1, hf⟩ := bnd hf
  replace hK1 := Option.some.inj hK1
  obtain ⟨w2, hw2, hf⟩ := bnd hf
  replace hw2 := Option.some.inj hw2
  rw [hK1, hw2] at hH
  obtain ⟨a3, ha3, hf⟩ := bnd hf
  replace ha3 := chk_some ha3
  obtain ⟨w4, hw4, hf⟩ := bnd hf
  replace hw4 := Option.some.inj hw4
  refine pf7_7 (v := (some n)) hx hb hts hown hKs hH ha3.1 ha3.2 hn2 m2_86 dX7_init_9 (fun H locs hH => ?_)
  rw [hw4] at hH
  exact hw_aret hx hb (Nat.le_of_ble_eq_true rfl) (Nat.le_of_ble_eq_true rfl) hret hf hH hlocks dX7_init_12

theorem dX7_copyFrom_0 : decode cX7_copyFrom 0 = .ok (.aload_n 0, 1) := by decide +kernel
theorem dX7_copyFrom_1 : decode cX7_copyFrom 1 = .ok (.aload_n 1, 1) := by decide +kernel
theorem dX7_copyFrom_2 : decode cX7_copyFrom 2 = .ok (.getfield 25, 3) := by decide +kernel
theorem dX7_copyFrom_5 : decode cX7_copyFrom 5 = .ok (.putfield 25, 3) := by decide +kernel
theorem dX7_copyFrom_8 : decode cX7_copyFrom 8 = .ok (.aload_n 0, 1) := by decide +kernel
theorem dX7_copyFrom_9 : decode cX7_copyFrom 9 = .ok (.aload_n 1, 1) := by decide +kernel
theorem dX7_copyFrom_10 : decode cX7_copyFrom 10 = .ok (.getfield 15, 3) := by decide +kernel
theorem dX7_copyFrom_13 : decode cX7_copyFrom 13 = .ok (.putfield 15, 3) := by decide +kernel
theorem dX7_copyFrom_16 : decode cX7_copyFrom 16 = .ok (.aload_n 0, 1) := by decide +kernel
theorem dX7_copyFrom_17 : decode cX7_copyFrom 17 = .ok (.aload_n 1, 1) := by decide +kernel
theorem dX7_copyFrom_18 : decode cX7_copyFrom 18 = .ok (.getfield 28, 3) := by decide +kernel
theorem dX7_copyFrom_21 : decode cX7_copyFrom 21 = .ok (.putfield 28, 3) := by decide +kernel
theorem dX7_copyFrom_24 : decode cX7_copyFrom 24 = .ok (.aload_n 0, 1) := by decide +kernel
theorem dX7_copyFrom_25 : decode cX7_copyFrom 25 = .ok (.aload_n 1, 1) := by decide +kernel
theorem dX7_copyFrom_26 : decode cX7_copyFrom 26 = .ok (.getfield 31, 3) := by decide +kernel
theorem dX7_copyFrom_29 : decode cX7_copyFrom 29 = .ok (.putfield 31, 3) := by decide +kernel
theorem dX7_copyFrom_32 : decode cX7_copyFrom 32 = .ok (.aload_n 0, 1) := by decide +kernel
theorem dX7_copyFrom_33 : decode cX7_copyFrom 33 = .ok (.aload_n 1, 1) := by decide +kernel
theorem dX7_copyFrom_34 : decode cX7_copyFrom 34 = .ok (.getfield 34, 3) := by decide +kernel
theorem dX7_copyFrom_37 : decode cX7_copyFrom 37 = .ok (.putfield 34, 3) := by decide +kernel
theorem dX7_copyFrom_40 : decode cX7_copyFrom 40 = .ok (.aload_n 0, 1) := by decide +kernel
theorem dX7_copyFrom_41 : decode cX7_copyFrom 41 = .ok (.aload_n 1, 1) := by decide +kernel
theorem dX7_copyFrom_42 : decode cX7_copyFrom 42 = .ok (.getfield 37, 3) := by decide +kernel
theorem dX7_copyFrom_45 : decode cX7_copyFrom 45 = .ok (.putfield 37, 3) := by decide +kernel
theorem dX7_copyFrom_48 : decode cX7_copyFrom 48 = .ok (.aload_n 0, 1) := by decide +kernel
theorem dX7_copyFrom_49 : decode cX7_copyFrom 49 = .ok (.aload_n 1, 1) := by decide +kernel
theorem dX7_copyFrom_50 : decode cX7_copyFrom 50 = .ok (.getfield 19, 3) := by decide +kernel
theorem dX7_copyFrom_53 : decode cX7_copyFrom 53 = .ok (.putfield 19, 3) := by decide +kernel
theorem dX7_copyFrom_56 : decode cX7_copyFrom 56 = .ok (.aload_n 1, 1) := by decide +kernel
theorem dX7_copyFrom_57 : decode cX7_copyFrom 57 = .ok (.getfield 9, 3) := by decide +kernel
theorem dX7_copyFrom_60 : decode cX7_copyFrom 60 = .ok (.iconst 0, 1) := by decide +kernel
theorem dX7_copyFrom_61 : decode cX7_copyFrom 61 = .ok (.aload_n 0, 1) := by decide +kernel
theorem dX7_copyFrom_62 : decode cX7_copyFrom 62 = .ok (.getfield 9, 3) := by decide +kernel
theorem dX7_copyFrom_65 : decode cX7_copyFrom 65 = .ok (.iconst 0, 1) := by decide +kernel
theorem dX7_copyFrom_66 : decode cX7_copyFrom 66 = .ok (.aload_n 0, 1) := by decide +kernel
theorem dX7_copyFrom_67 : decode cX7_copyFrom 67 = .ok (.getfield 9, 3) := by decide +kernel
theorem dX7_copyFrom_70 : decode cX7_copyFrom 70 = .ok (.arraylength, 1) := by decide +kernel
theorem dX7_copyFrom_71 : decode cX7_copyFrom 71 = .ok (.invokestatic 40, 3) := by decide +kernel
theorem dX7_copyFrom_74 : decode cX7_copyFrom 74 = .ok (.return_, 1) := by decide +kernel
theorem hd_X7_copyFrom : yX7_copyFrom.cls = RX7 ∧ yX7_copyFrom.cls ≠ "java/lang/invoke/MethodHandle" ∧ yX7_copyFrom.cls ≠ "java/lang/invoke/VarHandle" ∧ (parseMethodDescriptor yX7_copyFrom.desc).map (fun d => d.parameters.length) = some 1 := by decide +kernel
theorem hs_X7_copyFrom : yX7_copyFrom.cls ≠ "java/lang/invoke/MethodHandle" ∧ yX7_copyFrom.cls ≠ "java/lang/invoke/VarHandle" ∧ (parseMethodDescriptor yX7_copyFrom.desc).map (fun d => d.parameters.length) = some 1 := by decide +kernel
set_option maxHeartbeats 4000000 in
set_option maxRecDepth 100000 in
theorem k_X7_copyFrom (l : Launch) (E : Ev) (K : Kd) (z : Nat) (o : Nat) (a_1 : Option Nat) (w : Wd) (ho : K o = some (6, 0)) {w' : Wd} (hf : f_X7_copyFrom K o a_1 w = some w') : Met l yX7_copyFrom (Cond.code yX7_copyFrom cX7_copyFrom 2 (Option.none : Option Jvm.ClassFile.FieldType) :: bt) ({ frames := 1, cells := 0, slots := 0, locals := 60 } : Room) (va_Pc [rv E (some o), rv E a_1] (HB E K w z)) (QV E K z w') 0 0 (hA E) := by
  refine Met.ofW (cc := cX7_copyFrom) (maxL := 2) (ret := (Option.none : Option Jvm.ClassFile.FieldType)) (by decide) rfl ?_
  intro p e s m args below meth c s₁ B hml hv
  obtain ⟨rfl, hz, hP, hKs, hT, hb0⟩ := hv
  have C : CX p l e s m _ meth c cX7_copyFrom 2 RX7 (Option.none : Option Jvm.ClassFile.FieldType) E := ⟨B.exec, B.bytes, hml, findClass_of_methodNamed B.named, fun w h => atoms_spec (ws := Cond.code yX7_copyFrom cX7_copyFrom 2 (Option.none : Option Jvm.ClassFile.FieldType) :: bt) B.pre w (List.mem_cons_of_mem _ h), hKs, hT, by rw [hz]; exact hb0, B.notSynchronized, B.returns⟩
  have hH : HQ E K z w s s.heap [] := ⟨hP, va_S.rf, hz⟩
  obtain ⟨hx, hb, hml, hown, hts, hKs, hT, hb0, hlocks, hret⟩ := id C
  have hl := lv_entry [rv E (some o), rv E a_1] (n := 2) (by simp [lg_len_nil, lg_len_i, lg_len_j, lg_len_q, lg_len_f, lg_len_d, lg_len_r])
  rw [lg_entry_eq]
  generalize (lg_sl [rv E (some o), rv E a_1] ++ List.replicate (2 - (lg_sl [rv E (some o), rv E a_1]).length) Slot.unset).toArray = ls at hl ⊢
  replace hl : lv_has ls 2 [(0, rv E (some o)), (1, rv E a_1)] := by simpa only [lv_args, cat_q, cat_i, cat_j, reduceIte, Nat.reduceEqDiff, Nat.reduceAdd, Nat.zero_add] using hl
  generalize s.heap = H at hH ⊢
  unfold f_X7_copyFrom at hf
  refine hl_aload_n hx hb dX7_copyFrom_0 rfl (lv_at hl 0 rfl) ?_
  refine hl_aload_n hx hb dX7_copyFrom_1 rfl (lv_at hl 1 rfl) ?_
  obtain ⟨a1, ha1, hf⟩ := bnd hf
  replace ha1 := chk_some ha1
  refine g7_0 hx hb hts hown hKs hH ha1.1 ha1.2 m2_63 dX7_copyFrom_2 ?_
  obtain ⟨w2, hw2, hf⟩ := bnd hf
  replace hw2 := Option.some.inj hw2
  refine p7_0 (v := (wI w 700 a1)) hx hb hts hown hKs hH rfl ho m2_63 dX7_copyFrom_5 (fun H locs hH => ?_)
  rw [hw2] at hH
  refine hl_aload_n hx hb dX7_copyFrom_8 rfl (lv_at hl 0 rfl) ?_
  refine hl_aload_n hx hb dX7_copyFrom_9 rfl (lv_at hl 1 rfl) ?_
  refine g7_1 hx hb hts hown hKs hH ha1.1 ha1.2 m2_66 dX7_copyFrom_10 ?_
  obtain ⟨w3, hw3, hf⟩ := bnd hf
  replace hw3 := Option.some.inj hw3
  refine p7_1 (v := (wI w2 701 a1)) hx hb hts hown hKs hH rfl ho m2_66 dX7_copyFrom_13 (fun H locs hH => ?_)
  rw [hw3] at hH
  refine hl_aload_n hx hb dX7_copyFrom_16 rfl (lv_at hl 0 rfl) ?_
  refine hl_aload_n hx hb dX7_copyFrom_17 rfl (lv_at hl 1 rfl) ?_
  refine g7_2 hx hb hts hown hKs hH ha1.1 ha1.2 m2_69 dX7_copyFrom_18 ?_
  obtain ⟨w4, hw4, hf⟩ := bnd hf
  replace hw4 := Option.some.inj hw4
  refine p7_2 (v := (wI w3 702 a1)) hx hb hts hown hKs hH rfl ho m2_69 dX7_copyFrom_21 (fun H locs hH => ?_)
  rw [hw4] at hH
  refine hl_aload_n hx hb dX7_copyFrom_24 rfl (lv_at hl 0 rfl) ?_
  refine hl_aload_n hx hb dX7_copyFrom_25 rfl (lv_at hl 1 rfl) ?_
  refine g7_3 hx hb hts hown hKs hH ha1.1 ha1.2 m2_72 dX7_copyFrom_26 ?_
  obtain ⟨w5, hw5, hf⟩ := bnd hf
  replace hw5 := Option.some.inj hw5
  refine p7_3 (v := (wI w4 703 a1)) hx hb hts hown hKs hH rfl ho m2_72 dX7_copyFrom_29 (fun H locs hH => ?_)
  rw [hw5] at hH
  refine hl_aload_n hx hb dX7_copyFrom_32 rfl (lv_at hl 0 rfl) ?_
  refine hl_aload_n hx hb dX7_copyFrom_33 rfl (lv_at hl 1 rfl) ?_
  refine g7_4 hx hb hts hown hKs hH ha1.1 ha1.2 m2_75 dX7_copyFrom_34 ?_
  obtain ⟨w6, hw6, hf⟩ := bnd hf
  replace hw6 := Option.some.inj hw6
  refine p7_4 (v := (wI w5 704 a1)) hx hb hts hown hKs hH rfl ho m2_75 dX7_copyFrom_37 (fun H locs hH => ?_)
  rw [hw6] at hH
  refine hl_aload_n hx hb dX7_copyFrom_40 rfl (lv_at hl 0 rfl) ?_
  refine hl_aload_n hx hb dX7_copyFrom_41 rfl (lv_at hl 1 rfl) ?_
  refine g7_5 hx hb hts hown hKs hH ha1.1 ha1.2 m2_79 dX7_copyFrom_42 ?_
  obtain ⟨w7, hw7, hf⟩ := bnd hf
  replace hw7 := Option.some.inj hw7
  refine p7_5 (v := (wI w6 705 a1)) hx hb hts hown hKs hH rfl ho m2_79 dX7_copyFrom_45 (fun H locs hH => ?_)
  rw [hw7] at hH
  refine hl_aload_n hx hb dX7_copyFrom_48 rfl (lv_at hl 0 rfl) ?_
  refine hl_aload_n hx hb dX7_copyFrom_49 rfl (lv_at hl 1 rfl) ?_
  refine g7_6 hx hb hts hown hKs hH ha1.1 ha1.2 m2_83 dX7_copyFrom_50 ?_
  obtain ⟨w8, hw8, hf⟩ := bnd hf
  replace hw8 := Option.some.inj hw8
  refine p7_6 (v := (wI w7 706 a1)) hx hb hts hown hKs hH rfl ho m2_83 dX7_copyFrom_53 (fun H locs hH => ?_)
  rw [hw8] at hH
  refine hl_aload_n hx hb dX7_copyFrom_56 rfl (lv_at hl 1 rfl) ?_
  refine g7_7 hx hb hts hown hKs hH ha1.1 ha1.2 m2_86 dX7_copyFrom_57 ?_
  refine lv_iconst (v := 0) hx hb dX7_copyFrom_60 (by decide) ?_
  refine hl_aload_n hx hb dX7_copyFrom_61 rfl (lv_at hl 0 rfl) ?_
  refine g7_7 hx hb hts hown hKs hH rfl ho m2_86 dX7_copyFrom_62 ?_
  refine lv_iconst (v := 0) hx hb dX7_copyFrom_65 (by decide) ?_
  refine hl_aload_n hx hb dX7_copyFrom_66 rfl (lv_at hl 0 rfl) ?_
  refine g7_7 hx hb hts hown hKs hH rfl ho m2_86 dX7_copyFrom_67 ?_
  obtain ⟨a9, ha9, hf⟩ := bnd hf
  replace ha9 := cha_some ha9
  refine hw_alen20 hx hb hKs hH ha9.1 ha9.2 dX7_copyFrom_70 ?_
  obtain ⟨a10, ha10, hf⟩ := bnd hf
  replace ha10 := cha_some ha10
  obtain ⟨_, hg11, hf⟩ := bnd hf
  replace hg11 := grd_some hg11
  obtain ⟨w12, hw12, hf⟩ := bnd hf
  replace hw12 := Option.some.inj hw12
  refine hw_copy hx hb (hml.trans hl.1.symm) hown (hts _ m3_139) (va_Nw.use rfl hKs.2.2.2.2.1) (hts _ m3_132) (hts _ m1_21) hKs hH ha10.1 ha10.2 ha9.1 ha9.2 hg11.1 hg11.2.1 hg11.2.2.1 hg11.2.2.2.1 hg11.2.2.2.2 (Nat.le_of_ble_eq_true rfl) (by decide) dX7_copyFrom_71 (fun H locs hH => ?_)
  rw [hw12] at hH
  exact hw_vret hx hb hret hf hH hlocks dX7_copyFrom_74

theorem dX7_isOn_0 : decode cX7_isOn 0 = .ok (.aload_n 0, 1) := by decide +kernel
theorem dX7_isOn_1 : decode cX7_isOn 1 = .ok (.getfield 25, 3) := by decide +kernel
theorem dX7_isOn_4 : decode cX7_isOn 4 = .ok (.iconst 1, 1) := by decide +kernel
theorem dX7_isOn_5 : decode cX7_isOn 5 = .ok (.if_icmp .eq 11, 3) := by decide +kernel
theorem dX7_isOn_8 : decode cX7_isOn 8 = .ok (.aload_n 0, 1) := by decide +kernel
theorem dX7_isOn_9 : decode cX7_isOn 9 = .ok (.getfield 25, 3) := by decide +kernel
theorem dX7_isOn_12 : decode cX7_isOn 12 = .ok (.iconst 2, 1) := by decide +kernel
theorem dX7_isOn_13 : decode cX7_isOn 13 = .ok (.if_icmp .ne 15, 3) := by decide +kernel
theorem dX7_isOn_16 : decode cX7_isOn 16 = .ok (.aload_n 0, 1) := by decide +kernel
theorem dX7_isOn_17 : decode cX7_isOn 17 = .ok (.getfield 28, 3) := by decide +kernel
theorem dX7_isOn_20 : decode cX7_isOn 20 = .ok (.iload_n 1, 1) := by decide +kernel
theorem dX7_isOn_21 : decode cX7_isOn 21 = .ok (.if_icmp .ne 7, 3) := by decide +kernel
theorem dX7_isOn_24 : decode cX7_isOn 24 = .ok (.iconst 1, 1) := by decide +kernel
theorem dX7_isOn_25 : decode cX7_isOn 25 = .ok (.goto 4, 3) := by decide +kernel
theorem dX7_isOn_28 : decode cX7_isOn 28 = .ok (.iconst 0, 1) := by decide +kernel
theorem dX7_isOn_29 : decode cX7_isOn 29 = .ok (.ireturn, 1) := by decide +kernel
theorem hd_X7_isOn : yX7_isOn.cls = RX7 ∧ yX7_isOn.cls ≠ "java/lang/invoke/MethodHandle" ∧ yX7_isOn.cls ≠ "java/lang/invoke/VarHandle" ∧ (parseMethodDescriptor yX7_isOn.desc).map (fun d => d.parameters.length) = some 1 := by decide +kernel
theorem hs_X7_isOn : yX7_isOn.cls ≠ "java/lang/invoke/MethodHandle" ∧ yX7_isOn.cls ≠ "java/lang/invoke/VarHandle" ∧ (parseMethodDescriptor yX7_isOn.desc).map (fun d => d.parameters.length) = some 1 := by decide +kernel
set_option maxHeartbeats 4000000 in
set_option maxRecDepth 100000 in
theorem k_X7_isOn (l : Launch) (E : Ev) (K : Kd) (z : Nat) (o : Nat) (a_1 : Int32) (w : Wd) (ho : K o = some (6, 0)) {r : Bool} {w' : Wd} (hf : f_X7_isOn K o a_1 w = some (r, w')) : Met l yX7_isOn (Cond.code yX7_isOn cX7_isOn 2 (Option.some Jvm.ClassFile.FieldType.boolean) :: bt) ({ frames := 0, cells := 0, slots := 0, locals := 0 } : Room) (va_Pc [rv E (some o), .int a_1] (HB E K w z)) (QI E K z w' (b2i r)) 0 0 (hA E) := by
  refine Met.ofW (cc := cX7_isOn) (maxL := 2) (ret := (Option.some Jvm.ClassFile.FieldType.boolean)) (by decide) rfl ?_
  intro p e s m args below meth c s₁ B hml hv
  obtain ⟨rfl, hz, hP, hKs, hT, hb0⟩ := hv
  have C : CX p l e s m _ meth c cX7_isOn 2 RX7 (Option.some Jvm.ClassFile.FieldType.boolean) E := ⟨B.exec, B.bytes, hml, findClass_of_methodNamed B.named, fun w h => atoms_spec (ws := Cond.code yX7_isOn cX7_isOn 2 (Option.some Jvm.ClassFile.FieldType.boolean) :: bt) B.pre w (List.mem_cons_of_mem _ h), hKs, hT, by rw [hz]; exact hb0, B.notSynchronized, B.returns⟩
  have hH : HQ E K z w s s.heap [] := ⟨hP, va_S.rf, hz⟩
  obtain ⟨hx, hb, hml, hown, hts, hKs, hT, hb0, hlocks, hret⟩ := id C
  have hl := lv_entry [rv E (some o), .int a_1] (n := 2) (by simp [lg_len_nil, lg_len_i, lg_len_j, lg_len_q, lg_len_f, lg_len_d, lg_len_r])
  rw [lg_entry_eq]
  generalize (lg_sl [rv E (some o), .int a_1] ++ List.replicate (2 - (lg_sl [rv E (some o), .int a_1]).length) Slot.unset).toArray = ls at hl ⊢
  replace hl : lv_has ls 2 [(0, rv E (some o)), (1, .int a_1)] := by simpa only [lv_args, cat_q, cat_i, cat_j, reduceIte, Nat.reduceEqDiff, Nat.reduceAdd, Nat.zero_add] using hl
  generalize s.heap = H at hH ⊢
  unfold f_X7_isOn at hf
  refine hl_aload_n hx hb dX7_isOn_0 rfl (lv_at hl 0 rfl) ?_
  refine g7_0 hx hb hts hown hKs hH rfl ho m2_63 dX7_isOn_1 ?_
  refine lv_iconst (v := 1) hx hb dX7_isOn_4 (by decide) ?_
  refine lv_icmp_eq (tgt := 16) hx hb dX7_isOn_5 (by decide) (fun c1 => ?_) (fun c1 => ?_)
  · replace hf := (if_pos c1).symm.trans hf
    refine hl_aload_n hx hb dX7_isOn_16 rfl (lv_at hl 0 rfl) ?_
    refine g7_2 hx hb hts hown hKs hH rfl ho m2_69 dX7_isOn_17 ?_
    refine lv_iload_n hx hb dX7_isOn_20 rfl (lv_at hl 1 rfl) ?_
    refine lv_icmp_ne (tgt := 28) hx hb dX7_isOn_21 (by decide) (fun c2 => ?_) (fun c2 => ?_)
    · replace hf := (if_neg c2).symm.trans hf
      refine lv_iconst (v := 0) hx hb dX7_isOn_28 (by decide) ?_
      exact hw_zret hx hb hret rfl hf hH hlocks dX7_isOn_29
    · replace hf := (if_pos c2).symm.trans hf
      refine lv_iconst (v := 1) hx hb dX7_isOn_24 (by decide) ?_
      refine lv_goto (tgt := 29) hx hb dX7_isOn_25 (by decide) ?_
      exact hw_zret hx hb hret rfl hf hH hlocks dX7_isOn_29
  · replace hf := (if_neg c1).symm.trans hf
    refine hl_aload_n hx hb dX7_isOn_8 rfl (lv_at hl 0 rfl) ?_
    refine g7_0 hx hb hts hown hKs hH rfl ho m2_63 dX7_isOn_9 ?_
    refine lv_iconst (v := 2) hx hb dX7_isOn_12 (by decide) ?_
    refine lv_icmp_ne (tgt := 28) hx hb dX7_isOn_13 (by decide) (fun c3 => ?_) (fun c3 => ?_)
    · replace hf := (if_neg c3).symm.trans hf
      refine lv_iconst (v := 0) hx hb dX7_isOn_28 (by decide) ?_
      exact hw_zret hx hb hret rfl hf hH hlocks dX7_isOn_29
    · replace hf := (if_pos c3).symm.trans hf
      refine hl_aload_n hx hb dX7_isOn_16 rfl (lv_at hl 0 rfl) ?_
      refine g7_2 hx hb hts hown hKs hH rfl ho m2_69 dX7_isOn_17 ?_
      refine lv_iload_n hx hb dX7_isOn_20 rfl (lv_at hl 1 rfl) ?_
      refine lv_icmp_ne (tgt := 28) hx hb dX7_isOn_21 (by decide) (fun c4 => ?_) (fun c4 => ?_)
      · replace hf := (if_neg c4).symm.trans hf
        refine lv_iconst (v := 0) hx hb dX7_isOn_28 (by decide) ?_
        exact hw_zret hx hb hret rfl hf hH hlocks dX7_isOn_29
      · replace hf := (if_pos c4).symm.trans hf
        refine lv_iconst (v := 1) hx hb dX7_isOn_24 (by decide) ?_
        refine lv_goto (tgt := 29) hx hb dX7_isOn_25 (by decide) ?_
        exact hw_zret hx hb hret rfl hf hH hlocks dX7_isOn_29

theorem dX7_setHearing_0 : decode cX7_setHearing 0 = .ok (.aload_n 0, 1) := by decide +kernel
theorem dX7_setHearing_1 : decode cX7_setHearing 1 = .ok (.iconst 1, 1) := by decide +kernel
theorem dX7_setHearing_2 : decode cX7_setHearing 2 = .ok (.putfield 25, 3) := by decide +kernel
theorem dX7_setHearing_5 : decode cX7_setHearing 5 = .ok (.aload_n 0, 1) := by decide +kernel
theorem dX7_setHearing_6 : decode cX7_setHearing 6 = .ok (.iload_n 1, 1) := by decide +kernel
theorem dX7_setHearing_7 : decode cX7_setHearing 7 = .ok (.putfield 28, 3) := by decide +kernel
theorem dX7_setHearing_10 : decode cX7_setHearing 10 = .ok (.aload_n 0, 1) := by decide +kernel
theorem dX7_setHearing_11 : decode cX7_setHearing 11 = .ok (.iload_n 2, 1) := by decide +kernel
theorem dX7_setHearing_12 : decode cX7_setHearing 12 = .ok (.putfield 31, 3) := by decide +kernel
theorem dX7_setHearing_15 : decode cX7_setHearing 15 = .ok (.aload_n 0, 1) := by decide +kernel
theorem dX7_setHearing_16 : decode cX7_setHearing 16 = .ok (.iload_n 3, 1) := by decide +kernel
theorem dX7_setHearing_17 : decode cX7_setHearing 17 = .ok (.putfield 34, 3) := by decide +kernel
theorem dX7_setHearing_20 : decode cX7_setHearing 20 = .ok (.aload_n 0, 1) := by decide +kernel
theorem dX7_setHearing_21 : decode cX7_setHearing 21 = .ok (.iload 4, 2) := by decide +kernel
theorem dX7_setHearing_23 : decode cX7_setHearing 23 = .ok (.putfield 37, 3) := by decide +kernel
theorem dX7_setHearing_26 : decode cX7_setHearing 26 = .ok (.return_, 1) := by decide +kernel
theorem hd_X7_setHearing : yX7_setHearing.cls = RX7 ∧ yX7_setHearing.cls ≠ "java/lang/invoke/MethodHandle" ∧ yX7_setHearing.cls ≠ "java/lang/invoke/VarHandle" ∧ (parseMethodDescriptor yX7_setHearing.desc).map (fun d => d.parameters.length) = some 4 := by decide +kernel
theorem hs_X7_setHearing : yX7_setHearing.cls ≠ "java/lang/invoke/MethodHandle" ∧ yX7_setHearing.cls ≠ "java/lang/invoke/VarHandle" ∧ (parseMethodDescriptor yX7_setHearing.desc).map (fun d => d.parameters.length) = some 4 := by decide +kernel
set_option maxHeartbeats 4000000 in
set_option maxRecDepth 100000 in
theorem k_X7_setHearing (l : Launch) (E : Ev) (K : Kd) (z : Nat) (o : Nat) (a_1 : Int32) (a_2 : Int32) (a_3 : Int32) (a_4 : Int32) (w : Wd) (ho : K o = some (6, 0)) {w' : Wd} (hf : f_X7_setHearing K o a_1 a_2 a_3 a_4 w = some w') : Met l yX7_setHearing (Cond.code yX7_setHearing cX7_setHearing 5 (Option.none : Option Jvm.ClassFile.FieldType) :: bt) ({ frames := 0, cells := 0, slots := 0, locals := 0 } : Room) (va_Pc [rv E (some o), .int a_1, .int a_2, .int a_3, .int a_4] (HB E K w z)) (QV E K z w') 0 0 (hA E) := by
  refine Met.ofW (cc := cX7_setHearing) (maxL := 5) (ret := (Option.none : Option Jvm.ClassFile.FieldType)) (by decide) rfl ?_
  intro p e s m args below meth c s₁ B hml hv
  obtain ⟨rfl, hz, hP, hKs, hT, hb0⟩ := hv
  have C : CX p l e s m _ meth c cX7_setHearing 5 RX7 (Option.none : Option Jvm.ClassFile.FieldType) E := ⟨B.exec, B.bytes, hml, findClass_of_methodNamed B.named, fun w h => atoms_spec (ws := Cond.code yX7_setHearing cX7_setHearing 5 (Option.none : Option Jvm.ClassFile.FieldType) :: bt) B.pre w (List.mem_cons_of_mem _ h), hKs, hT, by rw [hz]; exact hb0, B.notSynchronized, B.returns⟩
  have hH : HQ E K z w s s.heap [] := ⟨hP, va_S.rf, hz⟩
  obtain ⟨hx, hb, hml, hown, hts, hKs, hT, hb0, hlocks, hret⟩ := id C
  have hl := lv_entry [rv E (some o), .int a_1, .int a_2, .int a_3, .int a_4] (n := 5) (by simp [lg_len_nil, lg_len_i, lg_len_j, lg_len_q, lg_len_f, lg_len_d, lg_len_r])
  rw [lg_entry_eq]
  generalize (lg_sl [rv E (some o), .int a_1, .int a_2, .int a_3, .int a_4] ++ List.replicate (5 - (lg_sl [rv E (some o), .int a_1, .int a_2, .int a_3, .int a_4]).length) Slot.unset).toArray = ls at hl ⊢
  replace hl : lv_has ls 5 [(0, rv E (some o)), (1, .int a_1), (2, .int a_2), (3, .int a_3), (4, .int a_4)] := by simpa only [lv_args, cat_q, cat_i, cat_j, reduceIte, Nat.reduceEqDiff, Nat.reduceAdd, Nat.zero_add] using hl
  generalize s.heap = H at hH ⊢
  unfold f_X7_setHearing at hf
  refine hl_aload_n hx hb dX7_setHearing_0 rfl (lv_at hl 0 rfl) ?_
  refine lv_iconst (v := 1) hx hb dX7_setHearing_1 (by decide) ?_
  obtain ⟨w1, hw1, hf⟩ := bnd hf
  replace hw1 := Option.some.inj hw1
  refine p7_0 (v := 1) hx hb hts hown hKs hH rfl ho m2_63 dX7_setHearing_2 (fun H locs hH => ?_)
  rw [hw1] at hH
  refine hl_aload_n hx hb dX7_setHearing_5 rfl (lv_at hl 0 rfl) ?_
  refine lv_iload_n hx hb dX7_setHearing_6 rfl (lv_at hl 1 rfl) ?_
  obtain ⟨w2, hw2, hf⟩ := bnd hf
  replace hw2 := Option.some.inj hw2
  refine p7_2 (v := a_1) hx hb hts hown hKs hH rfl ho m2_69 dX7_setHearing_7 (fun H locs hH => ?_)
  rw [hw2] at hH
  refine hl_aload_n hx hb dX7_setHearing_10 rfl (lv_at hl 0 rfl) ?_
  refine lv_iload_n hx hb dX7_setHearing_11 rfl (lv_at hl 2 rfl) ?_
  obtain ⟨w3, hw3, hf⟩ := bnd hf
  replace hw3 := Option.some.inj hw3
  refine p7_3 (v := a_2) hx hb hts hown hKs hH rfl ho m2_72 dX7_setHearing_12 (fun H locs hH => ?_)
  rw [hw3] at hH
  refine hl_aload_n hx hb dX7_setHearing_15 rfl (lv_at hl 0 rfl) ?_
  refine lv_iload_n hx hb dX7_setHearing_16 rfl (lv_at hl 3 rfl) ?_
  obtain ⟨w4, hw4, hf⟩ := bnd hf
  replace hw4 := Option.some.inj hw4
  refine p7_4 (v := a_3) hx hb hts hown hKs hH rfl ho m2_75 dX7_setHearing_17 (fun H locs hH => ?_)
  rw [hw4] at hH
  refine hl_aload_n hx hb dX7_setHearing_20 rfl (lv_at hl 0 rfl) ?_
  refine lv_iload hx hb dX7_setHearing_21 (lv_at hl 4 rfl) ?_
  obtain ⟨w5, hw5, hf⟩ := bnd hf
  replace hw5 := Option.some.inj hw5
  refine p7_5 (v := a_4) hx hb hts hown hKs hH rfl ho m2_79 dX7_setHearing_23 (fun H locs hH => ?_)
  rw [hw5] at hH
  exact hw_vret hx hb hret hf hH hlocks dX7_setHearing_26

theorem dX7_dropHearing_0 : decode cX7_dropHearing 0 = .ok (.aload_n 0, 1) := by decide +kernel
theorem dX7_dropHearing_1 : decode cX7_dropHearing 1 = .ok (.iconst 0, 1) := by decide +kernel
theorem dX7_dropHearing_2 : decode cX7_dropHearing 2 = .ok (.putfield 25, 3) := by decide +kernel
theorem dX7_dropHearing_5 : decode cX7_dropHearing 5 = .ok (.aload_n 0, 1) := by decide +kernel
theorem dX7_dropHearing_6 : decode cX7_dropHearing 6 = .ok (.iconst (-1), 1) := by decide +kernel
theorem dX7_dropHearing_7 : decode cX7_dropHearing 7 = .ok (.putfield 28, 3) := by decide +kernel
theorem dX7_dropHearing_10 : decode cX7_dropHearing 10 = .ok (.aload_n 0, 1) := by decide +kernel
theorem dX7_dropHearing_11 : decode cX7_dropHearing 11 = .ok (.iconst (-1), 1) := by decide +kernel
theorem dX7_dropHearing_12 : decode cX7_dropHearing 12 = .ok (.putfield 31, 3) := by decide +kernel
theorem dX7_dropHearing_15 : decode cX7_dropHearing 15 = .ok (.aload_n 0, 1) := by decide +kernel
theorem dX7_dropHearing_16 : decode cX7_dropHearing 16 = .ok (.iconst (-1), 1) := by decide +kernel
theorem dX7_dropHearing_17 : decode cX7_dropHearing 17 = .ok (.putfield 34, 3) := by decide +kernel
theorem dX7_dropHearing_20 : decode cX7_dropHearing 20 = .ok (.aload_n 0, 1) := by decide +kernel
theorem dX7_dropHearing_21 : decode cX7_dropHearing 21 = .ok (.iconst (-1), 1) := by decide +kernel
theorem dX7_dropHearing_22 : decode cX7_dropHearing 22 = .ok (.putfield 37, 3) := by decide +kernel
theorem dX7_dropHearing_25 : decode cX7_dropHearing 25 = .ok (.return_, 1) := by decide +kernel
theorem hd_X7_dropHearing : yX7_dropHearing.cls = RX7 ∧ yX7_dropHearing.cls ≠ "java/lang/invoke/MethodHandle" ∧ yX7_dropHearing.cls ≠ "java/lang/invoke/VarHandle" ∧ (parseMethodDescriptor yX7_dropHearing.desc).map (fun d => d.parameters.length) = some 0 := by decide +kernel
theorem hs_X7_dropHearing : yX7_dropHearing.cls ≠ "java/lang/invoke/MethodHandle" ∧ yX7_dropHearing.cls ≠ "java/lang/invoke/VarHandle" ∧ (parseMethodDescriptor yX7_dropHearing.desc).map (fun d => d.parameters.length) = some 0 := by decide +kernel
set_option maxHeartbeats 4000000 in
set_option maxRecDepth 100000 in
theorem k_X7_dropHearing (l : Launch) (E : Ev) (K : Kd) (z : Nat) (o : Nat) (w : Wd) (ho : K o = some (6, 0)) {w' : Wd} (hf : f_X7_dropHearing K o w = some w') : Met l yX7_dropHearing (Cond.code yX7_dropHearing cX7_dropHearing 1 (Option.none : Option Jvm.ClassFile.FieldType) :: bt) ({ frames := 0, cells := 0, slots := 0, locals := 0 } : Room) (va_Pc [rv E (some o)] (HB E K w z)) (QV E K z w') 0 0 (hA E) := by
  refine Met.ofW (cc := cX7_dropHearing) (maxL := 1) (ret := (Option.none : Option Jvm.ClassFile.FieldType)) (by decide) rfl ?_
  intro p e s m args below meth c s₁ B hml hv
  obtain ⟨rfl, hz, hP, hKs, hT, hb0⟩ := hv
  have C : CX p l e s m _ meth c cX7_dropHearing 1 RX7 (Option.none : Option Jvm.ClassFile.FieldType) E := ⟨B.exec, B.bytes, hml, findClass_of_methodNamed B.named, fun w h => atoms_spec (ws := Cond.code yX7_dropHearing cX7_dropHearing 1 (Option.none : Option Jvm.ClassFile.FieldType) :: bt) B.pre w (List.mem_cons_of_mem _ h), hKs, hT, by rw [hz]; exact hb0, B.notSynchronized, B.returns⟩
  have hH : HQ E K z w s s.heap [] := ⟨hP, va_S.rf, hz⟩
  obtain ⟨hx, hb, hml, hown, hts, hKs, hT, hb0, hlocks, hret⟩ := id C
  have hl := lv_entry [rv E (some o)] (n := 1) (by simp [lg_len_nil, lg_len_i, lg_len_j, lg_len_q, lg_len_f, lg_len_d, lg_len_r])
  rw [lg_entry_eq]
  generalize (lg_sl [rv E (some o)] ++ List.replicate (1 - (lg_sl [rv E (some o)]).length) Slot.unset).toArray = ls at hl ⊢
  replace hl : lv_has ls 1 [(0, rv E (some o))] := by simpa only [lv_args, cat_q, cat_i, cat_j, reduceIte, Nat.reduceEqDiff, Nat.reduceAdd, Nat.zero_add] using hl
  generalize s.heap = H at hH ⊢
  unfold f_X7_dropHearing at hf
  refine hl_aload_n hx hb dX7_dropHearing_0 rfl (lv_at hl 0 rfl) ?_
  refine lv_iconst (v := 0) hx hb dX7_dropHearing_1 (by decide) ?_
  obtain ⟨w1, hw1, hf⟩ := bnd hf
  replace hw1 := Option.some.inj hw1
  refine p7_0 (v := 0) hx hb hts hown hKs hH rfl ho m2_63 dX7_dropHearing_2 (fun H locs hH => ?_)
  rw [hw1] at hH
  refine hl_aload_n hx hb dX7_dropHearing_5 rfl (lv_at hl 0 rfl) ?_
  refine lv_iconst (v := (-1)) hx hb dX7_dropHearing_6 (by decide) ?_
  obtain ⟨w2, hw2, hf⟩ := bnd hf
  replace hw2 := Option.some.inj hw2
  refine p7_2 (v := (-1)) hx hb hts hown hKs hH rfl ho m2_69 dX7_dropHearing_7 (fun H locs hH => ?_)
  rw [hw2] at hH
  refine hl_aload_n hx hb dX7_dropHearing_10 rfl (lv_at hl 0 rfl) ?_
  refine lv_iconst (v := (-1)) hx hb dX7_dropHearing_11 (by decide) ?_
  obtain ⟨w3, hw3, hf⟩ := bnd hf
  replace hw3 := Option.some.inj hw3
  refine p7_3 (v := (-1)) hx hb hts hown hKs hH rfl ho m2_72 dX7_dropHearing_12 (fun H locs hH => ?_)
  rw [hw3] at hH
  refine hl_aload_n hx hb dX7_dropHearing_15 rfl (lv_at hl 0 rfl) ?_
  refine lv_iconst (v := (-1)) hx hb dX7_dropHearing_16 (by decide) ?_
  obtain ⟨w4, hw4, hf⟩ := bnd hf
  replace hw4 := Option.some.inj hw4
  refine p7_4 (v := (-1)) hx hb hts hown hKs hH rfl ho m2_75 dX7_dropHearing_17 (fun H locs hH => ?_)
  rw [hw4] at hH
  refine hl_aload_n hx hb dX7_dropHearing_20 rfl (lv_at hl 0 rfl) ?_
  refine lv_iconst (v := (-1)) hx hb dX7_dropHearing_21 (by decide) ?_
  obtain ⟨w5, hw5, hf⟩ := bnd hf
  replace hw5 := Option.some.inj hw5
  refine p7_5 (v := (-1)) hx hb hts hown hKs hH rfl ho m2_79 dX7_dropHearing_22 (fun H locs hH => ?_)
  rw [hw5] at hH
  exact hw_vret hx hb hret hf hH hlocks dX7_dropHearing_25

theorem dX7_note_0 : decode cX7_note 0 = .ok (.aload_n 0, 1) := by decide +kernel
theorem dX7_note_1 : decode cX7_note 1 = .ok (.getfield 19, 3) := by decide +kernel
theorem dX7_note_4 : decode cX7_note 4 = .ok (.iconst 5, 1) := by decide +kernel
theorem dX7_note_5 : decode cX7_note 5 = .ok (.if_icmp .ge 62, 3) := by decide +kernel
theorem dX7_note_8 : decode cX7_note 8 = .ok (.aload_n 0, 1) := by decide +kernel
theorem dX7_note_9 : decode cX7_note 9 = .ok (.getfield 19, 3) := by decide +kernel
theorem dX7_note_12 : decode cX7_note 12 = .ok (.iconst 4, 1) := by decide +kernel
theorem dX7_note_13 : decode cX7_note 13 = .ok (.imul, 1) := by decide +kernel
theorem dX7_note_14 : decode cX7_note 14 = .ok (.istore 4, 2) := by decide +kernel
theorem dX7_note_16 : decode cX7_note 16 = .ok (.aload_n 0, 1) := by decide +kernel
theorem dX7_note_17 : decode cX7_note 17 = .ok (.getfield 9, 3) := by decide +kernel
theorem dX7_note_20 : decode cX7_note 20 = .ok (.iload 4, 2) := by decide +kernel
theorem dX7_note_22 : decode cX7_note 22 = .ok (.iload_n 1, 1) := by decide +kernel
theorem dX7_note_23 : decode cX7_note 23 = .ok (.iastore, 1) := by decide +kernel
theorem dX7_note_24 : decode cX7_note 24 = .ok (.aload_n 0, 1) := by decide +kernel
theorem dX7_note_25 : decode cX7_note 25 = .ok (.getfield 9, 3) := by decide +kernel
theorem dX7_note_28 : decode cX7_note 28 = .ok (.iload 4, 2) := by decide +kernel
theorem dX7_note_30 : decode cX7_note 30 = .ok (.iconst 1, 1) := by decide +kernel
theorem dX7_note_31 : decode cX7_note 31 = .ok (.iadd, 1) := by decide +kernel
theorem dX7_note_32 : decode cX7_note 32 = .ok (.iload_n 2, 1) := by decide +kernel
theorem dX7_note_33 : decode cX7_note 33 = .ok (.iastore, 1) := by decide +kernel
theorem dX7_note_34 : decode cX7_note 34 = .ok (.aload_n 0, 1) := by decide +kernel
theorem dX7_note_35 : decode cX7_note 35 = .ok (.getfield 9, 3) := by decide +kernel
theorem dX7_note_38 : decode cX7_note 38 = .ok (.iload 4, 2) := by decide +kernel
theorem dX7_note_40 : decode cX7_note 40 = .ok (.iconst 2, 1) := by decide +kernel
theorem dX7_note_41 : decode cX7_note 41 = .ok (.iadd, 1) := by decide +kernel
theorem dX7_note_42 : decode cX7_note 42 = .ok (.aload_n 0, 1) := by decide +kernel
theorem dX7_note_43 : decode cX7_note 43 = .ok (.getfield 28, 3) := by decide +kernel
theorem dX7_note_46 : decode cX7_note 46 = .ok (.iastore, 1) := by decide +kernel
theorem dX7_note_47 : decode cX7_note 47 = .ok (.aload_n 0, 1) := by decide +kernel
theorem dX7_note_48 : decode cX7_note 48 = .ok (.getfield 9, 3) := by decide +kernel
theorem dX7_note_51 : decode cX7_note 51 = .ok (.iload 4, 2) := by decide +kernel
theorem dX7_note_53 : decode cX7_note 53 = .ok (.iconst 3, 1) := by decide +kernel
theorem dX7_note_54 : decode cX7_note 54 = .ok (.iadd, 1) := by decide +kernel
theorem dX7_note_55 : decode cX7_note 55 = .ok (.iload_n 3, 1) := by decide +kernel
theorem dX7_note_56 : decode cX7_note 56 = .ok (.iastore, 1) := by decide +kernel
theorem dX7_note_57 : decode cX7_note 57 = .ok (.aload_n 0, 1) := by decide +kernel
theorem dX7_note_58 : decode cX7_note 58 = .ok (.dup, 1) := by decide +kernel
theorem dX7_note_59 : decode cX7_note 59 = .ok (.getfield 19, 3) := by decide +kernel
theorem dX7_note_62 : decode cX7_note 62 = .ok (.iconst 1, 1) := by decide +kernel
theorem dX7_note_63 : decode cX7_note 63 = .ok (.iadd, 1) := by decide +kernel
theorem dX7_note_64 : decode cX7_note 64 = .ok (.putfield 19, 3) := by decide +kernel
theorem dX7_note_67 : decode cX7_note 67 = .ok (.return_, 1) := by decide +kernel
theorem hd_X7_note : yX7_note.cls = RX7 ∧ yX7_note.cls ≠ "java/lang/invoke/MethodHandle" ∧ yX7_note.cls ≠ "java/lang/invoke/VarHandle" ∧ (parseMethodDescriptor yX7_note.desc).map (fun d => d.parameters.length) = some 3 := by decide +kernel
theorem hs_X7_note : yX7_note.cls ≠ "java/lang/invoke/MethodHandle" ∧ yX7_note.cls ≠ "java/lang/invoke/VarHandle" ∧ (parseMethodDescriptor yX7_note.desc).map (fun d => d.parameters.length) = some 3 := by decide +kernel
set_option maxHeartbeats 4000000 in
set_option maxRecDepth 100000 in
theorem k_X7_note (l : Launch) (E : Ev) (K : Kd) (z : Nat) (o : Nat) (a_1 : Int32) (a_2 : Int32) (a_3 : Int32) (w : Wd) (ho : K o = some (6, 0)) {w' : Wd} (hf : f_X7_note K o a_1 a_2 a_3 w = some w') : Met l yX7_note (Cond.code yX7_note cX7_note 5 (Option.none : Option Jvm.ClassFile.FieldType) :: bt) ({ frames := 0, cells := 0, slots := 0, locals := 0 } : Room) (va_Pc [rv E (some o), .int a_1, .int a_2, .int a_3] (HB E K w z)) (QV E K z w') 0 0 (hA E) := by
  refine Met.ofW (cc := cX7_note) (maxL := 5) (ret := (Option.none : Option Jvm.ClassFile.FieldType)) (by decide) rfl ?_
  intro p e s m args below meth c s₁ B hml hv
  obtain ⟨rfl, hz, hP, hKs, hT, hb0⟩ := hv
  have C : CX p l e s m _ meth c cX7_note 5 RX7 (Option.none : Option Jvm.ClassFile.FieldType) E := ⟨B.exec, B.bytes, hml, findClass_of_methodNamed B.named, fun w h => atoms_spec (ws := Cond.code yX7_note cX7_note 5 (Option.none : Option Jvm.ClassFile.FieldType) :: bt) B.pre w (List.mem_cons_of_mem _ h), hKs, hT, by rw [hz]; exact hb0, B.notSynchronized, B.returns⟩
  have hH : HQ E K z w s s.heap [] := ⟨hP, va_S.rf, hz⟩
  obtain ⟨hx, hb, hml, hown, hts, hKs, hT, hb0, hlocks, hret⟩ := id C
  have hl := lv_entry [rv E (some o), .int a_1, .int a_2, .int a_3] (n := 5) (by simp [lg_len_nil, lg_len_i, lg_len_j, lg_len_q, lg_len_f, lg_len_d, lg_len_r])
  rw [lg_entry_eq]
  generalize (lg_sl [rv E (some o), .int a_1, .int a_2, .int a_3] ++ List.replicate (5 - (lg_sl [rv E (some o), .int a_1, .int a_2, .int a_3]).length) Slot.unset).toArray = ls at hl ⊢
  replace hl : lv_has ls 5 [(0, rv E (some o)), (1, .int a_1), (2, .int a_2), (3, .int a_3)] := by simpa only [lv_args, cat_q, cat_i, cat_j, reduceIte, Nat.reduceEqDiff, Nat.reduceAdd, Nat.zero_add] using hl
  generalize s.heap = H at hH ⊢
  unfold f_X7_note at hf
  refine hl_aload_n hx hb dX7_note_0 rfl (lv_at hl 0 rfl) ?_
  refine g7_6 hx hb hts hown hKs hH rfl ho m2_83 dX7_note_1 ?_
  refine lv_iconst (v := 5) hx hb dX7_note_4 (by decide) ?_
  refine lv_icmp_ge (tgt := 67) hx hb dX7_note_5 (by decide) (fun c1 => ?_) (fun c1 => ?_)
  · replace hf := (if_pos c1).symm.trans hf
    exact hw_vret hx hb hret hf hH hlocks dX7_note_67
  · replace hf := (if_neg c1).symm.trans hf
    refine hl_aload_n hx hb dX7_note_8 rfl (lv_at hl 0 rfl) ?_
    refine g7_6 hx hb hts hown hKs hH rfl ho m2_83 dX7_note_9 ?_
    refine lv_iconst (v := 4) hx hb dX7_note_12 (by decide) ?_
    refine lv_imul hx hb dX7_note_13 ?_
    refine lv_istore (i := 4) (lv' := [(4, .int (((wI w 706 o) * 4))), (0, rv E (some o)), (1, .int a_1), (2, .int a_2), (3, .int a_3)]) hx hb dX7_note_14 hl (by decide) rfl (fun ls hl => ?_)
    refine hl_aload_n hx hb dX7_note_16 rfl (lv_at hl 1 rfl) ?_
    refine g7_7 hx hb hts hown hKs hH rfl ho m2_86 dX7_note_17 ?_
    refine lv_iload hx hb dX7_note_20 (lv_at hl 0 rfl) ?_
    refine lv_iload_n hx hb dX7_note_22 rfl (lv_at hl 2 rfl) ?_
    obtain ⟨a2, ha2, hf⟩ := bnd hf
    replace ha2 := cha_some ha2
    obtain ⟨j3, hj3, hf⟩ := bnd hf
    obtain ⟨w4, hw4, hf⟩ := bnd hf
    replace hw4 := Option.some.inj hw4
    refine hw_iast (x := a_1) hx hb hKs hH ha2.1 ha2.2 hj3 dX7_note_23 (fun H locs hH => ?_)
    rw [hw4] at hH
    refine hl_aload_n hx hb dX7_note_24 rfl (lv_at hl 1 rfl) ?_
    refine g7_7 hx hb hts hown hKs hH rfl ho m2_86 dX7_note_25 ?_
    refine lv_iload hx hb dX7_note_28 (lv_at hl 0 rfl) ?_
    refine lv_iconst (v := 1) hx hb dX7_note_30 (by decide) ?_
    refine lv_iadd hx hb dX7_note_31 ?_
    refine lv_iload_n hx hb dX7_note_32 rfl (lv_at hl 3 rfl) ?_
    obtain ⟨a5, ha5, hf⟩ := bnd hf
    replace ha5 := cha_some ha5
    obtain ⟨j6, hj6, hf⟩ := bnd hf
    obtain ⟨w7, hw7, hf⟩ := bnd hf
    replace hw7 := Option.some.inj hw7
    refine hw_iast (x := a_2) hx hb hKs hH ha5.1 ha5.2 hj6 dX7_note_33 (fun H locs hH => ?_)
    rw [hw7] at hH
    refine hl_aload_n hx hb dX7_note_34 rfl (lv_at hl 1 rfl) ?_
    refine g7_7 hx hb hts hown hKs hH rfl ho m2_86 dX7_note_35 ?_
    refine lv_iload hx hb dX7_note_38 (lv_at hl 0 rfl) ?_
    refine lv_iconst (v := 2) hx hb dX7_note_40 (by decide) ?_
    refine lv_iadd hx hb dX7_note_41 ?_
    refine hl_aload_n hx hb dX7_note_42 rfl (lv_at hl 1 rfl) ?_
    refine g7_2 hx hb hts hown hKs hH rfl ho m2_69 dX7_note_43 ?_
    obtain ⟨a8, ha8, hf⟩ := bnd hf
    replace ha8 := cha_some ha8
    obtain ⟨j9, hj9, hf⟩ := bnd hf
    obtain ⟨w10, hw10, hf⟩ := bnd hf
    replace hw10 := Option.some.inj hw10
    refine hw_iast (x := (wI w7 702 o)) hx hb hKs hH ha8.1 ha8.2 hj9 dX7_note_46 (fun H locs hH => ?_)
    rw [hw10] at hH
    refine hl_aload_n hx hb dX7_note_47 rfl (lv_at hl 1 rfl) ?_
    refine g7_7 hx hb hts hown hKs hH rfl ho m2_86 dX7_note_48 ?_
    refine lv_iload hx hb dX7_note_51 (lv_at hl 0 rfl) ?_
    refine lv_iconst (v := 3) hx hb dX7_note_53 (by decide) ?_
    refine lv_iadd hx hb dX7_note_54 ?_
    refine lv_iload_n hx hb dX7_note_55 rfl (lv_at hl 4 rfl) ?_
    obtain ⟨a11, ha11, hf⟩ := bnd hf
    replace ha11 := cha_some ha11
    obtain ⟨j12, hj12, hf⟩ := bnd hf
    obtain ⟨w13, hw13, hf⟩ := bnd hf
    replace hw13 := Option.some.inj hw13
    refine hw_iast (x := a_3) hx hb hKs hH ha11.1 ha11.2 hj12 dX7_note_56 (fun H locs hH => ?_)
    rw [hw13] at hH
    refine hl_aload_n hx hb dX7_note_57 rfl (lv_at hl 1 rfl) ?_
    refine lv_dup hx hb dX7_note_58 rv_cat ?_
    refine g7_6 hx hb hts hown hKs hH rfl ho m2_83 dX7_note_59 ?_
    refine lv_iconst (v := 1) hx hb dX7_note_62 (by decide) ?_
    refine lv_iadd hx hb dX7_note_63 ?_
    obtain ⟨w14, hw14, hf⟩ := bnd hf
    replace hw14 := Option.some.inj hw14
    refine p7_6 (v := ((wI w13 706 o) + 1)) hx hb hts hown hKs hH rfl ho m2_83 dX7_note_64 (fun H locs hH => ?_)
    rw [hw14] at hH
    exact hw_vret hx hb hret hf hH hlocks dX7_note_67
end
