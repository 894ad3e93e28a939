section
variable {p : Program} {l : Launch} {e : Env} {s : State} {m : MethodId} {args : Array Value} {below : List Frame} {meth : Method} {c : Code} {E : Ev} {K : Kd} {z : Nat}

theorem dX13_here_0 : decode cX13_here 0 = .ok (.iload_n 1, 1) := by decide +kernel
theorem dX13_here_1 : decode cX13_here 1 = .ok (.aload_n 0, 1) := by decide +kernel
theorem dX13_here_2 : decode cX13_here 2 = .ok (.getfield 334, 3) := by decide +kernel
theorem dX13_here_5 : decode cX13_here 5 = .ok (.if_icmp .ge 16, 3) := by decide +kernel
theorem dX13_here_8 : decode cX13_here 8 = .ok (.aload_n 0, 1) := by decide +kernel
theorem dX13_here_9 : decode cX13_here 9 = .ok (.getfield 61, 3) := by decide +kernel
theorem dX13_here_12 : decode cX13_here 12 = .ok (.iload_n 1, 1) := by decide +kernel
theorem dX13_here_13 : decode cX13_here 13 = .ok (.baload, 1) := by decide +kernel
theorem dX13_here_14 : decode cX13_here 14 = .ok (.sipush 255, 3) := by decide +kernel
theorem dX13_here_17 : decode cX13_here 17 = .ok (.iand, 1) := by decide +kernel
theorem dX13_here_18 : decode cX13_here 18 = .ok (.goto 4, 3) := by decide +kernel
theorem dX13_here_21 : decode cX13_here 21 = .ok (.iconst (-1), 1) := by decide +kernel
theorem dX13_here_22 : decode cX13_here 22 = .ok (.ireturn, 1) := by decide +kernel
theorem hd_X13_here : yX13_here.cls = RX13 ∧ yX13_here.cls ≠ "java/lang/invoke/MethodHandle" ∧ yX13_here.cls ≠ "java/lang/invoke/VarHandle" ∧ (parseMethodDescriptor yX13_here.desc).map (fun d => d.parameters.length) = some 1 := by decide +kernel
theorem hs_X13_here : yX13_here.cls ≠ "java/lang/invoke/MethodHandle" ∧ yX13_here.cls ≠ "java/lang/invoke/VarHandle" ∧ (parseMethodDescriptor yX13_here.desc).map (fun d => d.parameters.length) = some 1 := by decide +kernel
set_option maxHeartbeats 4000000 in
set_option maxRecDepth 100000 in
theorem k_X13_here (l : Launch) (E : Ev) (K : Kd) (z : Nat) (o : Nat) (a_1 : Int32) (w : Wd) (ho : K o = some (11, 0)) {r : Int32} {w' : Wd} (hf : f_X13_here K o a_1 w = some (r, w')) : Met l yX13_here (Cond.code yX13_here cX13_here 2 (Option.some Jvm.ClassFile.FieldType.int) :: bt) ({ frames := 0, cells := 0, slots := 0, locals := 0 } : Room) (va_Pc [rv E (some o), .int a_1] (HB E K w z)) (QI E K z w' r) 0 0 (hA E) := by
  refine Met.ofW (cc := cX13_here) (maxL := 2) (ret := (Option.some Jvm.ClassFile.FieldType.int)) (by decide) rfl ?_
  intro p e s m args below meth c s₁ B hml hv
  obtain ⟨rfl, hz, hP, hKs, hT, hb0⟩ := hv
  have C : CX p l e s m _ meth c cX13_here 2 RX13 (Option.some Jvm.ClassFile.FieldType.int) E := ⟨B.exec, B.bytes, hml, findClass_of_methodNamed B.named, fun w h => atoms_spec (ws := Cond.code yX13_here cX13_here 2 (Option.some Jvm.ClassFile.FieldType.int) :: bt) B.pre w (List.mem_cons_of_mem _ h), hKs, hT, by rw [hz]; exact hb0, B.notSynchronized, B.returns⟩
  have hH : HQ E K z w s s.heap [] := ⟨hP, va_S.rf, hz⟩
  obtain ⟨hx, hb, hml, hown, hts, hKs, hT, hb0, hlocks, hret⟩ := id C
  have hl := lv_entry [rv E (some o), .int a_1] (n := 2) (by simp [lg_len_nil, lg_len_i, lg_len_j, lg_len_q, lg_len_f, lg_len_d, lg_len_r])
  rw [lg_entry_eq]
  generalize (lg_sl [rv E (some o), .int a_1] ++ List.replicate (2 - (lg_sl [rv E (some o), .int a_1]).length) Slot.unset).toArray = ls at hl ⊢
  replace hl : lv_has ls 2 [(0, rv E (some o)), (1, .int a_1)] := by simpa only [lv_args, cat_q, cat_i, cat_j, reduceIte, Nat.reduceEqDiff, Nat.reduceAdd, Nat.zero_add] using hl
  generalize s.heap = H at hH ⊢
  unfold f_X13_here at hf
  refine lv_iload_n hx hb dX13_here_0 rfl (lv_at hl 1 rfl) ?_
  refine hl_aload_n hx hb dX13_here_1 rfl (lv_at hl 0 rfl) ?_
  refine g13_25 hx hb hts hown hKs hH rfl ho m6_206 dX13_here_2 ?_
  refine lv_icmp_ge (tgt := 21) hx hb dX13_here_5 (by decide) (fun c1 => ?_) (fun c1 => ?_)
  · replace hf := (if_pos c1).symm.trans hf
    refine lv_iconst (v := (-1)) hx hb dX13_here_21 (by decide) ?_
    exact hw_iret hx hb hret hf hH hlocks dX13_here_22
  · replace hf := (if_neg c1).symm.trans hf
    refine hl_aload_n hx hb dX13_here_8 rfl (lv_at hl 0 rfl) ?_
    refine g13_23 hx hb hts hown hKs hH rfl ho m6_204 dX13_here_9 ?_
    refine lv_iload_n hx hb dX13_here_12 rfl (lv_at hl 1 rfl) ?_
    obtain ⟨a2, ha2, hf⟩ := bnd hf
    replace ha2 := cha_some ha2
    obtain ⟨j3, hj3, hf⟩ := bnd hf
    refine hw_bald hx hb hKs hH ha2.1 ha2.2 hj3 dX13_here_13 ?_
    refine lv_sipush (v := 255) hx hb dX13_here_14 (by decide) ?_
    refine lv_iand hx hb dX13_here_17 ?_
    refine lv_goto (tgt := 22) hx hb dX13_here_18 (by decide) ?_
    exact hw_iret hx hb hret hf hH hlocks dX13_here_22

theorem dX13_fine_0 : decode cX13_fine 0 = .ok (.aload_n 0, 1) := by decide +kernel
theorem dX13_fine_1 : decode cX13_fine 1 = .ok (.getfield 376, 3) := by decide +kernel
theorem dX13_fine_4 : decode cX13_fine 4 = .ok (.ifCond .ne 7, 3) := by decide +kernel
theorem dX13_fine_7 : decode cX13_fine 7 = .ok (.iconst 1, 1) := by decide +kernel
theorem dX13_fine_8 : decode cX13_fine 8 = .ok (.goto 4, 3) := by decide +kernel
theorem dX13_fine_11 : decode cX13_fine 11 = .ok (.iconst 0, 1) := by decide +kernel
theorem dX13_fine_12 : decode cX13_fine 12 = .ok (.ireturn, 1) := by decide +kernel
theorem hd_X13_fine : yX13_fine.cls = RX13 ∧ yX13_fine.cls ≠ "java/lang/invoke/MethodHandle" ∧ yX13_fine.cls ≠ "java/lang/invoke/VarHandle" ∧ (parseMethodDescriptor yX13_fine.desc).map (fun d => d.parameters.length) = some 0 := by decide +kernel
theorem hs_X13_fine : yX13_fine.cls ≠ "java/lang/invoke/MethodHandle" ∧ yX13_fine.cls ≠ "java/lang/invoke/VarHandle" ∧ (parseMethodDescriptor yX13_fine.desc).map (fun d => d.parameters.length) = some 0 := by decide +kernel
set_option maxHeartbeats 4000000 in
set_option maxRecDepth 100000 in
theorem k_X13_fine (l : Launch) (E : Ev) (K : Kd) (z : Nat) (o : Nat) (w : Wd) (ho : K o = some (11, 0)) {r : Bool} {w' : Wd} (hf : f_X13_fine K o w = some (r, w')) : Met l yX13_fine (Cond.code yX13_fine cX13_fine 1 (Option.some Jvm.ClassFile.FieldType.boolean) :: bt) ({ frames := 0, cells := 0, slots := 0, locals := 0 } : Room) (va_Pc [rv E (some o)] (HB E K w z)) (QI E K z w' (b2i r)) 0 0 (hA E) := by
  refine Met.ofW (cc := cX13_fine) (maxL := 1) (ret := (Option.some Jvm.ClassFile.FieldType.boolean)) (by decide) rfl ?_
  intro p e s m args below meth c s₁ B hml hv
  obtain ⟨rfl, hz, hP, hKs, hT, hb0⟩ := hv
  have C : CX p l e s m _ meth c cX13_fine 1 RX13 (Option.some Jvm.ClassFile.FieldType.boolean) E := ⟨B.exec, B.bytes, hml, findClass_of_methodNamed B.named, fun w h => atoms_spec (ws := Cond.code yX13_fine cX13_fine 1 (Option.some Jvm.ClassFile.FieldType.boolean) :: bt) B.pre w (List.mem_cons_of_mem _ h), hKs, hT, by rw [hz]; exact hb0, B.notSynchronized, B.returns⟩
  have hH : HQ E K z w s s.heap [] := ⟨hP, va_S.rf, hz⟩
  obtain ⟨hx, hb, hml, hown, hts, hKs, hT, hb0, hlocks, hret⟩ := id C
  have hl := lv_entry [rv E (some o)] (n := 1) (by simp [lg_len_nil, lg_len_i, lg_len_j, lg_len_q, lg_len_f, lg_len_d, lg_len_r])
  rw [lg_entry_eq]
  generalize (lg_sl [rv E (some o)] ++ List.replicate (1 - (lg_sl [rv E (some o)]).length) Slot.unset).toArray = ls at hl ⊢
  replace hl : lv_has ls 1 [(0, rv E (some o))] := by simpa only [lv_args, cat_q, cat_i, cat_j, reduceIte, Nat.reduceEqDiff, Nat.reduceAdd, Nat.zero_add] using hl
  generalize s.heap = H at hH ⊢
  unfold f_X13_fine at hf
  refine hl_aload_n hx hb dX13_fine_0 rfl (lv_at hl 0 rfl) ?_
  refine g13_31 hx hb hts hown hKs hH rfl ho m6_212 dX13_fine_1 ?_
  refine lv_if_ne (tgt := 11) hx hb dX13_fine_4 (by decide) (fun c1 => ?_) (fun c1 => ?_)
  · replace hf := (if_neg c1).symm.trans hf
    refine lv_iconst (v := 0) hx hb dX13_fine_11 (by decide) ?_
    exact hw_zret hx hb hret rfl hf hH hlocks dX13_fine_12
  · replace hf := (if_pos c1).symm.trans hf
    refine lv_iconst (v := 1) hx hb dX13_fine_7 (by decide) ?_
    refine lv_goto (tgt := 12) hx hb dX13_fine_8 (by decide) ?_
    exact hw_zret hx hb hret rfl hf hH hlocks dX13_fine_12

theorem dX13_needs_0 : decode cX13_needs 0 = .ok (.aload_n 0, 1) := by decide +kernel
theorem dX13_needs_1 : decode cX13_needs 1 = .ok (.getfield 376, 3) := by decide +kernel
theorem dX13_needs_4 : decode cX13_needs 4 = .ok (.ifCond .ne 7, 3) := by decide +kernel
theorem dX13_needs_7 : decode cX13_needs 7 = .ok (.iload_n 1, 1) := by decide +kernel
theorem dX13_needs_8 : decode cX13_needs 8 = .ok (.ifCond .eq 4, 3) := by decide +kernel
theorem dX13_needs_11 : decode cX13_needs 11 = .ok (.return_, 1) := by decide +kernel
theorem dX13_needs_12 : decode cX13_needs 12 = .ok (.aload_n 0, 1) := by decide +kernel
theorem dX13_needs_13 : decode cX13_needs 13 = .ok (.iload_n 2, 1) := by decide +kernel
theorem dX13_needs_14 : decode cX13_needs 14 = .ok (.putfield 376, 3) := by decide +kernel
theorem dX13_needs_17 : decode cX13_needs 17 = .ok (.aload_n 0, 1) := by decide +kernel
theorem dX13_needs_18 : decode cX13_needs 18 = .ok (.aload_n 0, 1) := by decide +kernel
theorem dX13_needs_19 : decode cX13_needs 19 = .ok (.getfield 343, 3) := by decide +kernel
theorem dX13_needs_22 : decode cX13_needs 22 = .ok (.putfield 65, 3) := by decide +kernel
theorem dX13_needs_25 : decode cX13_needs 25 = .ok (.return_, 1) := by decide +kernel
theorem hd_X13_needs : yX13_needs.cls = RX13 ∧ yX13_needs.cls ≠ "java/lang/invoke/MethodHandle" ∧ yX13_needs.cls ≠ "java/lang/invoke/VarHandle" ∧ (parseMethodDescriptor yX13_needs.desc).map (fun d => d.parameters.length) = some 2 := by decide +kernel
theorem hs_X13_needs : yX13_needs.cls ≠ "java/lang/invoke/MethodHandle" ∧ yX13_needs.cls ≠ "java/lang/invoke/VarHandle" ∧ (parseMethodDescriptor yX13_needs.desc).map (fun d => d.parameters.length) = some 2 := by decide +kernel
set_option maxHeartbeats 4000000 in
set_option maxRecDepth 100000 in
theorem k_X13_needs (l : Launch) (E : Ev) (K : Kd) (z : Nat) (o : Nat) (a_1 : Bool) (a_2 : Int32) (w : Wd) (ho : K o = some (11, 0)) {w' : Wd} (hf : f_X13_needs K o a_1 a_2 w = some w') : Met l yX13_needs (Cond.code yX13_needs cX13_needs 3 (Option.none : Option Jvm.ClassFile.FieldType) :: bt) ({ frames := 0, cells := 0, slots := 0, locals := 0 } : Room) (va_Pc [rv E (some o), .int (b2i a_1), .int a_2] (HB E K w z)) (QV E K z w') 0 0 (hA E) := by
  refine Met.ofW (cc := cX13_needs) (maxL := 3) (ret := (Option.none : Option Jvm.ClassFile.FieldType)) (by decide) rfl ?_
  intro p e s m args below meth c s₁ B hml hv
  obtain ⟨rfl, hz, hP, hKs, hT, hb0⟩ := hv
  have C : CX p l e s m _ meth c cX13_needs 3 RX13 (Option.none : Option Jvm.ClassFile.FieldType) E := ⟨B.exec, B.bytes, hml, findClass_of_methodNamed B.named, fun w h => atoms_spec (ws := Cond.code yX13_needs cX13_needs 3 (Option.none : Option Jvm.ClassFile.FieldType) :: bt) B.pre w (List.mem_cons_of_mem _ h), hKs, hT, by rw [hz]; exact hb0, B.notSynchronized, B.returns⟩
  have hH : HQ E K z w s s.heap [] := ⟨hP, va_S.rf, hz⟩
  obtain ⟨hx, hb, hml, hown, hts, hKs, hT, hb0, hlocks, hret⟩ := id C
  have hl := lv_entry [rv E (some o), .int (b2i a_1), .int a_2] (n := 3) (by simp [lg_len_nil, lg_len_i, lg_len_j, lg_len_q, lg_len_f, lg_len_d, lg_len_r])
  rw [lg_entry_eq]
  generalize (lg_sl [rv E (some o), .int (b2i a_1), .int a_2] ++ List.replicate (3 - (lg_sl [rv E (some o), .int (b2i a_1), .int a_2]).length) Slot.unset).toArray = ls at hl ⊢
  replace hl : lv_has ls 3 [(0, rv E (some o)), (1, .int (b2i a_1)), (2, .int a_2)] := by simpa only [lv_args, cat_q, cat_i, cat_j, reduceIte, Nat.reduceEqDiff, Nat.reduceAdd, Nat.zero_add] using hl
  generalize s.heap = H at hH ⊢
  unfold f_X13_needs at hf
  refine hl_aload_n hx hb dX13_needs_0 rfl (lv_at hl 0 rfl) ?_
  refine g13_31 hx hb hts hown hKs hH rfl ho m6_212 dX13_needs_1 ?_
  refine lv_if_ne (tgt := 11) hx hb dX13_needs_4 (by decide) (fun c1 => ?_) (fun c1 => ?_)
  · replace hf := (if_neg c1).symm.trans hf
    exact hw_vret hx hb hret hf hH hlocks dX13_needs_11
  · replace hf := (if_pos c1).symm.trans hf
    refine lv_iload_n hx hb dX13_needs_7 rfl (lv_at hl 1 rfl) ?_
    refine lv_if_eq (tgt := 12) hx hb dX13_needs_8 (by decide) (fun c2 => ?_) (fun c2 => ?_)
    · replace hf := (if_pos c2).symm.trans hf
      refine hl_aload_n hx hb dX13_needs_12 rfl (lv_at hl 0 rfl) ?_
      refine lv_iload_n hx hb dX13_needs_13 rfl (lv_at hl 2 rfl) ?_
      obtain ⟨w3, hw3, hf⟩ := bnd hf
      replace hw3 := Option.some.inj hw3
      refine p13_31 (v := a_2) hx hb hts hown hKs hH rfl ho m6_212 dX13_needs_14 (fun H locs hH => ?_)
      rw [hw3] at hH
      refine hl_aload_n hx hb dX13_needs_17 rfl (lv_at hl 0 rfl) ?_
      refine hl_aload_n hx hb dX13_needs_18 rfl (lv_at hl 0 rfl) ?_
      refine g13_27 hx hb hts hown hKs hH rfl ho m6_208 dX13_needs_19 ?_
      obtain ⟨w4, hw4, hf⟩ := bnd hf
      replace hw4 := Option.some.inj hw4
      refine p13_32 (v := (wI w3 1327 o)) hx hb hts hown hKs hH rfl ho m6_213 dX13_needs_22 (fun H locs hH => ?_)
      rw [hw4] at hH
      exact hw_vret hx hb hret hf hH hlocks dX13_needs_25
    · replace hf := (if_neg c2).symm.trans hf
      exact hw_vret hx hb hret hf hH hlocks dX13_needs_11

theorem dX13_isWord_0 : decode cX13_isWord 0 = .ok (.aload_n 0, 1) := by decide +kernel
theorem dX13_isWord_1 : decode cX13_isWord 1 = .ok (.invokevirtual 379, 3) := by decide +kernel
theorem dX13_isWord_4 : decode cX13_isWord 4 = .ok (.ifCond .eq 23, 3) := by decide +kernel
theorem dX13_isWord_7 : decode cX13_isWord 7 = .ok (.aload_n 0, 1) := by decide +kernel
theorem dX13_isWord_8 : decode cX13_isWord 8 = .ok (.getfield 346, 3) := by decide +kernel
theorem dX13_isWord_11 : decode cX13_isWord 11 = .ok (.iconst 1, 1) := by decide +kernel
theorem dX13_isWord_12 : decode cX13_isWord 12 = .ok (.if_icmp .ne 15, 3) := by decide +kernel
theorem dX13_isWord_15 : decode cX13_isWord 15 = .ok (.aload_n 0, 1) := by decide +kernel
theorem dX13_isWord_16 : decode cX13_isWord 16 = .ok (.getfield 356, 3) := by decide +kernel
theorem dX13_isWord_19 : decode cX13_isWord 19 = .ok (.iload_n 1, 1) := by decide +kernel
theorem dX13_isWord_20 : decode cX13_isWord 20 = .ok (.if_icmp .ne 7, 3) := by decide +kernel
theorem dX13_isWord_23 : decode cX13_isWord 23 = .ok (.iconst 1, 1) := by decide +kernel
theorem dX13_isWord_24 : decode cX13_isWord 24 = .ok (.goto 4, 3) := by decide +kernel
theorem dX13_isWord_27 : decode cX13_isWord 27 = .ok (.iconst 0, 1) := by decide +kernel
theorem dX13_isWord_28 : decode cX13_isWord 28 = .ok (.ireturn, 1) := by decide +kernel
theorem hd_X13_isWord : yX13_isWord.cls = RX13 ∧ yX13_isWord.cls ≠ "java/lang/invoke/MethodHandle" ∧ yX13_isWord.cls ≠ "java/lang/invoke/VarHandle" ∧ (parseMethodDescriptor yX13_isWord.desc).map (fun d => d.parameters.length) = some 1 := by decide +kernel
theorem hs_X13_isWord : yX13_isWord.cls ≠ "java/lang/invoke/MethodHandle" ∧ yX13_isWord.cls ≠ "java/lang/invoke/VarHandle" ∧ (parseMethodDescriptor yX13_isWord.desc).map (fun d => d.parameters.length) = some 1 := by decide +kernel
set_option maxHeartbeats 4000000 in
set_option maxRecDepth 100000 in
theorem k_X13_isWord (l : Launch) (E : Ev) (K : Kd) (z : Nat) (o : Nat) (a_1 : Int32) (w : Wd) (ho : K o = some (11, 0)) {r : Bool} {w' : Wd} (hf : f_X13_isWord K o a_1 w = some (r, w')) : Met l yX13_isWord (Cond.code yX13_isWord cX13_isWord 2 (Option.some Jvm.ClassFile.FieldType.boolean) :: bt) ({ frames := 1, cells := 0, slots := 0, locals := 20 } : Room) (va_Pc [rv E (some o), .int a_1] (HB E K w z)) (QI E K z w' (b2i r)) 0 0 (hA E) := by
  refine Met.ofW (cc := cX13_isWord) (maxL := 2) (ret := (Option.some Jvm.ClassFile.FieldType.boolean)) (by decide) rfl ?_
  intro p e s m args below meth c s₁ B hml hv
  obtain ⟨rfl, hz, hP, hKs, hT, hb0⟩ := hv
  have C : CX p l e s m _ meth c cX13_isWord 2 RX13 (Option.some Jvm.ClassFile.FieldType.boolean) E := ⟨B.exec, B.bytes, hml, findClass_of_methodNamed B.named, fun w h => atoms_spec (ws := Cond.code yX13_isWord cX13_isWord 2 (Option.some Jvm.ClassFile.FieldType.boolean) :: bt) B.pre w (List.mem_cons_of_mem _ h), hKs, hT, by rw [hz]; exact hb0, B.notSynchronized, B.returns⟩
  have hH : HQ E K z w s s.heap [] := ⟨hP, va_S.rf, hz⟩
  obtain ⟨hx, hb, hml, hown, hts, hKs, hT, hb0, hlocks, hret⟩ := id C
  have hl := lv_entry [rv E (some o), .int a_1] (n := 2) (by simp [lg_len_nil, lg_len_i, lg_len_j, lg_len_q, lg_len_f, lg_len_d, lg_len_r])
  rw [lg_entry_eq]
  generalize (lg_sl [rv E (some o), .int a_1] ++ List.replicate (2 - (lg_sl [rv E (some o), .int a_1]).length) Slot.unset).toArray = ls at hl ⊢
  replace hl : lv_has ls 2 [(0, rv E (some o)), (1, .int a_1)] := by simpa only [lv_args, cat_q, cat_i, cat_j, reduceIte, Nat.reduceEqDiff, Nat.reduceAdd, Nat.zero_add] using hl
  generalize s.heap = H at hH ⊢
  unfold f_X13_isWord at hf
  refine hl_aload_n hx hb dX13_isWord_0 rfl (lv_at hl 0 rfl) ?_
  obtain ⟨q1, hq1, hf⟩ := bnd hf
  refine hcV_i hx hb hml hown hts hKs hT hb0 hH (As := []) (rest := []) (k_X13_fine l E K H.size o w ho hq1) (gV m9_46 m9_48 ms_104 m1_16 m9_49) hd_X13_fine ⟨Nat.le_of_ble_eq_true rfl, Nat.le_of_ble_eq_true rfl, rfl, rfl⟩ rfl ho rfl rfl rfl hl.1 rfl rc0 rfl dX13_isWord_1 ⟨Nat.zero_le _, Nat.zero_le _⟩ (fun H locs hH => ?_)
  refine lv_if_eq (tgt := 27) hx hb dX13_isWord_4 (by decide) (fun c2 => ?_) (fun c2 => ?_)
  · replace hf := (if_pos c2).symm.trans hf
    refine lv_iconst (v := 0) hx hb dX13_isWord_27 (by decide) ?_
    exact hw_zret hx hb hret rfl hf hH hlocks dX13_isWord_28
  · replace hf := (if_neg c2).symm.trans hf
    refine hl_aload_n hx hb dX13_isWord_7 rfl (lv_at hl 0 rfl) ?_
    refine g13_28 hx hb hts hown hKs hH rfl ho m6_209 dX13_isWord_8 ?_
    refine lv_iconst (v := 1) hx hb dX13_isWord_11 (by decide) ?_
    refine lv_icmp_ne (tgt := 27) hx hb dX13_isWord_12 (by decide) (fun c3 => ?_) (fun c3 => ?_)
    · replace hf := (if_neg c3).symm.trans hf
      refine lv_iconst (v := 0) hx hb dX13_isWord_27 (by decide) ?_
      exact hw_zret hx hb hret rfl hf hH hlocks dX13_isWord_28
    · replace hf := (if_pos c3).symm.trans hf
      refine hl_aload_n hx hb dX13_isWord_15 rfl (lv_at hl 0 rfl) ?_
      refine g13_29 hx hb hts hown hKs hH rfl ho m6_210 dX13_isWord_16 ?_
      refine lv_iload_n hx hb dX13_isWord_19 rfl (lv_at hl 1 rfl) ?_
      refine lv_icmp_ne (tgt := 27) hx hb dX13_isWord_20 (by decide) (fun c4 => ?_) (fun c4 => ?_)
      · replace hf := (if_neg c4).symm.trans hf
        refine lv_iconst (v := 0) hx hb dX13_isWord_27 (by decide) ?_
        exact hw_zret hx hb hret rfl hf hH hlocks dX13_isWord_28
      · replace hf := (if_pos c4).symm.trans hf
        refine lv_iconst (v := 1) hx hb dX13_isWord_23 (by decide) ?_
        refine lv_goto (tgt := 28) hx hb dX13_isWord_24 (by decide) ?_
        exact hw_zret hx hb hret rfl hf hH hlocks dX13_isWord_28

theorem dX13_look_0 : decode cX13_look 0 = .ok (.aload_n 0, 1) := by decide +kernel
theorem dX13_look_1 : decode cX13_look 1 = .ok (.aload_n 0, 1) := by decide +kernel
theorem dX13_look_2 : decode cX13_look 2 = .ok (.getfield 346, 3) := by decide +kernel
theorem dX13_look_5 : decode cX13_look 5 = .ok (.iconst 2, 1) := by decide +kernel
theorem dX13_look_6 : decode cX13_look 6 = .ok (.if_icmp .ne 7, 3) := by decide +kernel
theorem dX13_look_9 : decode cX13_look 9 = .ok (.iconst 1, 1) := by decide +kernel
theorem dX13_look_10 : decode cX13_look 10 = .ok (.goto 4, 3) := by decide +kernel
theorem dX13_look_13 : decode cX13_look 13 = .ok (.iconst 0, 1) := by decide +kernel
theorem dX13_look_14 : decode cX13_look 14 = .ok (.iconst 1, 1) := by decide +kernel
theorem dX13_look_15 : decode cX13_look 15 = .ok (.invokevirtual 392, 3) := by decide +kernel
theorem dX13_look_18 : decode cX13_look 18 = .ok (.aload_n 0, 1) := by decide +kernel
theorem dX13_look_19 : decode cX13_look 19 = .ok (.invokevirtual 379, 3) := by decide +kernel
theorem dX13_look_22 : decode cX13_look 22 = .ok (.ifCond .eq 20, 3) := by decide +kernel
theorem dX13_look_25 : decode cX13_look 25 = .ok (.aload_n 0, 1) := by decide +kernel
theorem dX13_look_26 : decode cX13_look 26 = .ok (.aload_n 0, 1) := by decide +kernel
theorem dX13_look_27 : decode cX13_look 27 = .ok (.getfield 363, 3) := by decide +kernel
theorem dX13_look_30 : decode cX13_look 30 = .ok (.i2l, 1) := by decide +kernel
theorem dX13_look_31 : decode cX13_look 31 = .ok (.iload_n 1, 1) := by decide +kernel
theorem dX13_look_32 : decode cX13_look 32 = .ok (.i2l, 1) := by decide +kernel
theorem dX13_look_33 : decode cX13_look 33 = .ok (.iload_n 2, 1) := by decide +kernel
theorem dX13_look_34 : decode cX13_look 34 = .ok (.i2l, 1) := by decide +kernel
theorem dX13_look_35 : decode cX13_look 35 = .ok (.invokestatic 123, 3) := by decide +kernel
theorem dX13_look_38 : decode cX13_look 38 = .ok (.iconst 2, 1) := by decide +kernel
theorem dX13_look_39 : decode cX13_look 39 = .ok (.invokevirtual 392, 3) := by decide +kernel
theorem dX13_look_42 : decode cX13_look 42 = .ok (.aload_n 0, 1) := by decide +kernel
theorem dX13_look_43 : decode cX13_look 43 = .ok (.getfield 363, 3) := by decide +kernel
theorem dX13_look_46 : decode cX13_look 46 = .ok (.ireturn, 1) := by decide +kernel
theorem hd_X13_look : yX13_look.cls = RX13 ∧ yX13_look.cls ≠ "java/lang/invoke/MethodHandle" ∧ yX13_look.cls ≠ "java/lang/invoke/VarHandle" ∧ (parseMethodDescriptor yX13_look.desc).map (fun d => d.parameters.length) = some 2 := by decide +kernel
theorem hs_X13_look : yX13_look.cls ≠ "java/lang/invoke/MethodHandle" ∧ yX13_look.cls ≠ "java/lang/invoke/VarHandle" ∧ (parseMethodDescriptor yX13_look.desc).map (fun d => d.parameters.length) = some 2 := by decide +kernel
set_option maxHeartbeats 4000000 in
set_option maxRecDepth 100000 in
theorem k_X13_look (l : Launch) (E : Ev) (K : Kd) (z : Nat) (o : Nat) (a_1 : Int32) (a_2 : Int32) (w : Wd) (ho : K o = some (11, 0)) {r : Int32} {w' : Wd} (hf : f_X13_look K o a_1 a_2 w = some (r, w')) : Met l yX13_look (Cond.code yX13_look cX13_look 3 (Option.some Jvm.ClassFile.FieldType.int) :: bt) ({ frames := 1, cells := 0, slots := 0, locals := 25 } : Room) (va_Pc [rv E (some o), .int a_1, .int a_2] (HB E K w z)) (QI E K z w' r) 0 0 (hA E) := by
  refine Met.ofW (cc := cX13_look) (maxL := 3) (ret := (Option.some Jvm.ClassFile.FieldType.int)) (by decide) rfl ?_
  intro p e s m args below meth c s₁ B hml hv
  obtain ⟨rfl, hz, hP, hKs, hT, hb0⟩ := hv
  have C : CX p l e s m _ meth c cX13_look 3 RX13 (Option.some Jvm.ClassFile.FieldType.int) E := ⟨B.exec, B.bytes, hml, findClass_of_methodNamed B.named, fun w h => atoms_spec (ws := Cond.code yX13_look cX13_look 3 (Option.some Jvm.ClassFile.FieldType.int) :: bt) B.pre w (List.mem_cons_of_mem _ h), hKs, hT, by rw [hz]; exact hb0, B.notSynchronized, B.returns⟩
  have hH : HQ E K z w s s.heap [] := ⟨hP, va_S.rf, hz⟩
  obtain ⟨hx, hb, hml, hown, hts, hKs, hT, hb0, hlocks, hret⟩ := id C
  have hl := lv_entry [rv E (some o), .int a_1, .int a_2] (n := 3) (by simp [lg_len_nil, lg_len_i, lg_len_j, lg_len_q, lg_len_f, lg_len_d, lg_len_r])
  rw [lg_entry_eq]
  generalize (lg_sl [rv E (some o), .int a_1, .int a_2] ++ List.replicate (3 - (lg_sl [rv E (some o), .int a_1, .int a_2]).length) Slot.unset).toArray = ls at hl ⊢
  replace hl : lv_has ls 3 [(0, rv E (some o)), (1, .int a_1), (2, .int a_2)] := by simpa only [lv_args, cat_q, cat_i, cat_j, reduceIte, Nat.reduceEqDiff, Nat.reduceAdd, Nat.zero_add] using hl
  generalize s.heap = H at hH ⊢
  unfold f_X13_look at hf
  refine hl_aload_n hx hb dX13_look_0 rfl (lv_at hl 0 rfl) ?_
  refine hl_aload_n hx hb dX13_look_1 rfl (lv_at hl 0 rfl) ?_
  refine g13_28 hx hb hts hown hKs hH rfl ho m6_209 dX13_look_2 ?_
  refine lv_iconst (v := 2) hx hb dX13_look_5 (by decide) ?_
  refine lv_icmp_ne (tgt := 13) hx hb dX13_look_6 (by decide) (fun c1 => ?_) (fun c1 => ?_)
  · replace hf := (if_neg c1).symm.trans hf
    refine lv_iconst (v := 0) hx hb dX13_look_13 (by decide) ?_
    refine lv_iconst (v := 1) hx hb dX13_look_14 (by decide) ?_
    obtain ⟨q2, hq2, hf⟩ := bnd hf
    refine hcV_v hx hb hml hown hts hKs hT hb0 hH (As := [.int 0, .int 1]) (rest := []) (k_X13_needs l E K H.size o false 1 w ho hq2) (gV m9_66 m9_68 ms_109 m1_16 m9_69) hd_X13_needs ⟨Nat.le_of_ble_eq_true rfl, Nat.le_of_ble_eq_true rfl, rfl, rfl⟩ rfl ho rfl rfl rfl hl.1 rfl rc0 rfl dX13_look_15 ⟨Nat.zero_le _, Nat.zero_le _⟩ (fun H locs hH => ?_)
    refine hl_aload_n hx hb dX13_look_18 rfl (lv_at hl 0 rfl) ?_
    obtain ⟨q3, hq3, hf⟩ := bnd hf
    refine hcV_i hx hb hml hown hts hKs hT hb0 hH (As := []) (rest := []) (k_X13_fine l E K H.size o q2 ho hq3) (gV m9_46 m9_48 ms_104 m1_16 m9_49) hd_X13_fine ⟨Nat.le_of_ble_eq_true rfl, Nat.le_of_ble_eq_true rfl, rfl, rfl⟩ rfl ho rfl rfl rfl hl.1 rfl rc0 rfl dX13_look_19 ⟨Nat.zero_le _, Nat.zero_le _⟩ (fun H locs hH => ?_)
    refine lv_if_eq (tgt := 42) hx hb dX13_look_22 (by decide) (fun c4 => ?_) (fun c4 => ?_)
    · replace hf := (if_pos c4).symm.trans hf
      refine hl_aload_n hx hb dX13_look_42 rfl (lv_at hl 0 rfl) ?_
      refine g13_30 hx hb hts hown hKs hH rfl ho m6_211 dX13_look_43 ?_
      exact hw_iret hx hb hret hf hH hlocks dX13_look_46
    · replace hf := (if_neg c4).symm.trans hf
      refine hl_aload_n hx hb dX13_look_25 rfl (lv_at hl 0 rfl) ?_
      refine hl_aload_n hx hb dX13_look_26 rfl (lv_at hl 0 rfl) ?_
      refine g13_30 hx hb hts hown hKs hH rfl ho m6_211 dX13_look_27 ?_
      refine lv_i2l (v := ((wI q3.2 1330 o).toInt64)) hx hb dX13_look_30 rfl ?_
      refine lv_iload_n hx hb dX13_look_31 rfl (lv_at hl 1 rfl) ?_
      refine lv_i2l (v := (a_1.toInt64)) hx hb dX13_look_32 rfl ?_
      refine lv_iload_n hx hb dX13_look_33 rfl (lv_at hl 2 rfl) ?_
      refine lv_i2l (v := (a_2.toInt64)) hx hb dX13_look_34 rfl ?_
      obtain ⟨q5, hq5, hf⟩ := bnd hf
      refine hcS_i hx hb hml hown hts hKs hT hb0 hH (As := [.long ((wI q3.2 1330 o).toInt64), .long (a_1.toInt64), .long (a_2.toInt64)]) (rest := [rv E (some o)]) (k_X13_isIn l E K H.size ((wI q3.2 1330 o).toInt64) (a_1.toInt64) (a_2.toInt64) q3.2 hq5) (gS m7_88 m7_89 m1_16 m7_90) hs_X13_isIn ⟨Nat.le_of_ble_eq_true rfl, Nat.le_of_ble_eq_true rfl, rfl, rfl⟩ hl.1 rfl (rcV rc0) rfl dX13_look_35 ⟨Nat.zero_le _, Nat.zero_le _⟩ (fun H locs hH => ?_)
      refine lv_iconst (v := 2) hx hb dX13_look_38 (by decide) ?_
      obtain ⟨q6, hq6, hf⟩ := bnd hf
      refine hcV_v hx hb hml hown hts hKs hT hb0 hH (As := [.int (b2i q5.1), .int 2]) (rest := []) (k_X13_needs l E K H.size o q5.1 2 q5.2 ho hq6) (gV m9_66 m9_68 ms_109 m1_16 m9_69) hd_X13_needs ⟨Nat.le_of_ble_eq_true rfl, Nat.le_of_ble_eq_true rfl, rfl, rfl⟩ rfl ho rfl rfl rfl hl.1 rfl rc0 rfl dX13_look_39 ⟨Nat.zero_le _, Nat.zero_le _⟩ (fun H locs hH => ?_)
      refine hl_aload_n hx hb dX13_look_42 rfl (lv_at hl 0 rfl) ?_
      refine g13_30 hx hb hts hown hKs hH rfl ho m6_211 dX13_look_43 ?_
      exact hw_iret hx hb hret hf hH hlocks dX13_look_46
  · replace hf := (if_pos c1).symm.trans hf
    refine lv_iconst (v := 1) hx hb dX13_look_9 (by decide) ?_
    refine lv_goto (tgt := 14) hx hb dX13_look_10 (by decide) ?_
    refine lv_iconst (v := 1) hx hb dX13_look_14 (by decide) ?_
    obtain ⟨q7, hq7, hf⟩ := bnd hf
    refine hcV_v hx hb hml hown hts hKs hT hb0 hH (As := [.int 1, .int 1]) (rest := []) (k_X13_needs l E K H.size o true 1 w ho hq7) (gV m9_66 m9_68 ms_109 m1_16 m9_69) hd_X13_needs ⟨Nat.le_of_ble_eq_true rfl, Nat.le_of_ble_eq_true rfl, rfl, rfl⟩ rfl ho rfl rfl rfl hl.1 rfl rc0 rfl dX13_look_15 ⟨Nat.zero_le _, Nat.zero_le _⟩ (fun H locs hH => ?_)
    refine hl_aload_n hx hb dX13_look_18 rfl (lv_at hl 0 rfl) ?_
    obtain ⟨q8, hq8, hf⟩ := bnd hf
    refine hcV_i hx hb hml hown hts hKs hT hb0 hH (As := []) (rest := []) (k_X13_fine l E K H.size o q7 ho hq8) (gV m9_46 m9_48 ms_104 m1_16 m9_49) hd_X13_fine ⟨Nat.le_of_ble_eq_true rfl, Nat.le_of_ble_eq_true rfl, rfl, rfl⟩ rfl ho rfl rfl rfl hl.1 rfl rc0 rfl dX13_look_19 ⟨Nat.zero_le _, Nat.zero_le _⟩ (fun H locs hH => ?_)
    refine lv_if_eq (tgt := 42) hx hb dX13_look_22 (by decide) (fun c9 => ?_) (fun c9 => ?_)
    · replace hf := (if_pos c9).symm.trans hf
      refine hl_aload_n hx hb dX13_look_42 rfl (lv_at hl 0 rfl) ?_
      refine g13_30 hx hb hts hown hKs hH rfl ho m6_211 dX13_look_43 ?_
      exact hw_iret hx hb hret hf hH hlocks dX13_look_46
    · replace hf := (if_neg c9).symm.trans hf
      refine hl_aload_n hx hb dX13_look_25 rfl (lv_at hl 0 rfl) ?_
      refine hl_aload_n hx hb dX13_look_26 rfl (lv_at hl 0 rfl) ?_
      refine g13_30 hx hb hts hown hKs hH rfl ho m6_211 dX13_look_27 ?_
      refine lv_i2l (v := ((wI q8.2 1330 o).toInt64)) hx hb dX13_look_30 rfl ?_
      refine lv_iload_n hx hb dX13_look_31 rfl (lv_at hl 1 rfl) ?_
      refine lv_i2l (v := (a_1.toInt64)) hx hb dX13_look_32 rfl ?_
      refine lv_iload_n hx hb dX13_look_33 rfl (lv_at hl 2 rfl) ?_
      refine lv_i2l (v := (a_2.toInt64)) hx hb dX13_look_34 rfl ?_
      obtain ⟨q10, hq10, hf⟩ := bnd hf
      refine hcS_i hx hb hml hown hts hKs hT hb0 hH (As := [.long ((wI q8.2 1330 o).toInt64), .long (a_1.toInt64), .long (a_2.toInt64)]) (rest := [rv E (some o)]) (k_X13_isIn l E K H.size ((wI q8.2 1330 o).toInt64) (a_1.toInt64) (a_2.toInt64) q8.2 hq10) (gS m7_88 m7_89 m1_16 m7_90) hs_X13_isIn ⟨Nat.le_of_ble_eq_true rfl, Nat.le_of_ble_eq_true rfl, rfl, rfl⟩ hl.1 rfl (rcV rc0) rfl dX13_look_35 ⟨Nat.zero_le _, Nat.zero_le _⟩ (fun H locs hH => ?_)
      refine lv_iconst (v := 2) hx hb dX13_look_38 (by decide) ?_
      obtain ⟨q11, hq11, hf⟩ := bnd hf
      refine hcV_v hx hb hml hown hts hKs hT hb0 hH (As := [.int (b2i q10.1), .int 2]) (rest := []) (k_X13_needs l E K H.size o q10.1 2 q10.2 ho hq11) (gV m9_66 m9_68 ms_109 m1_16 m9_69) hd_X13_needs ⟨Nat.le_of_ble_eq_true rfl, Nat.le_of_ble_eq_true rfl, rfl, rfl⟩ rfl ho rfl rfl rfl hl.1 rfl rc0 rfl dX13_look_39 ⟨Nat.zero_le _, Nat.zero_le _⟩ (fun H locs hH => ?_)
      refine hl_aload_n hx hb dX13_look_42 rfl (lv_at hl 0 rfl) ?_
      refine g13_30 hx hb hts hown hKs hH rfl ho m6_211 dX13_look_43 ?_
      exact hw_iret hx hb hret hf hH hlocks dX13_look_46

theorem dX13_laysDraft_0 : decode cX13_laysDraft 0 = .ok (.aload_n 0, 1) := by decide +kernel
theorem dX13_laysDraft_1 : decode cX13_laysDraft 1 = .ok (.invokevirtual 379, 3) := by decide +kernel
theorem dX13_laysDraft_4 : decode cX13_laysDraft 4 = .ok (.ifCond .eq 10, 3) := by decide +kernel
theorem dX13_laysDraft_7 : decode cX13_laysDraft 7 = .ok (.aload_n 0, 1) := by decide +kernel
theorem dX13_laysDraft_8 : decode cX13_laysDraft 8 = .ok (.getfield 13, 3) := by decide +kernel
theorem dX13_laysDraft_11 : decode cX13_laysDraft 11 = .ok (.iload_n 1, 1) := by decide +kernel
theorem dX13_laysDraft_12 : decode cX13_laysDraft 12 = .ok (.iload_n 2, 1) := by decide +kernel
theorem dX13_laysDraft_13 : decode cX13_laysDraft 13 = .ok (.iastore, 1) := by decide +kernel
theorem dX13_laysDraft_14 : decode cX13_laysDraft 14 = .ok (.return_, 1) := by decide +kernel
theorem hd_X13_laysDraft : yX13_laysDraft.cls = RX13 ∧ yX13_laysDraft.cls ≠ "java/lang/invoke/MethodHandle" ∧ yX13_laysDraft.cls ≠ "java/lang/invoke/VarHandle" ∧ (parseMethodDescriptor yX13_laysDraft.desc).map (fun d => d.parameters.length) = some 2 := by decide +kernel
theorem hs_X13_laysDraft : yX13_laysDraft.cls ≠ "java/lang/invoke/MethodHandle" ∧ yX13_laysDraft.cls ≠ "java/lang/invoke/VarHandle" ∧ (parseMethodDescriptor yX13_laysDraft.desc).map (fun d => d.parameters.length) = some 2 := by decide +kernel
set_option maxHeartbeats 4000000 in
set_option maxRecDepth 100000 in
theorem k_X13_laysDraft (l : Launch) (E : Ev) (K : Kd) (z : Nat) (o : Nat) (a_1 : Int32) (a_2 : Int32) (w : Wd) (ho : K o = some (11, 0)) {w' : Wd} (hf : f_X13_laysDraft K o a_1 a_2 w = some w') : Met l yX13_laysDraft (Cond.code yX13_laysDraft cX13_laysDraft 3 (Option.none : Option Jvm.ClassFile.FieldType) :: bt) ({ frames := 1, cells := 0, slots := 0, locals := 20 } : Room) (va_Pc [rv E (some o), .int a_1, .int a_2] (HB E K w z)) (QV E K z w') 0 0 (hA E) := by
  refine Met.ofW (cc := cX13_laysDraft) (maxL := 3) (ret := (Option.none : Option Jvm.ClassFile.FieldType)) (by decide) rfl ?_
  intro p e s m args below meth c s₁ B hml hv
  obtain ⟨rfl, hz, hP, hKs, hT, hb0⟩ := hv
  have C : CX p l e s m _ meth c cX13_laysDraft 3 RX13 (Option.none : Option Jvm.ClassFile.FieldType) E := ⟨B.exec, B.bytes, hml, findClass_of_methodNamed B.named, fun w h => atoms_spec (ws := Cond.code yX13_laysDraft cX13_laysDraft 3 (Option.none : Option Jvm.ClassFile.FieldType) :: bt) B.pre w (List.mem_cons_of_mem _ h), hKs, hT, by rw [hz]; exact hb0, B.notSynchronized, B.returns⟩
  have hH : HQ E K z w s s.heap [] := ⟨hP, va_S.rf, hz⟩
  obtain ⟨hx, hb, hml, hown, hts, hKs, hT, hb0, hlocks, hret⟩ := id C
  have hl := lv_entry [rv E (some o), .int a_1, .int a_2] (n := 3) (by simp [lg_len_nil, lg_len_i, lg_len_j, lg_len_q, lg_len_f, lg_len_d, lg_len_r])
  rw [lg_entry_eq]
  generalize (lg_sl [rv E (some o), .int a_1, .int a_2] ++ List.replicate (3 - (lg_sl [rv E (some o), .int a_1, .int a_2]).length) Slot.unset).toArray = ls at hl ⊢
  replace hl : lv_has ls 3 [(0, rv E (some o)), (1, .int a_1), (2, .int a_2)] := by simpa only [lv_args, cat_q, cat_i, cat_j, reduceIte, Nat.reduceEqDiff, Nat.reduceAdd, Nat.zero_add] using hl
  generalize s.heap = H at hH ⊢
  unfold f_X13_laysDraft at hf
  refine hl_aload_n hx hb dX13_laysDraft_0 rfl (lv_at hl 0 rfl) ?_
  obtain ⟨q1, hq1, hf⟩ := bnd hf
  refine hcV_i hx hb hml hown hts hKs hT hb0 hH (As := []) (rest := []) (k_X13_fine l E K H.size o w ho hq1) (gV m9_46 m9_48 ms_104 m1_16 m9_49) hd_X13_fine ⟨Nat.le_of_ble_eq_true rfl, Nat.le_of_ble_eq_true rfl, rfl, rfl⟩ rfl ho rfl rfl rfl hl.1 rfl rc0 rfl dX13_laysDraft_1 ⟨Nat.zero_le _, Nat.zero_le _⟩ (fun H locs hH => ?_)
  refine lv_if_eq (tgt := 14) hx hb dX13_laysDraft_4 (by decide) (fun c2 => ?_) (fun c2 => ?_)
  · replace hf := (if_pos c2).symm.trans hf
    exact hw_vret hx hb hret hf hH hlocks dX13_laysDraft_14
  · replace hf := (if_neg c2).symm.trans hf
    refine hl_aload_n hx hb dX13_laysDraft_7 rfl (lv_at hl 0 rfl) ?_
    refine g13_2 hx hb hts hown hKs hH rfl ho m6_183 dX13_laysDraft_8 ?_
    refine lv_iload_n hx hb dX13_laysDraft_11 rfl (lv_at hl 1 rfl) ?_
    refine lv_iload_n hx hb dX13_laysDraft_12 rfl (lv_at hl 2 rfl) ?_
    obtain ⟨a3, ha3, hf⟩ := bnd hf
    replace ha3 := cha_some ha3
    obtain ⟨j4, hj4, hf⟩ := bnd hf
    obtain ⟨w5, hw5, hf⟩ := bnd hf
    replace hw5 := Option.some.inj hw5
    refine hw_iast (x := a_2) hx hb hKs hH ha3.1 ha3.2 hj4 dX13_laysDraft_13 (fun H locs hH => ?_)
    rw [hw5] at hH
    exact hw_vret hx hb hret hf hH hlocks dX13_laysDraft_14

theorem dX13_nameHere_0 : decode cX13_nameHere 0 = .ok (.lconst 0, 1) := by decide +kernel
theorem dX13_nameHere_1 : decode cX13_nameHere 1 = .ok (.lstore_n 1, 1) := by decide +kernel
theorem dX13_nameHere_2 : decode cX13_nameHere 2 = .ok (.aload_n 0, 1) := by decide +kernel
theorem dX13_nameHere_3 : decode cX13_nameHere 3 = .ok (.getfield 343, 3) := by decide +kernel
theorem dX13_nameHere_6 : decode cX13_nameHere 6 = .ok (.istore_n 3, 1) := by decide +kernel
theorem dX13_nameHere_7 : decode cX13_nameHere 7 = .ok (.iload_n 3, 1) := by decide +kernel
theorem dX13_nameHere_8 : decode cX13_nameHere 8 = .ok (.aload_n 0, 1) := by decide +kernel
theorem dX13_nameHere_9 : decode cX13_nameHere 9 = .ok (.getfield 337, 3) := by decide +kernel
theorem dX13_nameHere_12 : decode cX13_nameHere 12 = .ok (.if_icmp .ge 27, 3) := by decide +kernel
theorem dX13_nameHere_15 : decode cX13_nameHere 15 = .ok (.ldc2_w 408, 3) := by decide +kernel
theorem dX13_nameHere_18 : decode cX13_nameHere 18 = .ok (.lload_n 1, 1) := by decide +kernel
theorem dX13_nameHere_19 : decode cX13_nameHere 19 = .ok (.lmul, 1) := by decide +kernel
theorem dX13_nameHere_20 : decode cX13_nameHere 20 = .ok (.aload_n 0, 1) := by decide +kernel
theorem dX13_nameHere_21 : decode cX13_nameHere 21 = .ok (.getfield 61, 3) := by decide +kernel
theorem dX13_nameHere_24 : decode cX13_nameHere 24 = .ok (.iload_n 3, 1) := by decide +kernel
theorem dX13_nameHere_25 : decode cX13_nameHere 25 = .ok (.baload, 1) := by decide +kernel
theorem dX13_nameHere_26 : decode cX13_nameHere 26 = .ok (.i2l, 1) := by decide +kernel
theorem dX13_nameHere_27 : decode cX13_nameHere 27 = .ok (.ladd, 1) := by decide +kernel
theorem dX13_nameHere_28 : decode cX13_nameHere 28 = .ok (.ldc2_w 410, 3) := by decide +kernel
theorem dX13_nameHere_31 : decode cX13_nameHere 31 = .ok (.lsub, 1) := by decide +kernel
theorem dX13_nameHere_32 : decode cX13_nameHere 32 = .ok (.lstore_n 1, 1) := by decide +kernel
theorem dX13_nameHere_33 : decode cX13_nameHere 33 = .ok (.iinc 3 1, 3) := by decide +kernel
theorem dX13_nameHere_36 : decode cX13_nameHere 36 = .ok (.goto (-29), 3) := by decide +kernel
theorem dX13_nameHere_39 : decode cX13_nameHere 39 = .ok (.lload_n 1, 1) := by decide +kernel
theorem dX13_nameHere_40 : decode cX13_nameHere 40 = .ok (.lreturn, 1) := by decide +kernel
theorem hd_X13_nameHere : yX13_nameHere.cls = RX13 ∧ yX13_nameHere.cls ≠ "java/lang/invoke/MethodHandle" ∧ yX13_nameHere.cls ≠ "java/lang/invoke/VarHandle" ∧ (parseMethodDescriptor yX13_nameHere.desc).map (fun d => d.parameters.length) = some 0 := by decide +kernel
theorem hs_X13_nameHere : yX13_nameHere.cls ≠ "java/lang/invoke/MethodHandle" ∧ yX13_nameHere.cls ≠ "java/lang/invoke/VarHandle" ∧ (parseMethodDescriptor yX13_nameHere.desc).map (fun d => d.parameters.length) = some 0 := by decide +kernel
set_option maxHeartbeats 4000000 in
set_option maxRecDepth 100000 in
theorem l_X13_nameHere_L7 (C : CX p l e s m args meth c cX13_nameHere 4 RX13 (Option.some Jvm.ClassFile.FieldType.long) E) {o : Nat} (ho : K o = some (11, 0)) {r : Int64} {w' : Wd} (k : Int64 → Int32 → Wd → Option (Int64 × Wd)) (hk : ∀ (v1_7 : Int64) (v3_7 : Int32) (w : Wd) (H : Heap) (locs : List Loc) (ls : Array Slot), HQ E K z w s H locs → lv_has ls 4 [(1, .long v1_7), (3, .int v3_7), (0, rv E (some o))] → k v1_7 v3_7 w = some (r, w') → W p l e ({ frames := 0, cells := 0, slots := 0, locals := 0 } : Room) s m args below meth c H locs 0 0 (MQ below (QL E K z w' r) args s 0 0 (hA E)) (F0 m 39 ls [])) : ∀ (n : Nat) (v1_7 : Int64) (v3_7 : Int32) (w : Wd) (H : Heap) (locs : List Loc) (ls : Array Slot), HQ E K z w s H locs → lv_has ls 4 [(1, .long v1_7), (3, .int v3_7), (0, rv E (some o))] → f_X13_nameHere_L7 K o k n v1_7 v3_7 w = some (r, w') → W p l e ({ frames := 0, cells := 0, slots := 0, locals := 0 } : Room) s m args below meth c H locs 0 0 (MQ below (QL E K z w' r) args s 0 0 (hA E)) (F0 m 7 ls []) := by
  obtain ⟨hx, hb, hml, hown, hts, hKs, hT, hb0, hlocks, hret⟩ := id C
  intro n
  induction n with
  | zero =>
    intro v1_7 v3_7 w H locs ls hH hl hf
    cases hf
  | succ n ih =>
    intro v1_7 v3_7 w H locs ls hH hl hf
    rw [f_X13_nameHere_L7] at hf
    refine lv_iload_n hx hb dX13_nameHere_7 rfl (lv_at hl 1 rfl) ?_
    refine hl_aload_n hx hb dX13_nameHere_8 rfl (lv_at hl 2 rfl) ?_
    refine g13_26 hx hb hts hown hKs hH rfl ho m6_207 dX13_nameHere_9 ?_
    refine lv_icmp_ge (tgt := 39) hx hb dX13_nameHere_12 (by decide) (fun c2 => ?_) (fun c2 => ?_)
    · replace hf := (if_pos c2).symm.trans hf
      exact hk v1_7 v3_7 _ _ _ _ hH (lv_sub hl [0, 1, 2] rfl) hf
    · replace hf := (if_neg c2).symm.trans hf
      refine lv_ldc2 (v := 27) hx hb hown (hts _ m9_94) dX13_nameHere_15 ?_
      refine lv_lload_n hx hb dX13_nameHere_18 rfl (lv_at hl 0 rfl) ?_
      refine lv_lmul hx hb dX13_nameHere_19 ?_
      refine hl_aload_n hx hb dX13_nameHere_20 rfl (lv_at hl 2 rfl) ?_
      refine g13_23 hx hb hts hown hKs hH rfl ho m6_204 dX13_nameHere_21 ?_
      refine lv_iload_n hx hb dX13_nameHere_24 rfl (lv_at hl 1 rfl) ?_
      obtain ⟨a3, ha3, hf⟩ := bnd hf
      replace ha3 := cha_some ha3
      obtain ⟨j4, hj4, hf⟩ := bnd hf
      refine hw_bald hx hb hKs hH ha3.1 ha3.2 hj4 dX13_nameHere_25 ?_
      refine lv_i2l (v := ((aI w a3.1 j4).toInt64)) hx hb dX13_nameHere_26 rfl ?_
      refine lv_ladd hx hb dX13_nameHere_27 ?_
      refine lv_ldc2 (v := 96) hx hb hown (hts _ m9_95) dX13_nameHere_28 ?_
      refine lv_lsub hx hb dX13_nameHere_31 ?_
      refine lv_lstore_n (i := 1) (lv' := [(1, .long (((27 * v1_7) + ((aI w a3.1 j4).toInt64)) - 96)), (3, .int v3_7), (0, rv E (some o))]) hx hb dX13_nameHere_32 rfl hl (by decide) rfl (fun ls hl => ?_)
      refine lv_iinc (v := (v3_7 + 1)) (lv' := [(3, .int ((v3_7 + 1))), (1, .long (((27 * v1_7) + ((aI w a3.1 j4).toInt64)) - 96)), (0, rv E (some o))]) hx hb dX13_nameHere_33 hl (k := 1) rfl rfl (by decide) rfl (fun ls hl => ?_)
      refine lv_goto (tgt := 7) hx hb dX13_nameHere_36 (by decide) ?_
      exact ih (((27 * v1_7) + ((aI w a3.1 j4).toInt64)) - 96) (v3_7 + 1) _ _ _ _ hH (lv_sub hl [1, 0, 2] rfl) hf
set_option maxHeartbeats 4000000 in
set_option maxRecDepth 100000 in
theorem k_X13_nameHere (l : Launch) (E : Ev) (K : Kd) (z : Nat) (o : Nat) (w : Wd) (ho : K o = some (11, 0)) {r : Int64} {w' : Wd} (hf : f_X13_nameHere K o w = some (r, w')) : Met l yX13_nameHere (Cond.code yX13_nameHere cX13_nameHere 4 (Option.some Jvm.ClassFile.FieldType.long) :: bt) ({ frames := 0, cells := 0, slots := 0, locals := 0 } : Room) (va_Pc [rv E (some o)] (HB E K w z)) (QL E K z w' r) 0 0 (hA E) := by
  refine Met.ofW (cc := cX13_nameHere) (maxL := 4) (ret := (Option.some Jvm.ClassFile.FieldType.long)) (by decide) rfl ?_
  intro p e s m args below meth c s₁ B hml hv
  obtain ⟨rfl, hz, hP, hKs, hT, hb0⟩ := hv
  have C : CX p l e s m _ meth c cX13_nameHere 4 RX13 (Option.some Jvm.ClassFile.FieldType.long) E := ⟨B.exec, B.bytes, hml, findClass_of_methodNamed B.named, fun w h => atoms_spec (ws := Cond.code yX13_nameHere cX13_nameHere 4 (Option.some Jvm.ClassFile.FieldType.long) :: bt) B.pre w (List.mem_cons_of_mem _ h), hKs, hT, by rw [hz]; exact hb0, B.notSynchronized, B.returns⟩
  have hH : HQ E K z w s s.heap [] := ⟨hP, va_S.rf, hz⟩
  obtain ⟨hx, hb, hml, hown, hts, hKs, hT, hb0, hlocks, hret⟩ := id C
  have hl := lv_entry [rv E (some o)] (n := 4) (by simp [lg_len_nil, lg_len_i, lg_len_j, lg_len_q, lg_len_f, lg_len_d, lg_len_r])
  rw [lg_entry_eq]
  generalize (lg_sl [rv E (some o)] ++ List.replicate (4 - (lg_sl [rv E (some o)]).length) Slot.unset).toArray = ls at hl ⊢
  replace hl : lv_has ls 4 [(0, rv E (some o))] := by simpa only [lv_args, cat_q, cat_i, cat_j, reduceIte, Nat.reduceEqDiff, Nat.reduceAdd, Nat.zero_add] using hl
  generalize s.heap = H at hH ⊢
  unfold f_X13_nameHere at hf
  refine lv_lconst (v := 0) hx hb dX13_nameHere_0 rfl ?_
  refine lv_lstore_n (i := 1) (lv' := [(1, .long 0), (0, rv E (some o))]) hx hb dX13_nameHere_1 rfl hl (by decide) rfl (fun ls hl => ?_)
  refine hl_aload_n hx hb dX13_nameHere_2 rfl (lv_at hl 1 rfl) ?_
  refine g13_27 hx hb hts hown hKs hH rfl ho m6_208 dX13_nameHere_3 ?_
  refine lv_istore_n (i := 3) (lv' := [(3, .int ((wI w 1327 o))), (1, .long 0), (0, rv E (some o))]) hx hb dX13_nameHere_6 rfl hl (by decide) rfl (fun ls hl => ?_)
  refine l_X13_nameHere_L7  C ho _ (fun v1_7 v3_7 w1 H locs ls hH hl hf => ?_) fu 0 (wI w 1327 o) w _ _ _ hH (lv_sub hl [1, 0, 2] rfl) hf
  refine lv_lload_n hx hb dX13_nameHere_39 rfl (lv_at hl 0 rfl) ?_
  exact hw_lret hx hb hret hf hH hlocks dX13_nameHere_40

theorem dX13_placeOf_0 : decode cX13_placeOf 0 = .ok (.iconst 0, 1) := by decide +kernel
theorem dX13_placeOf_1 : decode cX13_placeOf 1 = .ok (.istore 4, 2) := by decide +kernel
theorem dX13_placeOf_3 : decode cX13_placeOf 3 = .ok (.iload 4, 2) := by decide +kernel
theorem dX13_placeOf_5 : decode cX13_placeOf 5 = .ok (.iload_n 3, 1) := by decide +kernel
theorem dX13_placeOf_6 : decode cX13_placeOf 6 = .ok (.if_icmp .ge 21, 3) := by decide +kernel
theorem dX13_placeOf_9 : decode cX13_placeOf 9 = .ok (.aload_n 2, 1) := by decide +kernel
theorem dX13_placeOf_10 : decode cX13_placeOf 10 = .ok (.iload 4, 2) := by decide +kernel
theorem dX13_placeOf_12 : decode cX13_placeOf 12 = .ok (.laload, 1) := by decide +kernel
theorem dX13_placeOf_13 : decode cX13_placeOf 13 = .ok (.lload_n 0, 1) := by decide +kernel
theorem dX13_placeOf_14 : decode cX13_placeOf 14 = .ok (.lcmp, 1) := by decide +kernel
theorem dX13_placeOf_15 : decode cX13_placeOf 15 = .ok (.ifCond .ne 6, 3) := by decide +kernel
theorem dX13_placeOf_18 : decode cX13_placeOf 18 = .ok (.iload 4, 2) := by decide +kernel
theorem dX13_placeOf_20 : decode cX13_placeOf 20 = .ok (.ireturn, 1) := by decide +kernel
theorem dX13_placeOf_21 : decode cX13_placeOf 21 = .ok (.iinc 4 1, 3) := by decide +kernel
theorem dX13_placeOf_24 : decode cX13_placeOf 24 = .ok (.goto (-21), 3) := by decide +kernel
theorem dX13_placeOf_27 : decode cX13_placeOf 27 = .ok (.iconst (-1), 1) := by decide +kernel
theorem dX13_placeOf_28 : decode cX13_placeOf 28 = .ok (.ireturn, 1) := by decide +kernel
theorem hs_X13_placeOf : yX13_placeOf.cls ≠ "java/lang/invoke/MethodHandle" ∧ yX13_placeOf.cls ≠ "java/lang/invoke/VarHandle" ∧ (parseMethodDescriptor yX13_placeOf.desc).map (fun d => d.parameters.length) = some 3 := by decide +kernel
set_option maxHeartbeats 4000000 in
set_option maxRecDepth 100000 in
theorem l_X13_placeOf_L3 (C : CX p l e s m args meth c cX13_placeOf 5 RX13 (Option.some Jvm.ClassFile.FieldType.int) E) {r : Int32} {w' : Wd} (k : Int64 → Option Nat → Int32 → Int32 → Wd → Option (Int32 × Wd)) (hk : ∀ (v0_3 : Int64) (v2_3 : Option Nat) (v3_3 : Int32) (v4_3 : Int32) (w : Wd) (H : Heap) (locs : List Loc) (ls : Array Slot), HQ E K z w s H locs → lv_has ls 5 [(0, .long v0_3), (2, rv E v2_3), (3, .int v3_3), (4, .int v4_3)] → k v0_3 v2_3 v3_3 v4_3 w = some (r, w') → W p l e ({ frames := 0, cells := 0, slots := 0, locals := 0 } : Room) s m args below meth c H locs 0 0 (MQ below (QI E K z w' r) args s 0 0 (hA E)) (F0 m 27 ls [])) : ∀ (n : Nat) (v0_3 : Int64) (v2_3 : Option Nat) (v3_3 : Int32) (v4_3 : Int32) (w : Wd) (H : Heap) (locs : List Loc) (ls : Array Slot), HQ E K z w s H locs → lv_has ls 5 [(0, .long v0_3), (2, rv E v2_3), (3, .int v3_3), (4, .int v4_3)] → f_X13_placeOf_L3 K k n v0_3 v2_3 v3_3 v4_3 w = some (r, w') → W p l e ({ frames := 0, cells := 0, slots := 0, locals := 0 } : Room) s m args below meth c H locs 0 0 (MQ below (QI E K z w' r) args s 0 0 (hA E)) (F0 m 3 ls []) := by
  obtain ⟨hx, hb, hml, hown, hts, hKs, hT, hb0, hlocks, hret⟩ := id C
  intro n
  induction n with
  | zero =>
    intro v0_3 v2_3 v3_3 v4_3 w H locs ls hH hl hf
    cases hf
  | succ n ih =>
    intro v0_3 v2_3 v3_3 v4_3 w H locs ls hH hl hf
    rw [f_X13_placeOf_L3] at hf
    refine lv_iload hx hb dX13_placeOf_3 (lv_at hl 3 rfl) ?_
    refine lv_iload_n hx hb dX13_placeOf_5 rfl (lv_at hl 2 rfl) ?_
    refine lv_icmp_ge (tgt := 27) hx hb dX13_placeOf_6 (by decide) (fun c2 => ?_) (fun c2 => ?_)
    · replace hf := (if_pos c2).symm.trans hf
      exact hk v0_3 v2_3 v3_3 v4_3 _ _ _ _ hH (lv_sub hl [0, 1, 2, 3] rfl) hf
    · replace hf := (if_neg c2).symm.trans hf
      refine hl_aload_n hx hb dX13_placeOf_9 rfl (lv_at hl 1 rfl) ?_
      refine lv_iload hx hb dX13_placeOf_10 (lv_at hl 3 rfl) ?_
      obtain ⟨a3, ha3, hf⟩ := bnd hf
      replace ha3 := cha_some ha3
      obtain ⟨j4, hj4, hf⟩ := bnd hf
      refine hw_lald hx hb hKs hH ha3.1 ha3.2 hj4 dX13_placeOf_12 ?_
      refine lv_lload_n hx hb dX13_placeOf_13 rfl (lv_at hl 0 rfl) ?_
      refine W.lcmp hx hb dX13_placeOf_14 ?_
      refine lv_if_ne (tgt := 21) hx hb dX13_placeOf_15 (by decide) (fun c5 => ?_) (fun c5 => ?_)
      · replace hf := (if_neg c5).symm.trans hf
        refine lv_iinc (v := (v4_3 + 1)) (lv' := [(4, .int ((v4_3 + 1))), (0, .long v0_3), (2, rv E v2_3), (3, .int v3_3)]) hx hb dX13_placeOf_21 hl (k := 3) rfl rfl (by decide) rfl (fun ls hl => ?_)
        refine lv_goto (tgt := 3) hx hb dX13_placeOf_24 (by decide) ?_
        exact ih v0_3 v2_3 v3_3 (v4_3 + 1) _ _ _ _ hH (lv_sub hl [1, 2, 3, 0] rfl) hf
      · replace hf := (if_pos c5).symm.trans hf
        refine lv_iload hx hb dX13_placeOf_18 (lv_at hl 3 rfl) ?_
        exact hw_iret hx hb hret hf hH hlocks dX13_placeOf_20
set_option maxHeartbeats 4000000 in
set_option maxRecDepth 100000 in
theorem k_X13_placeOf (l : Launch) (E : Ev) (K : Kd) (z : Nat) (a_0 : Int64) (a_2 : Option Nat) (a_3 : Int32) (w : Wd) {r : Int32} {w' : Wd} (hf : f_X13_placeOf K a_0 a_2 a_3 w = some (r, w')) : Met l yX13_placeOf (Cond.code yX13_placeOf cX13_placeOf 5 (Option.some Jvm.ClassFile.FieldType.int) :: bt) ({ frames := 0, cells := 0, slots := 0, locals := 0 } : Room) (va_Pc [.long a_0, rv E a_2, .int a_3] (HB E K w z)) (QI E K z w' r) 0 0 (hA E) := by
  refine Met.ofW (cc := cX13_placeOf) (maxL := 5) (ret := (Option.some Jvm.ClassFile.FieldType.int)) (by decide) rfl ?_
  intro p e s m args below meth c s₁ B hml hv
  obtain ⟨rfl, hz, hP, hKs, hT, hb0⟩ := hv
  have C : CX p l e s m _ meth c cX13_placeOf 5 RX13 (Option.some Jvm.ClassFile.FieldType.int) E := ⟨B.exec, B.bytes, hml, findClass_of_methodNamed B.named, fun w h => atoms_spec (ws := Cond.code yX13_placeOf cX13_placeOf 5 (Option.some Jvm.ClassFile.FieldType.int) :: bt) B.pre w (List.mem_cons_of_mem _ h), hKs, hT, by rw [hz]; exact hb0, B.notSynchronized, B.returns⟩
  have hH : HQ E K z w s s.heap [] := ⟨hP, va_S.rf, hz⟩
  obtain ⟨hx, hb, hml, hown, hts, hKs, hT, hb0, hlocks, hret⟩ := id C
  have hl := lv_entry [.long a_0, rv E a_2, .int a_3] (n := 5) (by simp [lg_len_nil, lg_len_i, lg_len_j, lg_len_q, lg_len_f, lg_len_d, lg_len_r])
  rw [lg_entry_eq]
  generalize (lg_sl [.long a_0, rv E a_2, .int a_3] ++ List.replicate (5 - (lg_sl [.long a_0, rv E a_2, .int a_3]).length) Slot.unset).toArray = ls at hl ⊢
  replace hl : lv_has ls 5 [(0, .long a_0), (2, rv E a_2), (3, .int a_3)] := by simpa only [lv_args, cat_q, cat_i, cat_j, reduceIte, Nat.reduceEqDiff, Nat.reduceAdd, Nat.zero_add] using hl
  generalize s.heap = H at hH ⊢
  unfold f_X13_placeOf at hf
  refine lv_iconst (v := 0) hx hb dX13_placeOf_0 (by decide) ?_
  refine lv_istore (i := 4) (lv' := [(4, .int 0), (0, .long a_0), (2, rv E a_2), (3, .int a_3)]) hx hb dX13_placeOf_1 hl (by decide) rfl (fun ls hl => ?_)
  refine l_X13_placeOf_L3  C _ (fun v0_3 v2_3 v3_3 v4_3 w1 H locs ls hH hl hf => ?_) fu a_0 a_2 a_3 0 w _ _ _ hH (lv_sub hl [1, 2, 3, 0] rfl) hf
  refine lv_iconst (v := (-1)) hx hb dX13_placeOf_27 (by decide) ?_
  exact hw_iret hx hb hret hf hH hlocks dX13_placeOf_28

theorem dX13_needsName_0 : decode cX13_needsName 0 = .ok (.aload_n 0, 1) := by decide +kernel
theorem dX13_needsName_1 : decode cX13_needsName 1 = .ok (.aload_n 0, 1) := by decide +kernel
theorem dX13_needsName_2 : decode cX13_needsName 2 = .ok (.getfield 346, 3) := by decide +kernel
theorem dX13_needsName_5 : decode cX13_needsName 5 = .ok (.iconst 1, 1) := by decide +kernel
theorem dX13_needsName_6 : decode cX13_needsName 6 = .ok (.if_icmp .ne 29, 3) := by decide +kernel
theorem dX13_needsName_9 : decode cX13_needsName 9 = .ok (.aload_n 0, 1) := by decide +kernel
theorem dX13_needsName_10 : decode cX13_needsName 10 = .ok (.getfield 356, 3) := by decide +kernel
theorem dX13_needsName_13 : decode cX13_needsName 13 = .ok (.iconst (-1), 1) := by decide +kernel
theorem dX13_needsName_14 : decode cX13_needsName 14 = .ok (.if_icmp .ne 21, 3) := by decide +kernel
theorem dX13_needsName_17 : decode cX13_needsName 17 = .ok (.aload_n 0, 1) := by decide +kernel
theorem dX13_needsName_18 : decode cX13_needsName 18 = .ok (.getfield 337, 3) := by decide +kernel
theorem dX13_needsName_21 : decode cX13_needsName 21 = .ok (.aload_n 0, 1) := by decide +kernel
theorem dX13_needsName_22 : decode cX13_needsName 22 = .ok (.getfield 343, 3) := by decide +kernel
theorem dX13_needsName_25 : decode cX13_needsName 25 = .ok (.isub, 1) := by decide +kernel
theorem dX13_needsName_26 : decode cX13_needsName 26 = .ok (.bipush 8, 2) := by decide +kernel
theorem dX13_needsName_28 : decode cX13_needsName 28 = .ok (.if_icmp .gt 7, 3) := by decide +kernel
theorem dX13_needsName_31 : decode cX13_needsName 31 = .ok (.iconst 1, 1) := by decide +kernel
theorem dX13_needsName_32 : decode cX13_needsName 32 = .ok (.goto 4, 3) := by decide +kernel
theorem dX13_needsName_35 : decode cX13_needsName 35 = .ok (.iconst 0, 1) := by decide +kernel
theorem dX13_needsName_36 : decode cX13_needsName 36 = .ok (.iconst 1, 1) := by decide +kernel
theorem dX13_needsName_37 : decode cX13_needsName 37 = .ok (.invokevirtual 392, 3) := by decide +kernel
theorem dX13_needsName_40 : decode cX13_needsName 40 = .ok (.return_, 1) := by decide +kernel
theorem hd_X13_needsName : yX13_needsName.cls = RX13 ∧ yX13_needsName.cls ≠ "java/lang/invoke/MethodHandle" ∧ yX13_needsName.cls ≠ "java/lang/invoke/VarHandle" ∧ (parseMethodDescriptor yX13_needsName.desc).map (fun d => d.parameters.length) = some 0 := by decide +kernel
theorem hs_X13_needsName : yX13_needsName.cls ≠ "java/lang/invoke/MethodHandle" ∧ yX13_needsName.cls ≠ "java/lang/invoke/VarHandle" ∧ (parseMethodDescriptor yX13_needsName.desc).map (fun d => d.parameters.length) = some 0 := by decide +kernel
set_option maxHeartbeats 4000000 in
set_option maxRecDepth 100000 in
theorem k_X13_needsName (l : Launch) (E : Ev) (K : Kd) (z : Nat) (o : Nat) (w : Wd) (ho : K o = some (11, 0)) {w' : Wd} (hf : f_X13_needsName K o w = some w') : Met l yX13_needsName (Cond.code yX13_needsName cX13_needsName 1 (Option.none : Option Jvm.ClassFile.FieldType) :: bt) ({ frames := 1, cells := 0, slots := 0, locals := 22 } : Room) (va_Pc [rv E (some o)] (HB E K w z)) (QV E K z w') 0 0 (hA E) := by
  refine Met.ofW (cc := cX13_needsName) (maxL := 1) (ret := (Option.none : Option Jvm.ClassFile.FieldType)) (by decide) rfl ?_
  intro p e s m args below meth c s₁ B hml hv
  obtain ⟨rfl, hz, hP, hKs, hT, hb0⟩ := hv
  have C : CX p l e s m _ meth c cX13_needsName 1 RX13 (Option.none : Option Jvm.ClassFile.FieldType) E := ⟨B.exec, B.bytes, hml, findClass_of_methodNamed B.named, fun w h => atoms_spec (ws := Cond.code yX13_needsName cX13_needsName 1 (Option.none : Option Jvm.ClassFile.FieldType) :: bt) B.pre w (List.mem_cons_of_mem _ h), hKs, hT, by rw [hz]; exact hb0, B.notSynchronized, B.returns⟩
  have hH : HQ E K z w s s.heap [] := ⟨hP, va_S.rf, hz⟩
  obtain ⟨hx, hb, hml, hown, hts, hKs, hT, hb0, hlocks, hret⟩ := id C
  have hl := lv_entry [rv E (some o)] (n := 1) (by simp [lg_len_nil, lg_len_i, lg_len_j, lg_len_q, lg_len_f, lg_len_d, lg_len_r])
  rw [lg_entry_eq]
  generalize (lg_sl [rv E (some o)] ++ List.replicate (1 - (lg_sl [rv E (some o)]).length) Slot.unset).toArray = ls at hl ⊢
  replace hl : lv_has ls 1 [(0, rv E (some o))] := by simpa only [lv_args, cat_q, cat_i, cat_j, reduceIte, Nat.reduceEqDiff, Nat.reduceAdd, Nat.zero_add] using hl
  generalize s.heap = H at hH ⊢
  unfold f_X13_needsName at hf
  refine hl_aload_n hx hb dX13_needsName_0 rfl (lv_at hl 0 rfl) ?_
  refine hl_aload_n hx hb dX13_needsName_1 rfl (lv_at hl 0 rfl) ?_
  refine g13_28 hx hb hts hown hKs hH rfl ho m6_209 dX13_needsName_2 ?_
  refine lv_iconst (v := 1) hx hb dX13_needsName_5 (by decide) ?_
  refine lv_icmp_ne (tgt := 35) hx hb dX13_needsName_6 (by decide) (fun c1 => ?_) (fun c1 => ?_)
  · replace hf := (if_neg c1).symm.trans hf
    refine lv_iconst (v := 0) hx hb dX13_needsName_35 (by decide) ?_
    refine lv_iconst (v := 1) hx hb dX13_needsName_36 (by decide) ?_
    obtain ⟨q2, hq2, hf⟩ := bnd hf
    refine hcV_v hx hb hml hown hts hKs hT hb0 hH (As := [.int 0, .int 1]) (rest := []) (k_X13_needs l E K H.size o false 1 w ho hq2) (gV m9_66 m9_68 ms_109 m1_16 m9_69) hd_X13_needs ⟨Nat.le_of_ble_eq_true rfl, Nat.le_of_ble_eq_true rfl, rfl, rfl⟩ rfl ho rfl rfl rfl hl.1 rfl rc0 rfl dX13_needsName_37 ⟨Nat.zero_le _, Nat.zero_le _⟩ (fun H locs hH => ?_)
    exact hw_vret hx hb hret hf hH hlocks dX13_needsName_40
  · replace hf := (if_pos c1).symm.trans hf
    refine hl_aload_n hx hb dX13_needsName_9 rfl (lv_at hl 0 rfl) ?_
    refine g13_29 hx hb hts hown hKs hH rfl ho m6_210 dX13_needsName_10 ?_
    refine lv_iconst (v := (-1)) hx hb dX13_needsName_13 (by decide) ?_
    refine lv_icmp_ne (tgt := 35) hx hb dX13_needsName_14 (by decide) (fun c3 => ?_) (fun c3 => ?_)
    · replace hf := (if_neg c3).symm.trans hf
      refine lv_iconst (v := 0) hx hb dX13_needsName_35 (by decide) ?_
      refine lv_iconst (v := 1) hx hb dX13_needsName_36 (by decide) ?_
      obtain ⟨q4, hq4, hf⟩ := bnd hf
      refine hcV_v hx hb hml hown hts hKs hT hb0 hH (As := [.int 0, .int 1]) (rest := []) (k_X13_needs l E K H.size o false 1 w ho hq4) (gV m9_66 m9_68 ms_109 m1_16 m9_69) hd_X13_needs ⟨Nat.le_of_ble_eq_true rfl, Nat.le_of_ble_eq_true rfl, rfl, rfl⟩ rfl ho rfl rfl rfl hl.1 rfl rc0 rfl dX13_needsName_37 ⟨Nat.zero_le _, Nat.zero_le _⟩ (fun H locs hH => ?_)
      exact hw_vret hx hb hret hf hH hlocks dX13_needsName_40
    · replace hf := (if_pos c3).symm.trans hf
      refine hl_aload_n hx hb dX13_needsName_17 rfl (lv_at hl 0 rfl) ?_
      refine g13_26 hx hb hts hown hKs hH rfl ho m6_207 dX13_needsName_18 ?_
      refine hl_aload_n hx hb dX13_needsName_21 rfl (lv_at hl 0 rfl) ?_
      refine g13_27 hx hb hts hown hKs hH rfl ho m6_208 dX13_needsName_22 ?_
      refine lv_isub hx hb dX13_needsName_25 ?_
      refine lv_bipush (v := 8) hx hb dX13_needsName_26 (by decide) ?_
      refine lv_icmp_gt (tgt := 35) hx hb dX13_needsName_28 (by decide) (fun c5 => ?_) (fun c5 => ?_)
      · replace hf := (if_pos c5).symm.trans hf
        refine lv_iconst (v := 0) hx hb dX13_needsName_35 (by decide) ?_
        refine lv_iconst (v := 1) hx hb dX13_needsName_36 (by decide) ?_
        obtain ⟨q6, hq6, hf⟩ := bnd hf
        refine hcV_v hx hb hml hown hts hKs hT hb0 hH (As := [.int 0, .int 1]) (rest := []) (k_X13_needs l E K H.size o false 1 w ho hq6) (gV m9_66 m9_68 ms_109 m1_16 m9_69) hd_X13_needs ⟨Nat.le_of_ble_eq_true rfl, Nat.le_of_ble_eq_true rfl, rfl, rfl⟩ rfl ho rfl rfl rfl hl.1 rfl rc0 rfl dX13_needsName_37 ⟨Nat.zero_le _, Nat.zero_le _⟩ (fun H locs hH => ?_)
        exact hw_vret hx hb hret hf hH hlocks dX13_needsName_40
      · replace hf := (if_neg c5).symm.trans hf
        refine lv_iconst (v := 1) hx hb dX13_needsName_31 (by decide) ?_
        refine lv_goto (tgt := 36) hx hb dX13_needsName_32 (by decide) ?_
        refine lv_iconst (v := 1) hx hb dX13_needsName_36 (by decide) ?_
        obtain ⟨q7, hq7, hf⟩ := bnd hf
        refine hcV_v hx hb hml hown hts hKs hT hb0 hH (As := [.int 1, .int 1]) (rest := []) (k_X13_needs l E K H.size o true 1 w ho hq7) (gV m9_66 m9_68 ms_109 m1_16 m9_69) hd_X13_needs ⟨Nat.le_of_ble_eq_true rfl, Nat.le_of_ble_eq_true rfl, rfl, rfl⟩ rfl ho rfl rfl rfl hl.1 rfl rc0 rfl dX13_needsName_37 ⟨Nat.zero_le _, Nat.zero_le _⟩ (fun H locs hH => ?_)
        exact hw_vret hx hb hret hf hH hlocks dX13_needsName_40

theorem dX13_known_0 : decode cX13_known 0 = .ok (.aload_n 0, 1) := by decide +kernel
theorem dX13_known_1 : decode cX13_known 1 = .ok (.invokevirtual 412, 3) := by decide +kernel
theorem dX13_known_4 : decode cX13_known 4 = .ok (.aload_n 0, 1) := by decide +kernel
theorem dX13_known_5 : decode cX13_known 5 = .ok (.invokevirtual 379, 3) := by decide +kernel
theorem dX13_known_8 : decode cX13_known 8 = .ok (.ifCond .ne 5, 3) := by decide +kernel
theorem dX13_known_11 : decode cX13_known 11 = .ok (.iconst 0, 1) := by decide +kernel
theorem dX13_known_12 : decode cX13_known 12 = .ok (.ireturn, 1) := by decide +kernel
theorem dX13_known_13 : decode cX13_known 13 = .ok (.aload_n 0, 1) := by decide +kernel
theorem dX13_known_14 : decode cX13_known 14 = .ok (.invokevirtual 415, 3) := by decide +kernel
theorem dX13_known_17 : decode cX13_known 17 = .ok (.aload_n 1, 1) := by decide +kernel
theorem dX13_known_18 : decode cX13_known 18 = .ok (.iload_n 2, 1) := by decide +kernel
theorem dX13_known_19 : decode cX13_known 19 = .ok (.invokestatic 419, 3) := by decide +kernel
theorem dX13_known_22 : decode cX13_known 22 = .ok (.istore_n 3, 1) := by decide +kernel
theorem dX13_known_23 : decode cX13_known 23 = .ok (.aload_n 0, 1) := by decide +kernel
theorem dX13_known_24 : decode cX13_known 24 = .ok (.iload_n 3, 1) := by decide +kernel
theorem dX13_known_25 : decode cX13_known 25 = .ok (.iconst (-1), 1) := by decide +kernel
theorem dX13_known_26 : decode cX13_known 26 = .ok (.if_icmp .eq 7, 3) := by decide +kernel
theorem dX13_known_29 : decode cX13_known 29 = .ok (.iconst 1, 1) := by decide +kernel
theorem dX13_known_30 : decode cX13_known 30 = .ok (.goto 4, 3) := by decide +kernel
theorem dX13_known_33 : decode cX13_known 33 = .ok (.iconst 0, 1) := by decide +kernel
theorem dX13_known_34 : decode cX13_known 34 = .ok (.iconst 3, 1) := by decide +kernel
theorem dX13_known_35 : decode cX13_known 35 = .ok (.invokevirtual 392, 3) := by decide +kernel
theorem dX13_known_38 : decode cX13_known 38 = .ok (.iload_n 3, 1) := by decide +kernel
theorem dX13_known_39 : decode cX13_known 39 = .ok (.ireturn, 1) := by decide +kernel
theorem hd_X13_known : yX13_known.cls = RX13 ∧ yX13_known.cls ≠ "java/lang/invoke/MethodHandle" ∧ yX13_known.cls ≠ "java/lang/invoke/VarHandle" ∧ (parseMethodDescriptor yX13_known.desc).map (fun d => d.parameters.length) = some 2 := by decide +kernel
theorem hs_X13_known : yX13_known.cls ≠ "java/lang/invoke/MethodHandle" ∧ yX13_known.cls ≠ "java/lang/invoke/VarHandle" ∧ (parseMethodDescriptor yX13_known.desc).map (fun d => d.parameters.length) = some 2 := by decide +kernel
set_option maxHeartbeats 4000000 in
set_option maxRecDepth 100000 in
theorem k_X13_known (l : Launch) (E : Ev) (K : Kd) (z : Nat) (o : Nat) (a_1 : Option Nat) (a_2 : Int32) (w : Wd) (ho : K o = some (11, 0)) {r : Int32} {w' : Wd} (hf : f_X13_known K o a_1 a_2 w = some (r, w')) : Met l yX13_known (Cond.code yX13_known cX13_known 4 (Option.some Jvm.ClassFile.FieldType.int) :: bt) ({ frames := 2, cells := 0, slots := 0, locals := 42 } : Room) (va_Pc [rv E (some o), rv E a_1, .int a_2] (HB E K w z)) (QI E K z w' r) 0 0 (hA E) := by
  refine Met.ofW (cc := cX13_known) (maxL := 4) (ret := (Option.some Jvm.ClassFile.FieldType.int)) (by decide) rfl ?_
  intro p e s m args below meth c s₁ B hml hv
  obtain ⟨rfl, hz, hP, hKs, hT, hb0⟩ := hv
  have C : CX p l e s m _ meth c cX13_known 4 RX13 (Option.some Jvm.ClassFile.FieldType.int) E := ⟨B.exec, B.bytes, hml, findClass_of_methodNamed B.named, fun w h => atoms_spec (ws := Cond.code yX13_known cX13_known 4 (Option.some Jvm.ClassFile.FieldType.int) :: bt) B.pre w (List.mem_cons_of_mem _ h), hKs, hT, by rw [hz]; exact hb0, B.notSynchronized, B.returns⟩
  have hH : HQ E K z w s s.heap [] := ⟨hP, va_S.rf, hz⟩
  obtain ⟨hx, hb, hml, hown, hts, hKs, hT, hb0, hlocks, hret⟩ := id C
  have hl := lv_entry [rv E (some o), rv E a_1, .int a_2] (n := 4) (by simp [lg_len_nil, lg_len_i, lg_len_j, lg_len_q, lg_len_f, lg_len_d, lg_len_r])
  rw [lg_entry_eq]
  generalize (lg_sl [rv E (some o), rv E a_1, .int a_2] ++ List.replicate (4 - (lg_sl [rv E (some o), rv E a_1, .int a_2]).length) Slot.unset).toArray = ls at hl ⊢
  replace hl : lv_has ls 4 [(0, rv E (some o)), (1, rv E a_1), (2, .int a_2)] := by simpa only [lv_args, cat_q, cat_i, cat_j, reduceIte, Nat.reduceEqDiff, Nat.reduceAdd, Nat.zero_add] using hl
  generalize s.heap = H at hH ⊢
  unfold f_X13_known at hf
  refine hl_aload_n hx hb dX13_known_0 rfl (lv_at hl 0 rfl) ?_
  obtain ⟨q1, hq1, hf⟩ := bnd hf
  refine hcV_v hx hb hml hown hts hKs hT hb0 hH (As := []) (rest := []) (k_X13_needsName l E K H.size o w ho hq1) (gV m9_86 m9_88 ms_114 m1_16 m9_89) hd_X13_needsName ⟨Nat.le_of_ble_eq_true rfl, Nat.le_of_ble_eq_true rfl, rfl, rfl⟩ rfl ho rfl rfl rfl hl.1 rfl rc0 rfl dX13_known_1 ⟨Nat.zero_le _, Nat.zero_le _⟩ (fun H locs hH => ?_)
  refine hl_aload_n hx hb dX13_known_4 rfl (lv_at hl 0 rfl) ?_
  obtain ⟨q2, hq2, hf⟩ := bnd hf
  refine hcV_i hx hb hml hown hts hKs hT hb0 hH (As := []) (rest := []) (k_X13_fine l E K H.size o q1 ho hq2) (gV m9_46 m9_48 ms_104 m1_16 m9_49) hd_X13_fine ⟨Nat.le_of_ble_eq_true rfl, Nat.le_of_ble_eq_true rfl, rfl, rfl⟩ rfl ho rfl rfl rfl hl.1 rfl rc0 rfl dX13_known_5 ⟨Nat.zero_le _, Nat.zero_le _⟩ (fun H locs hH => ?_)
  refine lv_if_ne (tgt := 13) hx hb dX13_known_8 (by decide) (fun c3 => ?_) (fun c3 => ?_)
  · replace hf := (if_neg c3).symm.trans hf
    refine hl_aload_n hx hb dX13_known_13 rfl (lv_at hl 0 rfl) ?_
    obtain ⟨q4, hq4, hf⟩ := bnd hf
    refine hcV_l hx hb hml hown hts hKs hT hb0 hH (As := []) (rest := []) (k_X13_nameHere l E K H.size o q2.2 ho hq4) (gV m9_90 m9_92 ms_115 m1_16 m9_93) hd_X13_nameHere ⟨Nat.le_of_ble_eq_true rfl, Nat.le_of_ble_eq_true rfl, rfl, rfl⟩ rfl ho rfl rfl rfl hl.1 rfl rc0 rfl dX13_known_14 ⟨Nat.zero_le _, Nat.zero_le _⟩ (fun H locs hH => ?_)
    refine hl_aload_n hx hb dX13_known_17 rfl (lv_at hl 1 rfl) ?_
    refine lv_iload_n hx hb dX13_known_18 rfl (lv_at hl 2 rfl) ?_
    obtain ⟨q5, hq5, hf⟩ := bnd hf
    refine hcS_i hx hb hml hown hts hKs hT hb0 hH (As := [.long q4.1, rv E a_1, .int a_2]) (rest := []) (k_X13_placeOf l E K H.size q4.1 a_1 a_2 q4.2 hq5) (gS m9_96 m9_97 m1_16 m9_98) hs_X13_placeOf ⟨Nat.le_of_ble_eq_true rfl, Nat.le_of_ble_eq_true rfl, rfl, rfl⟩ hl.1 rfl rc0 rfl dX13_known_19 ⟨Nat.zero_le _, Nat.zero_le _⟩ (fun H locs hH => ?_)
    refine lv_istore_n (i := 3) (lv' := [(3, .int (q5.1)), (0, rv E (some o)), (1, rv E a_1), (2, .int a_2)]) hx hb dX13_known_22 rfl hl (by decide) rfl (fun ls hl => ?_)
    refine hl_aload_n hx hb dX13_known_23 rfl (lv_at hl 1 rfl) ?_
    refine lv_iload_n hx hb dX13_known_24 rfl (lv_at hl 0 rfl) ?_
    refine lv_iconst (v := (-1)) hx hb dX13_known_25 (by decide) ?_
    refine lv_icmp_eq (tgt := 33) hx hb dX13_known_26 (by decide) (fun c6 => ?_) (fun c6 => ?_)
    · replace hf := (if_pos c6).symm.trans hf
      refine lv_iconst (v := 0) hx hb dX13_known_33 (by decide) ?_
      refine lv_iconst (v := 3) hx hb dX13_known_34 (by decide) ?_
      obtain ⟨q7, hq7, hf⟩ := bnd hf
      refine hcV_v hx hb hml hown hts hKs hT hb0 hH (As := [.int 0, .int 3]) (rest := []) (k_X13_needs l E K H.size o false 3 q5.2 ho hq7) (gV m9_66 m9_68 ms_109 m1_16 m9_69) hd_X13_needs ⟨Nat.le_of_ble_eq_true rfl, Nat.le_of_ble_eq_true rfl, rfl, rfl⟩ rfl ho rfl rfl rfl hl.1 rfl rc0 rfl dX13_known_35 ⟨Nat.zero_le _, Nat.zero_le _⟩ (fun H locs hH => ?_)
      refine lv_iload_n hx hb dX13_known_38 rfl (lv_at hl 0 rfl) ?_
      exact hw_iret hx hb hret hf hH hlocks dX13_known_39
    · replace hf := (if_neg c6).symm.trans hf
      refine lv_iconst (v := 1) hx hb dX13_known_29 (by decide) ?_
      refine lv_goto (tgt := 34) hx hb dX13_known_30 (by decide) ?_
      refine lv_iconst (v := 3) hx hb dX13_known_34 (by decide) ?_
      obtain ⟨q8, hq8, hf⟩ := bnd hf
      refine hcV_v hx hb hml hown hts hKs hT hb0 hH (As := [.int 1, .int 3]) (rest := []) (k_X13_needs l E K H.size o true 3 q5.2 ho hq8) (gV m9_66 m9_68 ms_109 m1_16 m9_69) hd_X13_needs ⟨Nat.le_of_ble_eq_true rfl, Nat.le_of_ble_eq_true rfl, rfl, rfl⟩ rfl ho rfl rfl rfl hl.1 rfl rc0 rfl dX13_known_35 ⟨Nat.zero_le _, Nat.zero_le _⟩ (fun H locs hH => ?_)
      refine lv_iload_n hx hb dX13_known_38 rfl (lv_at hl 0 rfl) ?_
      exact hw_iret hx hb hret hf hH hlocks dX13_known_39
  · replace hf := (if_pos c3).symm.trans hf
    refine lv_iconst (v := 0) hx hb dX13_known_11 (by decide) ?_
    exact hw_iret hx hb hret hf hH hlocks dX13_known_12

theorem dX13_errorCode_0 : decode cX13_errorCode 0 = .ok (.aload_n 0, 1) := by decide +kernel
theorem dX13_errorCode_1 : decode cX13_errorCode 1 = .ok (.iconst 0, 1) := by decide +kernel
theorem dX13_errorCode_2 : decode cX13_errorCode 2 = .ok (.putfield 104, 3) := by decide +kernel
theorem dX13_errorCode_5 : decode cX13_errorCode 5 = .ok (.aload_n 0, 1) := by decide +kernel
theorem dX13_errorCode_6 : decode cX13_errorCode 6 = .ok (.getfield 376, 3) := by decide +kernel
theorem dX13_errorCode_9 : decode cX13_errorCode 9 = .ok (.ireturn, 1) := by decide +kernel
theorem hd_X13_errorCode : yX13_errorCode.cls = RX13 ∧ yX13_errorCode.cls ≠ "java/lang/invoke/MethodHandle" ∧ yX13_errorCode.cls ≠ "java/lang/invoke/VarHandle" ∧ (parseMethodDescriptor yX13_errorCode.desc).map (fun d => d.parameters.length) = some 0 := by decide +kernel
theorem hs_X13_errorCode : yX13_errorCode.cls ≠ "java/lang/invoke/MethodHandle" ∧ yX13_errorCode.cls ≠ "java/lang/invoke/VarHandle" ∧ (parseMethodDescriptor yX13_errorCode.desc).map (fun d => d.parameters.length) = some 0 := by decide +kernel
set_option maxHeartbeats 4000000 in
set_option maxRecDepth 100000 in
theorem k_X13_errorCode (l : Launch) (E : Ev) (K : Kd) (z : Nat) (o : Nat) (w : Wd) (ho : K o = some (11, 0)) {r : Int32} {w' : Wd} (hf : f_X13_errorCode K o w = some (r, w')) : Met l yX13_errorCode (Cond.code yX13_errorCode cX13_errorCode 1 (Option.some Jvm.ClassFile.FieldType.int) :: bt) ({ frames := 0, cells := 0, slots := 0, locals := 0 } : Room) (va_Pc [rv E (some o)] (HB E K w z)) (QI E K z w' r) 0 0 (hA E) := by
  refine Met.ofW (cc := cX13_errorCode) (maxL := 1) (ret := (Option.some Jvm.ClassFile.FieldType.int)) (by decide) rfl ?_
  intro p e s m args below meth c s₁ B hml hv
  obtain ⟨rfl, hz, hP, hKs, hT, hb0⟩ := hv
  have C : CX p l e s m _ meth c cX13_errorCode 1 RX13 (Option.some Jvm.ClassFile.FieldType.int) E := ⟨B.exec, B.bytes, hml, findClass_of_methodNamed B.named, fun w h => atoms_spec (ws := Cond.code yX13_errorCode cX13_errorCode 1 (Option.some Jvm.ClassFile.FieldType.int) :: bt) B.pre w (List.mem_cons_of_mem _ h), hKs, hT, by rw [hz]; exact hb0, B.notSynchronized, B.returns⟩
  have hH : HQ E K z w s s.heap [] := ⟨hP, va_S.rf, hz⟩
  obtain ⟨hx, hb, hml, hown, hts, hKs, hT, hb0, hlocks, hret⟩ := id C
  have hl := lv_entry [rv E (some o)] (n := 1) (by simp [lg_len_nil, lg_len_i, lg_len_j, lg_len_q, lg_len_f, lg_len_d, lg_len_r])
  rw [lg_entry_eq]
  generalize (lg_sl [rv E (some o)] ++ List.replicate (1 - (lg_sl [rv E (some o)]).length) Slot.unset).toArray = ls at hl ⊢
  replace hl : lv_has ls 1 [(0, rv E (some o))] := by simpa only [lv_args, cat_q, cat_i, cat_j, reduceIte, Nat.reduceEqDiff, Nat.reduceAdd, Nat.zero_add] using hl
  generalize s.heap = H at hH ⊢
  unfold f_X13_errorCode at hf
  refine hl_aload_n hx hb dX13_errorCode_0 rfl (lv_at hl 0 rfl) ?_
  refine lv_iconst (v := 0) hx hb dX13_errorCode_1 (by decide) ?_
  obtain ⟨w1, hw1, hf⟩ := bnd hf
  replace hw1 := Option.some.inj hw1
  refine p13_0 (v := 0) hx hb hts hown hKs hH rfl ho m6_181 dX13_errorCode_2 (fun H locs hH => ?_)
  rw [hw1] at hH
  refine hl_aload_n hx hb dX13_errorCode_5 rfl (lv_at hl 0 rfl) ?_
  refine g13_31 hx hb hts hown hKs hH rfl ho m6_212 dX13_errorCode_6 ?_
  exact hw_iret hx hb hret hf hH hlocks dX13_errorCode_9

theorem dX13_errorOffset_0 : decode cX13_errorOffset 0 = .ok (.aload_n 0, 1) := by decide +kernel
theorem dX13_errorOffset_1 : decode cX13_errorOffset 1 = .ok (.iconst 0, 1) := by decide +kernel
theorem dX13_errorOffset_2 : decode cX13_errorOffset 2 = .ok (.putfield 104, 3) := by decide +kernel
theorem dX13_errorOffset_5 : decode cX13_errorOffset 5 = .ok (.aload_n 0, 1) := by decide +kernel
theorem dX13_errorOffset_6 : decode cX13_errorOffset 6 = .ok (.getfield 65, 3) := by decide +kernel
theorem dX13_errorOffset_9 : decode cX13_errorOffset 9 = .ok (.ireturn, 1) := by decide +kernel
theorem hd_X13_errorOffset : yX13_errorOffset.cls = RX13 ∧ yX13_errorOffset.cls ≠ "java/lang/invoke/MethodHandle" ∧ yX13_errorOffset.cls ≠ "java/lang/invoke/VarHandle" ∧ (parseMethodDescriptor yX13_errorOffset.desc).map (fun d => d.parameters.length) = some 0 := by decide +kernel
theorem hs_X13_errorOffset : yX13_errorOffset.cls ≠ "java/lang/invoke/MethodHandle" ∧ yX13_errorOffset.cls ≠ "java/lang/invoke/VarHandle" ∧ (parseMethodDescriptor yX13_errorOffset.desc).map (fun d => d.parameters.length) = some 0 := by decide +kernel
set_option maxHeartbeats 4000000 in
set_option maxRecDepth 100000 in
theorem k_X13_errorOffset (l : Launch) (E : Ev) (K : Kd) (z : Nat) (o : Nat) (w : Wd) (ho : K o = some (11, 0)) {r : Int32} {w' : Wd} (hf : f_X13_errorOffset K o w = some (r, w')) : Met l yX13_errorOffset (Cond.code yX13_errorOffset cX13_errorOffset 1 (Option.some Jvm.ClassFile.FieldType.int) :: bt) ({ frames := 0, cells := 0, slots := 0, locals := 0 } : Room) (va_Pc [rv E (some o)] (HB E K w z)) (QI E K z w' r) 0 0 (hA E) := by
  refine Met.ofW (cc := cX13_errorOffset) (maxL := 1) (ret := (Option.some Jvm.ClassFile.FieldType.int)) (by decide) rfl ?_
  intro p e s m args below meth c s₁ B hml hv
  obtain ⟨rfl, hz, hP, hKs, hT, hb0⟩ := hv
  have C : CX p l e s m _ meth c cX13_errorOffset 1 RX13 (Option.some Jvm.ClassFile.FieldType.int) E := ⟨B.exec, B.bytes, hml, findClass_of_methodNamed B.named, fun w h => atoms_spec (ws := Cond.code yX13_errorOffset cX13_errorOffset 1 (Option.some Jvm.ClassFile.FieldType.int) :: bt) B.pre w (List.mem_cons_of_mem _ h), hKs, hT, by rw [hz]; exact hb0, B.notSynchronized, B.returns⟩
  have hH : HQ E K z w s s.heap [] := ⟨hP, va_S.rf, hz⟩
  obtain ⟨hx, hb, hml, hown, hts, hKs, hT, hb0, hlocks, hret⟩ := id C
  have hl := lv_entry [rv E (some o)] (n := 1) (by simp [lg_len_nil, lg_len_i, lg_len_j, lg_len_q, lg_len_f, lg_len_d, lg_len_r])
  rw [lg_entry_eq]
  generalize (lg_sl [rv E (some o)] ++ List.replicate (1 - (lg_sl [rv E (some o)]).length) Slot.unset).toArray = ls at hl ⊢
  replace hl : lv_has ls 1 [(0, rv E (some o))] := by simpa only [lv_args, cat_q, cat_i, cat_j, reduceIte, Nat.reduceEqDiff, Nat.reduceAdd, Nat.zero_add] using hl
  generalize s.heap = H at hH ⊢
  unfold f_X13_errorOffset at hf
  refine hl_aload_n hx hb dX13_errorOffset_0 rfl (lv_at hl 0 rfl) ?_
  refine lv_iconst (v := 0) hx hb dX13_errorOffset_1 (by decide) ?_
  obtain ⟨w1, hw1, hf⟩ := bnd hf
  replace hw1 := Option.some.inj hw1
  refine p13_0 (v := 0) hx hb hts hown hKs hH rfl ho m6_181 dX13_errorOffset_2 (fun H locs hH => ?_)
  rw [hw1] at hH
  refine hl_aload_n hx hb dX13_errorOffset_5 rfl (lv_at hl 0 rfl) ?_
  refine g13_32 hx hb hts hown hKs hH rfl ho m6_213 dX13_errorOffset_6 ?_
  exact hw_iret hx hb hret hf hH hlocks dX13_errorOffset_9

theorem dX13_says_0 : decode cX13_says 0 = .ok (.aload_n 0, 1) := by decide +kernel
theorem dX13_says_1 : decode cX13_says 1 = .ok (.getfield 80, 3) := by decide +kernel
theorem dX13_says_4 : decode cX13_says 4 = .ok (.aload_n 0, 1) := by decide +kernel
theorem dX13_says_5 : decode cX13_says 5 = .ok (.getfield 477, 3) := by decide +kernel
theorem dX13_says_8 : decode cX13_says 8 = .ok (.iload_n 1, 1) := by decide +kernel
theorem dX13_says_9 : decode cX13_says 9 = .ok (.i2b, 1) := by decide +kernel
theorem dX13_says_10 : decode cX13_says 10 = .ok (.bastore, 1) := by decide +kernel
theorem dX13_says_11 : decode cX13_says 11 = .ok (.aload_n 0, 1) := by decide +kernel
theorem dX13_says_12 : decode cX13_says 12 = .ok (.aload_n 0, 1) := by decide +kernel
theorem dX13_says_13 : decode cX13_says 13 = .ok (.getfield 477, 3) := by decide +kernel
theorem dX13_says_16 : decode cX13_says 16 = .ok (.iconst 1, 1) := by decide +kernel
theorem dX13_says_17 : decode cX13_says 17 = .ok (.iadd, 1) := by decide +kernel
theorem dX13_says_18 : decode cX13_says 18 = .ok (.putfield 477, 3) := by decide +kernel
theorem dX13_says_21 : decode cX13_says 21 = .ok (.return_, 1) := by decide +kernel
theorem hd_X13_says : yX13_says.cls = RX13 ∧ yX13_says.cls ≠ "java/lang/invoke/MethodHandle" ∧ yX13_says.cls ≠ "java/lang/invoke/VarHandle" ∧ (parseMethodDescriptor yX13_says.desc).map (fun d => d.parameters.length) = some 1 := by decide +kernel
theorem hs_X13_says : yX13_says.cls ≠ "java/lang/invoke/MethodHandle" ∧ yX13_says.cls ≠ "java/lang/invoke/VarHandle" ∧ (parseMethodDescriptor yX13_says.desc).map (fun d => d.parameters.length) = some 1 := by decide +kernel
set_option maxHeartbeats 4000000 in
set_option maxRecDepth 100000 in
theorem k_X13_says (l : Launch) (E : Ev) (K : Kd) (z : Nat) (o : Nat) (a_1 : Int32) (w : Wd) (ho : K o = some (11, 0)) {w' : Wd} (hf : f_X13_says K o a_1 w = some w') : Met l yX13_says (Cond.code yX13_says cX13_says 2 (Option.none : Option Jvm.ClassFile.FieldType) :: bt) ({ frames := 0, cells := 0, slots := 0, locals := 0 } : Room) (va_Pc [rv E (some o), .int a_1] (HB E K w z)) (QV E K z w') 0 0 (hA E) := by
  refine Met.ofW (cc := cX13_says) (maxL := 2) (ret := (Option.none : Option Jvm.ClassFile.FieldType)) (by decide) rfl ?_
  intro p e s m args below meth c s₁ B hml hv
  obtain ⟨rfl, hz, hP, hKs, hT, hb0⟩ := hv
  have C : CX p l e s m _ meth c cX13_says 2 RX13 (Option.none : Option Jvm.ClassFile.FieldType) E := ⟨B.exec, B.bytes, hml, findClass_of_methodNamed B.named, fun w h => atoms_spec (ws := Cond.code yX13_says cX13_says 2 (Option.none : Option Jvm.ClassFile.FieldType) :: bt) B.pre w (List.mem_cons_of_mem _ h), hKs, hT, by rw [hz]; exact hb0, B.notSynchronized, B.returns⟩
  have hH : HQ E K z w s s.heap [] := ⟨hP, va_S.rf, hz⟩
  obtain ⟨hx, hb, hml, hown, hts, hKs, hT, hb0, hlocks, hret⟩ := id C
  have hl := lv_entry [rv E (some o), .int a_1] (n := 2) (by simp [lg_len_nil, lg_len_i, lg_len_j, lg_len_q, lg_len_f, lg_len_d, lg_len_r])
  rw [lg_entry_eq]
  generalize (lg_sl [rv E (some o), .int a_1] ++ List.replicate (2 - (lg_sl [rv E (some o), .int a_1]).length) Slot.unset).toArray = ls at hl ⊢
  replace hl : lv_has ls 2 [(0, rv E (some o)), (1, .int a_1)] := by simpa only [lv_args, cat_q, cat_i, cat_j, reduceIte, Nat.reduceEqDiff, Nat.reduceAdd, Nat.zero_add] using hl
  generalize s.heap = H at hH ⊢
  unfold f_X13_says at hf
  refine hl_aload_n hx hb dX13_says_0 rfl (lv_at hl 0 rfl) ?_
  refine g13_37 hx hb hts hown hKs hH rfl ho m6_218 dX13_says_1 ?_
  refine hl_aload_n hx hb dX13_says_4 rfl (lv_at hl 0 rfl) ?_
  refine g13_38 hx hb hts hown hKs hH rfl ho m6_219 dX13_says_5 ?_
  refine lv_iload_n hx hb dX13_says_8 rfl (lv_at hl 1 rfl) ?_
  refine lv_i2b (v := (a_1.toInt8.toInt32)) hx hb dX13_says_9 rfl ?_
  obtain ⟨a1, ha1, hf⟩ := bnd hf
  replace ha1 := cha_some ha1
  obtain ⟨j2, hj2, hf⟩ := bnd hf
  obtain ⟨w3, hw3, hf⟩ := bnd hf
  replace hw3 := Option.some.inj hw3
  refine hw_bast (x := (a_1.toInt8.toInt32)) hx hb hKs hH ha1.1 ha1.2 hj2 dX13_says_10 (fun H locs hH => ?_)
  rw [hw3] at hH
  refine hl_aload_n hx hb dX13_says_11 rfl (lv_at hl 0 rfl) ?_
  refine hl_aload_n hx hb dX13_says_12 rfl (lv_at hl 0 rfl) ?_
  refine g13_38 hx hb hts hown hKs hH rfl ho m6_219 dX13_says_13 ?_
  refine lv_iconst (v := 1) hx hb dX13_says_16 (by decide) ?_
  refine lv_iadd hx hb dX13_says_17 ?_
  obtain ⟨w4, hw4, hf⟩ := bnd hf
  replace hw4 := Option.some.inj hw4
  refine p13_38 (v := ((wI w3 1338 o) + 1)) hx hb hts hown hKs hH rfl ho m6_219 dX13_says_18 (fun H locs hH => ?_)
  rw [hw4] at hH
  exact hw_vret hx hb hret hf hH hlocks dX13_says_21

theorem dX13_saysName_0 : decode cX13_saysName 0 = .ok (.lload_n 1, 1) := by decide +kernel
theorem dX13_saysName_1 : decode cX13_saysName 1 = .ok (.ldc2_w 408, 3) := by decide +kernel
theorem dX13_saysName_4 : decode cX13_saysName 4 = .ok (.lcmp, 1) := by decide +kernel
theorem dX13_saysName_5 : decode cX13_saysName 5 = .ok (.ifCond .lt 12, 3) := by decide +kernel
theorem dX13_saysName_8 : decode cX13_saysName 8 = .ok (.aload_n 0, 1) := by decide +kernel
theorem dX13_saysName_9 : decode cX13_saysName 9 = .ok (.lload_n 1, 1) := by decide +kernel
theorem dX13_saysName_10 : decode cX13_saysName 10 = .ok (.ldc2_w 408, 3) := by decide +kernel
theorem dX13_saysName_13 : decode cX13_saysName 13 = .ok (.ldiv, 1) := by decide +kernel
theorem dX13_saysName_14 : decode cX13_saysName 14 = .ok (.invokevirtual 480, 3) := by decide +kernel
theorem dX13_saysName_17 : decode cX13_saysName 17 = .ok (.aload_n 0, 1) := by decide +kernel
theorem dX13_saysName_18 : decode cX13_saysName 18 = .ok (.bipush 96, 2) := by decide +kernel
theorem dX13_saysName_20 : decode cX13_saysName 20 = .ok (.lload_n 1, 1) := by decide +kernel
theorem dX13_saysName_21 : decode cX13_saysName 21 = .ok (.ldc2_w 408, 3) := by decide +kernel
theorem dX13_saysName_24 : decode cX13_saysName 24 = .ok (.lrem, 1) := by decide +kernel
theorem dX13_saysName_25 : decode cX13_saysName 25 = .ok (.l2i, 1) := by decide +kernel
theorem dX13_saysName_26 : decode cX13_saysName 26 = .ok (.iadd, 1) := by decide +kernel
theorem dX13_saysName_27 : decode cX13_saysName 27 = .ok (.invokevirtual 484, 3) := by decide +kernel
theorem dX13_saysName_30 : decode cX13_saysName 30 = .ok (.return_, 1) := by decide +kernel
theorem hd_X13_saysName : yX13_saysName.cls = RX13 ∧ yX13_saysName.cls ≠ "java/lang/invoke/MethodHandle" ∧ yX13_saysName.cls ≠ "java/lang/invoke/VarHandle" ∧ (parseMethodDescriptor yX13_saysName.desc).map (fun d => d.parameters.length) = some 1 := by decide +kernel
theorem hs_X13_saysName : yX13_saysName.cls ≠ "java/lang/invoke/MethodHandle" ∧ yX13_saysName.cls ≠ "java/lang/invoke/VarHandle" ∧ (parseMethodDescriptor yX13_saysName.desc).map (fun d => d.parameters.length) = some 1 := by decide +kernel
set_option maxHeartbeats 4000000 in
set_option maxRecDepth 100000 in
theorem k_X13_saysName (l : Launch) (E : Ev) (K : Kd) : ∀ (n9 : Nat) (z : Nat) (o : Nat) (a_1 : Int64) (w : Wd) (ho : K o = some (11, 0)) {w' : Wd} (hf : f_X13_saysName K o n9 a_1 w = some w'), Met l yX13_saysName (Cond.code yX13_saysName cX13_saysName 3 (Option.none : Option Jvm.ClassFile.FieldType) :: bt) ({ frames := 1 + n9, cells := 0, slots := 0, locals := 21 + n9 * 22 } : Room) (va_Pc [rv E (some o), .long a_1] (HB E K w z)) (QV E K z w') 0 0 (hA E) := by
  intro n9
  induction n9 with
  | zero => intro z o a_1 w ho w' hf; cases hf
  | succ n9 ih =>
  intro z o a_1 w ho w' hf
  have hrc : ∀ (b0 : Int64) (w : Wd) {w' : Wd} (z : Nat), f_X13_saysName K o n9 b0 w = some w' → Met l yX13_saysName (Cond.code yX13_saysName cX13_saysName 3 (Option.none : Option Jvm.ClassFile.FieldType) :: bt) ({ frames := 1 + n9, cells := 0, slots := 0, locals := 21 + n9 * 22 } : Room) (va_Pc [rv E (some o), .long b0] (HB E K w z)) (QV E K z w') 0 0 (hA E) := fun a_1 w w' z hq => ih z o a_1 w ho hq
  refine Met.ofW (cc := cX13_saysName) (maxL := 3) (ret := (Option.none : Option Jvm.ClassFile.FieldType)) (by decide) rfl ?_
  intro p e s m args below meth c s₁ B hml hv
  obtain ⟨rfl, hz, hP, hKs, hT, hb0⟩ := hv
  have C : CX p l e s m _ meth c cX13_saysName 3 RX13 (Option.none : Option Jvm.ClassFile.FieldType) E := ⟨B.exec, B.bytes, hml, findClass_of_methodNamed B.named, fun w h => atoms_spec (ws := Cond.code yX13_saysName cX13_saysName 3 (Option.none : Option Jvm.ClassFile.FieldType) :: bt) B.pre w (List.mem_cons_of_mem _ h), hKs, hT, by rw [hz]; exact hb0, B.notSynchronized, B.returns⟩
  have hH : HQ E K z w s s.heap [] := ⟨hP, va_S.rf, hz⟩
  obtain ⟨hx, hb, hml, hown, hts, hKs, hT, hb0, hlocks, hret⟩ := id C
  have hl := lv_entry [rv E (some o), .long a_1] (n := 3) (by simp [lg_len_nil, lg_len_i, lg_len_j, lg_len_q, lg_len_f, lg_len_d, lg_len_r])
  rw [lg_entry_eq]
  generalize (lg_sl [rv E (some o), .long a_1] ++ List.replicate (3 - (lg_sl [rv E (some o), .long a_1]).length) Slot.unset).toArray = ls at hl ⊢
  replace hl : lv_has ls 3 [(0, rv E (some o)), (1, .long a_1)] := by simpa only [lv_args, cat_q, cat_i, cat_j, reduceIte, Nat.reduceEqDiff, Nat.reduceAdd, Nat.zero_add] using hl
  generalize s.heap = H at hH ⊢
  rw [f_X13_saysName] at hf
  refine lv_lload_n hx hb dX13_saysName_0 rfl (lv_at hl 1 rfl) ?_
  refine lv_ldc2 (v := 27) hx hb hown (hts _ m9_94) dX13_saysName_1 ?_
  refine W.lcmp hx hb dX13_saysName_4 ?_
  refine lv_if_lt (tgt := 17) hx hb dX13_saysName_5 (by decide) (fun c1 => ?_) (fun c1 => ?_)
  · replace hf := (if_pos c1).symm.trans hf
    refine hl_aload_n hx hb dX13_saysName_17 rfl (lv_at hl 0 rfl) ?_
    refine lv_bipush (v := 96) hx hb dX13_saysName_18 (by decide) ?_
    refine lv_lload_n hx hb dX13_saysName_20 rfl (lv_at hl 1 rfl) ?_
    refine lv_ldc2 (v := 27) hx hb hown (hts _ m9_94) dX13_saysName_21 ?_
    refine lv_lrem hx hb dX13_saysName_24 (by decide) ?_
    refine lv_l2i (v := ((a_1 - a_1 / 27 * 27).toInt32)) hx hb dX13_saysName_25 rfl ?_
    refine lv_iadd hx hb dX13_saysName_26 ?_
    obtain ⟨q2, hq2, hf⟩ := bnd hf
    refine hcV_v hx hb hml hown hts hKs hT hb0 hH (As := [.int ((96 + ((a_1 - a_1 / 27 * 27).toInt32)))]) (rest := []) (k_X13_says l E K H.size o (96 + ((a_1 - a_1 / 27 * 27).toInt32)) w ho hq2) (gV m9_175 m9_177 ms_131 m1_16 m9_178) hd_X13_says ⟨Nat.le_trans (m := 1) (Nat.le_of_ble_eq_true rfl) (Nat.le_add_right _ _), Nat.le_trans (m := 21) (Nat.le_of_ble_eq_true rfl) (Nat.le_add_right _ _), rfl, rfl⟩ rfl ho rfl rfl rfl hl.1 rfl rc0 rfl dX13_saysName_27 ⟨Nat.zero_le _, Nat.zero_le _⟩ (fun H locs hH => ?_)
    exact hw_vret hx hb hret hf hH hlocks dX13_saysName_30
  · replace hf := (if_neg c1).symm.trans hf
    refine hl_aload_n hx hb dX13_saysName_8 rfl (lv_at hl 0 rfl) ?_
    refine lv_lload_n hx hb dX13_saysName_9 rfl (lv_at hl 1 rfl) ?_
    refine lv_ldc2 (v := 27) hx hb hown (hts _ m9_94) dX13_saysName_10 ?_
    refine lv_ldiv hx hb dX13_saysName_13 (by decide) ?_
    obtain ⟨q3, hq3, hf⟩ := bnd hf
    refine hcV_v hx hb hml hown hts hKs hT hb0 hH (As := [.long (a_1 / 27)]) (rest := []) (hrc (a_1 / 27) w _ hq3) (gV m9_179 m9_181 ms_132 m1_16 m9_182) hd_X13_saysName ⟨by show _ + n9 + 1 ≤ _ + (n9 + 1); omega, by show 8 + (3 + 11) + (_ + n9 * _) ≤ _ + (n9 + 1) * _; omega, rfl, rfl⟩ rfl ho rfl rfl rfl hl.1 rfl rc0 rfl dX13_saysName_14 ⟨Nat.zero_le _, Nat.zero_le _⟩ (fun H locs hH => ?_)
    refine hl_aload_n hx hb dX13_saysName_17 rfl (lv_at hl 0 rfl) ?_
    refine lv_bipush (v := 96) hx hb dX13_saysName_18 (by decide) ?_
    refine lv_lload_n hx hb dX13_saysName_20 rfl (lv_at hl 1 rfl) ?_
    refine lv_ldc2 (v := 27) hx hb hown (hts _ m9_94) dX13_saysName_21 ?_
    refine lv_lrem hx hb dX13_saysName_24 (by decide) ?_
    refine lv_l2i (v := ((a_1 - a_1 / 27 * 27).toInt32)) hx hb dX13_saysName_25 rfl ?_
    refine lv_iadd hx hb dX13_saysName_26 ?_
    obtain ⟨q4, hq4, hf⟩ := bnd hf
    refine hcV_v hx hb hml hown hts hKs hT hb0 hH (As := [.int ((96 + ((a_1 - a_1 / 27 * 27).toInt32)))]) (rest := []) (k_X13_says l E K H.size o (96 + ((a_1 - a_1 / 27 * 27).toInt32)) q3 ho hq4) (gV m9_175 m9_177 ms_131 m1_16 m9_178) hd_X13_says ⟨Nat.le_trans (m := 1) (Nat.le_of_ble_eq_true rfl) (Nat.le_add_right _ _), Nat.le_trans (m := 21) (Nat.le_of_ble_eq_true rfl) (Nat.le_add_right _ _), rfl, rfl⟩ rfl ho rfl rfl rfl hl.1 rfl rc0 rfl dX13_saysName_27 ⟨Nat.zero_le _, Nat.zero_le _⟩ (fun H locs hH => ?_)
    exact hw_vret hx hb hret hf hH hlocks dX13_saysName_30

theorem dX13_saysHearing_0 : decode cX13_saysHearing 0 = .ok (.aload_n 0, 1) := by decide +kernel
theorem dX13_saysHearing_1 : decode cX13_saysHearing 1 = .ok (.bipush 48, 2) := by decide +kernel
theorem dX13_saysHearing_3 : decode cX13_saysHearing 3 = .ok (.aload_n 0, 1) := by decide +kernel
theorem dX13_saysHearing_4 : decode cX13_saysHearing 4 = .ok (.iload_n 1, 1) := by decide +kernel
theorem dX13_saysHearing_5 : decode cX13_saysHearing 5 = .ok (.iconst 4, 1) := by decide +kernel
theorem dX13_saysHearing_6 : decode cX13_saysHearing 6 = .ok (.invokevirtual 141, 3) := by decide +kernel
theorem dX13_saysHearing_9 : decode cX13_saysHearing 9 = .ok (.iadd, 1) := by decide +kernel
theorem dX13_saysHearing_10 : decode cX13_saysHearing 10 = .ok (.invokevirtual 484, 3) := by decide +kernel
theorem dX13_saysHearing_13 : decode cX13_saysHearing 13 = .ok (.aload_n 0, 1) := by decide +kernel
theorem dX13_saysHearing_14 : decode cX13_saysHearing 14 = .ok (.bipush 32, 2) := by decide +kernel
theorem dX13_saysHearing_16 : decode cX13_saysHearing 16 = .ok (.invokevirtual 484, 3) := by decide +kernel
theorem dX13_saysHearing_19 : decode cX13_saysHearing 19 = .ok (.aload_n 0, 1) := by decide +kernel
theorem dX13_saysHearing_20 : decode cX13_saysHearing 20 = .ok (.aload_n 0, 1) := by decide +kernel
theorem dX13_saysHearing_21 : decode cX13_saysHearing 21 = .ok (.getfield 34, 3) := by decide +kernel
theorem dX13_saysHearing_24 : decode cX13_saysHearing 24 = .ok (.aload_n 0, 1) := by decide +kernel
theorem dX13_saysHearing_25 : decode cX13_saysHearing 25 = .ok (.iload_n 1, 1) := by decide +kernel
theorem dX13_saysHearing_26 : decode cX13_saysHearing 26 = .ok (.iconst 5, 1) := by decide +kernel
theorem dX13_saysHearing_27 : decode cX13_saysHearing 27 = .ok (.invokevirtual 141, 3) := by decide +kernel
theorem dX13_saysHearing_30 : decode cX13_saysHearing 30 = .ok (.laload, 1) := by decide +kernel
theorem dX13_saysHearing_31 : decode cX13_saysHearing 31 = .ok (.invokevirtual 480, 3) := by decide +kernel
theorem dX13_saysHearing_34 : decode cX13_saysHearing 34 = .ok (.aload_n 0, 1) := by decide +kernel
theorem dX13_saysHearing_35 : decode cX13_saysHearing 35 = .ok (.bipush 32, 2) := by decide +kernel
theorem dX13_saysHearing_37 : decode cX13_saysHearing 37 = .ok (.invokevirtual 484, 3) := by decide +kernel
theorem dX13_saysHearing_40 : decode cX13_saysHearing 40 = .ok (.aload_n 0, 1) := by decide +kernel
theorem dX13_saysHearing_41 : decode cX13_saysHearing 41 = .ok (.aload_n 0, 1) := by decide +kernel
theorem dX13_saysHearing_42 : decode cX13_saysHearing 42 = .ok (.getfield 44, 3) := by decide +kernel
theorem dX13_saysHearing_45 : decode cX13_saysHearing 45 = .ok (.iload_n 1, 1) := by decide +kernel
theorem dX13_saysHearing_46 : decode cX13_saysHearing 46 = .ok (.laload, 1) := by decide +kernel
theorem dX13_saysHearing_47 : decode cX13_saysHearing 47 = .ok (.invokevirtual 480, 3) := by decide +kernel
theorem dX13_saysHearing_50 : decode cX13_saysHearing 50 = .ok (.aload_n 0, 1) := by decide +kernel
theorem dX13_saysHearing_51 : decode cX13_saysHearing 51 = .ok (.bipush 32, 2) := by decide +kernel
theorem dX13_saysHearing_53 : decode cX13_saysHearing 53 = .ok (.invokevirtual 484, 3) := by decide +kernel
theorem dX13_saysHearing_56 : decode cX13_saysHearing 56 = .ok (.aload_n 0, 1) := by decide +kernel
theorem dX13_saysHearing_57 : decode cX13_saysHearing 57 = .ok (.aload_n 0, 1) := by decide +kernel
theorem dX13_saysHearing_58 : decode cX13_saysHearing 58 = .ok (.getfield 38, 3) := by decide +kernel
theorem dX13_saysHearing_61 : decode cX13_saysHearing 61 = .ok (.aload_n 0, 1) := by decide +kernel
theorem dX13_saysHearing_62 : decode cX13_saysHearing 62 = .ok (.iload_n 1, 1) := by decide +kernel
theorem dX13_saysHearing_63 : decode cX13_saysHearing 63 = .ok (.bipush 6, 2) := by decide +kernel
theorem dX13_saysHearing_65 : decode cX13_saysHearing 65 = .ok (.invokevirtual 141, 3) := by decide +kernel
theorem dX13_saysHearing_68 : decode cX13_saysHearing 68 = .ok (.laload, 1) := by decide +kernel
theorem dX13_saysHearing_69 : decode cX13_saysHearing 69 = .ok (.invokevirtual 480, 3) := by decide +kernel
theorem dX13_saysHearing_72 : decode cX13_saysHearing 72 = .ok (.aload_n 0, 1) := by decide +kernel
theorem dX13_saysHearing_73 : decode cX13_saysHearing 73 = .ok (.bipush 10, 2) := by decide +kernel
theorem dX13_saysHearing_75 : decode cX13_saysHearing 75 = .ok (.invokevirtual 484, 3) := by decide +kernel
theorem dX13_saysHearing_78 : decode cX13_saysHearing 78 = .ok (.return_, 1) := by decide +kernel
theorem hd_X13_saysHearing : yX13_saysHearing.cls = RX13 ∧ yX13_saysHearing.cls ≠ "java/lang/invoke/MethodHandle" ∧ yX13_saysHearing.cls ≠ "java/lang/invoke/VarHandle" ∧ (parseMethodDescriptor yX13_saysHearing.desc).map (fun d => d.parameters.length) = some 1 := by decide +kernel
theorem hs_X13_saysHearing : yX13_saysHearing.cls ≠ "java/lang/invoke/MethodHandle" ∧ yX13_saysHearing.cls ≠ "java/lang/invoke/VarHandle" ∧ (parseMethodDescriptor yX13_saysHearing.desc).map (fun d => d.parameters.length) = some 1 := by decide +kernel
set_option maxHeartbeats 4000000 in
set_option maxRecDepth 100000 in
theorem k_X13_saysHearing (l : Launch) (E : Ev) (K : Kd) (z : Nat) (o : Nat) (a_1 : Int32) (w : Wd) (ho : K o = some (11, 0)) {w' : Wd} (hf : f_X13_saysHearing K o a_1 w = some w') : Met l yX13_saysHearing (Cond.code yX13_saysHearing cX13_saysHearing 2 (Option.none : Option Jvm.ClassFile.FieldType) :: bt) ({ frames := 18, cells := 0, slots := 0, locals := 395 } : Room) (va_Pc [rv E (some o), .int a_1] (HB E K w z)) (QV E K z w') 0 0 (hA E) := by
  refine Met.ofW (cc := cX13_saysHearing) (maxL := 2) (ret := (Option.none : Option Jvm.ClassFile.FieldType)) (by decide) rfl ?_
  intro p e s m args below meth c s₁ B hml hv
  obtain ⟨rfl, hz, hP, hKs, hT, hb0⟩ := hv
  have C : CX p l e s m _ meth c cX13_saysHearing 2 RX13 (Option.none : Option Jvm.ClassFile.FieldType) E := ⟨B.exec, B.bytes, hml, findClass_of_methodNamed B.named, fun w h => atoms_spec (ws := Cond.code yX13_saysHearing cX13_saysHearing 2 (Option.none : Option Jvm.ClassFile.FieldType) :: bt) B.pre w (List.mem_cons_of_mem _ h), hKs, hT, by rw [hz]; exact hb0, B.notSynchronized, B.returns⟩
  have hH : HQ E K z w s s.heap [] := ⟨hP, va_S.rf, hz⟩
  obtain ⟨hx, hb, hml, hown, hts, hKs, hT, hb0, hlocks, hret⟩ := id C
  have hl := lv_entry [rv E (some o), .int a_1] (n := 2) (by simp [lg_len_nil, lg_len_i, lg_len_j, lg_len_q, lg_len_f, lg_len_d, lg_len_r])
  rw [lg_entry_eq]
  generalize (lg_sl [rv E (some o), .int a_1] ++ List.replicate (2 - (lg_sl [rv E (some o), .int a_1]).length) Slot.unset).toArray = ls at hl ⊢
  replace hl : lv_has ls 2 [(0, rv E (some o)), (1, .int a_1)] := by simpa only [lv_args, cat_q, cat_i, cat_j, reduceIte, Nat.reduceEqDiff, Nat.reduceAdd, Nat.zero_add] using hl
  generalize s.heap = H at hH ⊢
  unfold f_X13_saysHearing at hf
  refine hl_aload_n hx hb dX13_saysHearing_0 rfl (lv_at hl 0 rfl) ?_
  refine lv_bipush (v := 48) hx hb dX13_saysHearing_1 (by decide) ?_
  refine hl_aload_n hx hb dX13_saysHearing_3 rfl (lv_at hl 0 rfl) ?_
  refine lv_iload_n hx hb dX13_saysHearing_4 rfl (lv_at hl 1 rfl) ?_
  refine lv_iconst (v := 4) hx hb dX13_saysHearing_5 (by decide) ?_
  obtain ⟨q1, hq1, hf⟩ := bnd hf
  refine hcV_i hx hb hml hown hts hKs hT hb0 hH (As := [.int a_1, .int 4]) (rest := [.int 48, rv E (some o)]) (k_X13_of l E K H.size o a_1 4 w ho hq1) (gV m7_126 m7_128 ms_54 m1_16 m7_129) hd_X13_of ⟨Nat.le_of_ble_eq_true rfl, Nat.le_of_ble_eq_true rfl, rfl, rfl⟩ rfl ho rfl rfl rfl hl.1 rfl (rcI (rcV rc0)) rfl dX13_saysHearing_6 ⟨Nat.zero_le _, Nat.zero_le _⟩ (fun H locs hH => ?_)
  refine lv_iadd hx hb dX13_saysHearing_9 ?_
  obtain ⟨q2, hq2, hf⟩ := bnd hf
  refine hcV_v hx hb hml hown hts hKs hT hb0 hH (As := [.int ((48 + q1.1))]) (rest := []) (k_X13_says l E K H.size o (48 + q1.1) q1.2 ho hq2) (gV m9_175 m9_177 ms_131 m1_16 m9_178) hd_X13_says ⟨Nat.le_of_ble_eq_true rfl, Nat.le_of_ble_eq_true rfl, rfl, rfl⟩ rfl ho rfl rfl rfl hl.1 rfl rc0 rfl dX13_saysHearing_10 ⟨Nat.zero_le _, Nat.zero_le _⟩ (fun H locs hH => ?_)
  refine hl_aload_n hx hb dX13_saysHearing_13 rfl (lv_at hl 0 rfl) ?_
  refine lv_bipush (v := 32) hx hb dX13_saysHearing_14 (by decide) ?_
  obtain ⟨q3, hq3, hf⟩ := bnd hf
  refine hcV_v hx hb hml hown hts hKs hT hb0 hH (As := [.int 32]) (rest := []) (k_X13_says l E K H.size o 32 q2 ho hq3) (gV m9_175 m9_177 ms_131 m1_16 m9_178) hd_X13_says ⟨Nat.le_of_ble_eq_true rfl, Nat.le_of_ble_eq_true rfl, rfl, rfl⟩ rfl ho rfl rfl rfl hl.1 rfl rc0 rfl dX13_saysHearing_16 ⟨Nat.zero_le _, Nat.zero_le _⟩ (fun H locs hH => ?_)
  refine hl_aload_n hx hb dX13_saysHearing_19 rfl (lv_at hl 0 rfl) ?_
  refine hl_aload_n hx hb dX13_saysHearing_20 rfl (lv_at hl 0 rfl) ?_
  refine g13_11 hx hb hts hown hKs hH rfl ho m6_192 dX13_saysHearing_21 ?_
  refine hl_aload_n hx hb dX13_saysHearing_24 rfl (lv_at hl 0 rfl) ?_
  refine lv_iload_n hx hb dX13_saysHearing_25 rfl (lv_at hl 1 rfl) ?_
  refine lv_iconst (v := 5) hx hb dX13_saysHearing_26 (by decide) ?_
  obtain ⟨q4, hq4, hf⟩ := bnd hf
  refine hcV_i hx hb hml hown hts hKs hT hb0 hH (As := [.int a_1, .int 5]) (rest := [rv E (wR q3 1311 o), rv E (some o)]) (k_X13_of l E K H.size o a_1 5 q3 ho hq4) (gV m7_126 m7_128 ms_54 m1_16 m7_129) hd_X13_of ⟨Nat.le_of_ble_eq_true rfl, Nat.le_of_ble_eq_true rfl, rfl, rfl⟩ rfl ho rfl rfl rfl hl.1 rfl (rcV (rcV rc0)) rfl dX13_saysHearing_27 ⟨Nat.zero_le _, Nat.zero_le _⟩ (fun H locs hH => ?_)
  obtain ⟨a5, ha5, hf⟩ := bnd hf
  replace ha5 := cha_some ha5
  obtain ⟨j6, hj6, hf⟩ := bnd hf
  refine hw_lald hx hb hKs hH ha5.1 ha5.2 hj6 dX13_saysHearing_30 ?_
  obtain ⟨q7, hq7, hf⟩ := bnd hf
  refine hcV_v hx hb hml hown hts hKs hT hb0 hH (As := [.long (aJ q4.2 a5.1 j6)]) (rest := []) (k_X13_saysName l E K 16 H.size o (aJ q4.2 a5.1 j6) q4.2 ho hq7) (gV m9_179 m9_181 ms_132 m1_16 m9_182) hd_X13_saysName ⟨Nat.le_of_ble_eq_true rfl, Nat.le_of_ble_eq_true rfl, rfl, rfl⟩ rfl ho rfl rfl rfl hl.1 rfl rc0 rfl dX13_saysHearing_31 ⟨Nat.zero_le _, Nat.zero_le _⟩ (fun H locs hH => ?_)
  refine hl_aload_n hx hb dX13_saysHearing_34 rfl (lv_at hl 0 rfl) ?_
  refine lv_bipush (v := 32) hx hb dX13_saysHearing_35 (by decide) ?_
  obtain ⟨q8, hq8, hf⟩ := bnd hf
  refine hcV_v hx hb hml hown hts hKs hT hb0 hH (As := [.int 32]) (rest := []) (k_X13_says l E K H.size o 32 q7 ho hq8) (gV m9_175 m9_177 ms_131 m1_16 m9_178) hd_X13_says ⟨Nat.le_of_ble_eq_true rfl, Nat.le_of_ble_eq_true rfl, rfl, rfl⟩ rfl ho rfl rfl rfl hl.1 rfl rc0 rfl dX13_saysHearing_37 ⟨Nat.zero_le _, Nat.zero_le _⟩ (fun H locs hH => ?_)
  refine hl_aload_n hx hb dX13_saysHearing_40 rfl (lv_at hl 0 rfl) ?_
  refine hl_aload_n hx hb dX13_saysHearing_41 rfl (lv_at hl 0 rfl) ?_
  refine g13_14 hx hb hts hown hKs hH rfl ho m6_195 dX13_saysHearing_42 ?_
  refine lv_iload_n hx hb dX13_saysHearing_45 rfl (lv_at hl 1 rfl) ?_
  obtain ⟨a9, ha9, hf⟩ := bnd hf
  replace ha9 := cha_some ha9
  obtain ⟨j10, hj10, hf⟩ := bnd hf
  refine hw_lald hx hb hKs hH ha9.1 ha9.2 hj10 dX13_saysHearing_46 ?_
  obtain ⟨q11, hq11, hf⟩ := bnd hf
  refine hcV_v hx hb hml hown hts hKs hT hb0 hH (As := [.long (aJ q8 a9.1 j10)]) (rest := []) (k_X13_saysName l E K 16 H.size o (aJ q8 a9.1 j10) q8 ho hq11) (gV m9_179 m9_181 ms_132 m1_16 m9_182) hd_X13_saysName ⟨Nat.le_of_ble_eq_true rfl, Nat.le_of_ble_eq_true rfl, rfl, rfl⟩ rfl ho rfl rfl rfl hl.1 rfl rc0 rfl dX13_saysHearing_47 ⟨Nat.zero_le _, Nat.zero_le _⟩ (fun H locs hH => ?_)
  refine hl_aload_n hx hb dX13_saysHearing_50 rfl (lv_at hl 0 rfl) ?_
  refine lv_bipush (v := 32) hx hb dX13_saysHearing_51 (by decide) ?_
  obtain ⟨q12, hq12, hf⟩ := bnd hf
  refine hcV_v hx hb hml hown hts hKs hT hb0 hH (As := [.int 32]) (rest := []) (k_X13_says l E K H.size o 32 q11 ho hq12) (gV m9_175 m9_177 ms_131 m1_16 m9_178) hd_X13_says ⟨Nat.le_of_ble_eq_true rfl, Nat.le_of_ble_eq_true rfl, rfl, rfl⟩ rfl ho rfl rfl rfl hl.1 rfl rc0 rfl dX13_saysHearing_53 ⟨Nat.zero_le _, Nat.zero_le _⟩ (fun H locs hH => ?_)
  refine hl_aload_n hx hb dX13_saysHearing_56 rfl (lv_at hl 0 rfl) ?_
  refine hl_aload_n hx hb dX13_saysHearing_57 rfl (lv_at hl 0 rfl) ?_
  refine g13_12 hx hb hts hown hKs hH rfl ho m6_193 dX13_saysHearing_58 ?_
  refine hl_aload_n hx hb dX13_saysHearing_61 rfl (lv_at hl 0 rfl) ?_
  refine lv_iload_n hx hb dX13_saysHearing_62 rfl (lv_at hl 1 rfl) ?_
  refine lv_bipush (v := 6) hx hb dX13_saysHearing_63 (by decide) ?_
  obtain ⟨q13, hq13, hf⟩ := bnd hf
  refine hcV_i hx hb hml hown hts hKs hT hb0 hH (As := [.int a_1, .int 6]) (rest := [rv E (wR q12 1312 o), rv E (some o)]) (k_X13_of l E K H.size o a_1 6 q12 ho hq13) (gV m7_126 m7_128 ms_54 m1_16 m7_129) hd_X13_of ⟨Nat.le_of_ble_eq_true rfl, Nat.le_of_ble_eq_true rfl, rfl, rfl⟩ rfl ho rfl rfl rfl hl.1 rfl (rcV (rcV rc0)) rfl dX13_saysHearing_65 ⟨Nat.zero_le _, Nat.zero_le _⟩ (fun H locs hH => ?_)
  obtain ⟨a14, ha14, hf⟩ := bnd hf
  replace ha14 := cha_some ha14
  obtain ⟨j15, hj15, hf⟩ := bnd hf
  refine hw_lald hx hb hKs hH ha14.1 ha14.2 hj15 dX13_saysHearing_68 ?_
  obtain ⟨q16, hq16, hf⟩ := bnd hf
  refine hcV_v hx hb hml hown hts hKs hT hb0 hH (As := [.long (aJ q13.2 a14.1 j15)]) (rest := []) (k_X13_saysName l E K 16 H.size o (aJ q13.2 a14.1 j15) q13.2 ho hq16) (gV m9_179 m9_181 ms_132 m1_16 m9_182) hd_X13_saysName ⟨Nat.le_of_ble_eq_true rfl, Nat.le_of_ble_eq_true rfl, rfl, rfl⟩ rfl ho rfl rfl rfl hl.1 rfl rc0 rfl dX13_saysHearing_69 ⟨Nat.zero_le _, Nat.zero_le _⟩ (fun H locs hH => ?_)
  refine hl_aload_n hx hb dX13_saysHearing_72 rfl (lv_at hl 0 rfl) ?_
  refine lv_bipush (v := 10) hx hb dX13_saysHearing_73 (by decide) ?_
  obtain ⟨q17, hq17, hf⟩ := bnd hf
  refine hcV_v hx hb hml hown hts hKs hT hb0 hH (As := [.int 10]) (rest := []) (k_X13_says l E K H.size o 10 q16 ho hq17) (gV m9_175 m9_177 ms_131 m1_16 m9_178) hd_X13_says ⟨Nat.le_of_ble_eq_true rfl, Nat.le_of_ble_eq_true rfl, rfl, rfl⟩ rfl ho rfl rfl rfl hl.1 rfl rc0 rfl dX13_saysHearing_75 ⟨Nat.zero_le _, Nat.zero_le _⟩ (fun H locs hH => ?_)
  exact hw_vret hx hb hret hf hH hlocks dX13_saysHearing_78

theorem dX13_printDay_0 : decode cX13_printDay 0 = .ok (.aload_n 0, 1) := by decide +kernel
theorem dX13_printDay_1 : decode cX13_printDay 1 = .ok (.iload_n 1, 1) := by decide +kernel
theorem dX13_printDay_2 : decode cX13_printDay 2 = .ok (.invokestatic 127, 3) := by decide +kernel
theorem dX13_printDay_5 : decode cX13_printDay 5 = .ok (.invokevirtual 110, 3) := by decide +kernel
theorem dX13_printDay_8 : decode cX13_printDay 8 = .ok (.ifCond .ne 5, 3) := by decide +kernel
theorem dX13_printDay_11 : decode cX13_printDay 11 = .ok (.iconst 0, 1) := by decide +kernel
theorem dX13_printDay_12 : decode cX13_printDay 12 = .ok (.ireturn, 1) := by decide +kernel
theorem dX13_printDay_13 : decode cX13_printDay 13 = .ok (.aload_n 0, 1) := by decide +kernel
theorem dX13_printDay_14 : decode cX13_printDay 14 = .ok (.iconst 0, 1) := by decide +kernel
theorem dX13_printDay_15 : decode cX13_printDay 15 = .ok (.putfield 477, 3) := by decide +kernel
theorem dX13_printDay_18 : decode cX13_printDay 18 = .ok (.iconst 0, 1) := by decide +kernel
theorem dX13_printDay_19 : decode cX13_printDay 19 = .ok (.istore_n 2, 1) := by decide +kernel
theorem dX13_printDay_20 : decode cX13_printDay 20 = .ok (.iload_n 2, 1) := by decide +kernel
theorem dX13_printDay_21 : decode cX13_printDay 21 = .ok (.bipush 8, 2) := by decide +kernel
theorem dX13_printDay_23 : decode cX13_printDay 23 = .ok (.if_icmp .ge 95, 3) := by decide +kernel
theorem dX13_printDay_26 : decode cX13_printDay 26 = .ok (.iconst 0, 1) := by decide +kernel
theorem dX13_printDay_27 : decode cX13_printDay 27 = .ok (.istore_n 3, 1) := by decide +kernel
theorem dX13_printDay_28 : decode cX13_printDay 28 = .ok (.iload_n 3, 1) := by decide +kernel
theorem dX13_printDay_29 : decode cX13_printDay 29 = .ok (.aload_n 0, 1) := by decide +kernel
theorem dX13_printDay_30 : decode cX13_printDay 30 = .ok (.getfield 7, 3) := by decide +kernel
theorem dX13_printDay_33 : decode cX13_printDay 33 = .ok (.iconst 0, 1) := by decide +kernel
theorem dX13_printDay_34 : decode cX13_printDay 34 = .ok (.iaload, 1) := by decide +kernel
theorem dX13_printDay_35 : decode cX13_printDay 35 = .ok (.if_icmp .ge 77, 3) := by decide +kernel
theorem dX13_printDay_38 : decode cX13_printDay 38 = .ok (.iconst 0, 1) := by decide +kernel
theorem dX13_printDay_39 : decode cX13_printDay 39 = .ok (.istore 4, 2) := by decide +kernel
theorem dX13_printDay_41 : decode cX13_printDay 41 = .ok (.iload 4, 2) := by decide +kernel
theorem dX13_printDay_43 : decode cX13_printDay 43 = .ok (.aload_n 0, 1) := by decide +kernel
theorem dX13_printDay_44 : decode cX13_printDay 44 = .ok (.getfield 7, 3) := by decide +kernel
theorem dX13_printDay_47 : decode cX13_printDay 47 = .ok (.iconst 3, 1) := by decide +kernel
theorem dX13_printDay_48 : decode cX13_printDay 48 = .ok (.iaload, 1) := by decide +kernel
theorem dX13_printDay_49 : decode cX13_printDay 49 = .ok (.if_icmp .ge 57, 3) := by decide +kernel
theorem dX13_printDay_52 : decode cX13_printDay 52 = .ok (.aload_n 0, 1) := by decide +kernel
theorem dX13_printDay_53 : decode cX13_printDay 53 = .ok (.iload 4, 2) := by decide +kernel
theorem dX13_printDay_55 : decode cX13_printDay 55 = .ok (.invokevirtual 164, 3) := by decide +kernel
theorem dX13_printDay_58 : decode cX13_printDay 58 = .ok (.ifCond .eq 42, 3) := by decide +kernel
theorem dX13_printDay_61 : decode cX13_printDay 61 = .ok (.aload_n 0, 1) := by decide +kernel
theorem dX13_printDay_62 : decode cX13_printDay 62 = .ok (.iload 4, 2) := by decide +kernel
theorem dX13_printDay_64 : decode cX13_printDay 64 = .ok (.iconst 3, 1) := by decide +kernel
theorem dX13_printDay_65 : decode cX13_printDay 65 = .ok (.invokevirtual 141, 3) := by decide +kernel
theorem dX13_printDay_68 : decode cX13_printDay 68 = .ok (.iload_n 1, 1) := by decide +kernel
theorem dX13_printDay_69 : decode cX13_printDay 69 = .ok (.if_icmp .ne 31, 3) := by decide +kernel
theorem dX13_printDay_72 : decode cX13_printDay 72 = .ok (.aload_n 0, 1) := by decide +kernel
theorem dX13_printDay_73 : decode cX13_printDay 73 = .ok (.iload 4, 2) := by decide +kernel
theorem dX13_printDay_75 : decode cX13_printDay 75 = .ok (.iconst 4, 1) := by decide +kernel
theorem dX13_printDay_76 : decode cX13_printDay 76 = .ok (.invokevirtual 141, 3) := by decide +kernel
theorem dX13_printDay_79 : decode cX13_printDay 79 = .ok (.iload_n 2, 1) := by decide +kernel
theorem dX13_printDay_80 : decode cX13_printDay 80 = .ok (.if_icmp .ne 20, 3) := by decide +kernel
theorem dX13_printDay_83 : decode cX13_printDay 83 = .ok (.aload_n 0, 1) := by decide +kernel
theorem dX13_printDay_84 : decode cX13_printDay 84 = .ok (.iload 4, 2) := by decide +kernel
theorem dX13_printDay_86 : decode cX13_printDay 86 = .ok (.iconst 5, 1) := by decide +kernel
theorem dX13_printDay_87 : decode cX13_printDay 87 = .ok (.invokevirtual 141, 3) := by decide +kernel
theorem dX13_printDay_90 : decode cX13_printDay 90 = .ok (.iload_n 3, 1) := by decide +kernel
theorem dX13_printDay_91 : decode cX13_printDay 91 = .ok (.if_icmp .ne 9, 3) := by decide +kernel
theorem dX13_printDay_94 : decode cX13_printDay 94 = .ok (.aload_n 0, 1) := by decide +kernel
theorem dX13_printDay_95 : decode cX13_printDay 95 = .ok (.iload 4, 2) := by decide +kernel
theorem dX13_printDay_97 : decode cX13_printDay 97 = .ok (.invokevirtual 487, 3) := by decide +kernel
theorem dX13_printDay_100 : decode cX13_printDay 100 = .ok (.iinc 4 1, 3) := by decide +kernel
theorem dX13_printDay_103 : decode cX13_printDay 103 = .ok (.goto (-62), 3) := by decide +kernel
theorem dX13_printDay_106 : decode cX13_printDay 106 = .ok (.iinc 3 1, 3) := by decide +kernel
theorem dX13_printDay_109 : decode cX13_printDay 109 = .ok (.goto (-81), 3) := by decide +kernel
theorem dX13_printDay_112 : decode cX13_printDay 112 = .ok (.iinc 2 1, 3) := by decide +kernel
theorem dX13_printDay_115 : decode cX13_printDay 115 = .ok (.goto (-95), 3) := by decide +kernel
theorem dX13_printDay_118 : decode cX13_printDay 118 = .ok (.aload_n 0, 1) := by decide +kernel
theorem dX13_printDay_119 : decode cX13_printDay 119 = .ok (.getfield 477, 3) := by decide +kernel
theorem dX13_printDay_122 : decode cX13_printDay 122 = .ok (.ireturn, 1) := by decide +kernel
theorem hd_X13_printDay : yX13_printDay.cls = RX13 ∧ yX13_printDay.cls ≠ "java/lang/invoke/MethodHandle" ∧ yX13_printDay.cls ≠ "java/lang/invoke/VarHandle" ∧ (parseMethodDescriptor yX13_printDay.desc).map (fun d => d.parameters.length) = some 1 := by decide +kernel
theorem hs_X13_printDay : yX13_printDay.cls ≠ "java/lang/invoke/MethodHandle" ∧ yX13_printDay.cls ≠ "java/lang/invoke/VarHandle" ∧ (parseMethodDescriptor yX13_printDay.desc).map (fun d => d.parameters.length) = some 1 := by decide +kernel
set_option maxHeartbeats 4000000 in
set_option maxRecDepth 100000 in
theorem l_X13_printDay_L41 (C : CX p l e s m args meth c cX13_printDay 5 RX13 (Option.some Jvm.ClassFile.FieldType.int) E) {o : Nat} (ho : K o = some (11, 0)) {r : Int32} {w' : Wd} (k : Int32 → Int32 → Int32 → Int32 → Wd → Option (Int32 × Wd)) (hk : ∀ (v1_41 : Int32) (v2_41 : Int32) (v3_41 : Int32) (v4_41 : Int32) (w : Wd) (H : Heap) (locs : List Loc) (ls : Array Slot), HQ E K z w s H locs → lv_has ls 5 [(1, .int v1_41), (2, .int v2_41), (3, .int v3_41), (4, .int v4_41), (0, rv E (some o))] → k v1_41 v2_41 v3_41 v4_41 w = some (r, w') → W p l e ({ frames := 19, cells := 0, slots := 0, locals := 416 } : Room) s m args below meth c H locs 0 0 (MQ below (QI E K z w' r) args s 0 0 (hA E)) (F0 m 106 ls [])) : ∀ (n : Nat) (v1_41 : Int32) (v2_41 : Int32) (v3_41 : Int32) (v4_41 : Int32) (w : Wd) (H : Heap) (locs : List Loc) (ls : Array Slot), HQ E K z w s H locs → lv_has ls 5 [(1, .int v1_41), (2, .int v2_41), (3, .int v3_41), (4, .int v4_41), (0, rv E (some o))] → f_X13_printDay_L41 K o k n v1_41 v2_41 v3_41 v4_41 w = some (r, w') → W p l e ({ frames := 19, cells := 0, slots := 0, locals := 416 } : Room) s m args below meth c H locs 0 0 (MQ below (QI E K z w' r) args s 0 0 (hA E)) (F0 m 41 ls []) := by
  obtain ⟨hx, hb, hml, hown, hts, hKs, hT, hb0, hlocks, hret⟩ := id C
  intro n
  induction n with
  | zero =>
    intro v1_41 v2_41 v3_41 v4_41 w H locs ls hH hl hf
    cases hf
  | succ n ih =>
    intro v1_41 v2_41 v3_41 v4_41 w H locs ls hH hl hf
    rw [f_X13_printDay_L41] at hf
    refine lv_iload hx hb dX13_printDay_41 (lv_at hl 3 rfl) ?_
    refine hl_aload_n hx hb dX13_printDay_43 rfl (lv_at hl 4 rfl) ?_
    refine g13_1 hx hb hts hown hKs hH rfl ho m6_182 dX13_printDay_44 ?_
    refine lv_iconst (v := 3) hx hb dX13_printDay_47 (by decide) ?_
    obtain ⟨a12, ha12, hf⟩ := bnd hf
    replace ha12 := cha_some ha12
    obtain ⟨j13, hj13, hf⟩ := bnd hf
    refine hw_iald hx hb hKs hH ha12.1 ha12.2 hj13 dX13_printDay_48 ?_
    refine lv_icmp_ge (tgt := 106) hx hb dX13_printDay_49 (by decide) (fun c14 => ?_) (fun c14 => ?_)
    · replace hf := (if_pos c14).symm.trans hf
      exact hk v1_41 v2_41 v3_41 v4_41 _ _ _ _ hH (lv_sub hl [0, 1, 2, 3, 4] rfl) hf
    · replace hf := (if_neg c14).symm.trans hf
      refine hl_aload_n hx hb dX13_printDay_52 rfl (lv_at hl 4 rfl) ?_
      refine lv_iload hx hb dX13_printDay_53 (lv_at hl 3 rfl) ?_
      obtain ⟨q15, hq15, hf⟩ := bnd hf
      refine hcV_i hx hb hml hown hts hKs hT hb0 hH (As := [.int v4_41]) (rest := []) (k_X13_hasHearing l E K H.size o v4_41 w ho hq15) (gV m7_155 m7_157 ms_57 m1_16 m7_158) hd_X13_hasHearing ⟨Nat.le_of_ble_eq_true rfl, Nat.le_of_ble_eq_true rfl, rfl, rfl⟩ rfl ho rfl rfl rfl hl.1 rfl rc0 rfl dX13_printDay_55 ⟨Nat.zero_le _, Nat.zero_le _⟩ (fun H locs hH => ?_)
      refine lv_if_eq (tgt := 100) hx hb dX13_printDay_58 (by decide) (fun c16 => ?_) (fun c16 => ?_)
      · replace hf := (if_pos c16).symm.trans hf
        refine lv_iinc (v := (v4_41 + 1)) (lv' := [(4, .int ((v4_41 + 1))), (1, .int v1_41), (2, .int v2_41), (3, .int v3_41), (0, rv E (some o))]) hx hb dX13_printDay_100 hl (k := 3) rfl rfl (by decide) rfl (fun ls hl => ?_)
        refine lv_goto (tgt := 41) hx hb dX13_printDay_103 (by decide) ?_
        exact ih v1_41 v2_41 v3_41 (v4_41 + 1) _ _ _ _ hH (lv_sub hl [1, 2, 3, 0, 4] rfl) hf
      · replace hf := (if_neg c16).symm.trans hf
        refine hl_aload_n hx hb dX13_printDay_61 rfl (lv_at hl 4 rfl) ?_
        refine lv_iload hx hb dX13_printDay_62 (lv_at hl 3 rfl) ?_
        refine lv_iconst (v := 3) hx hb dX13_printDay_64 (by decide) ?_
        obtain ⟨q17, hq17, hf⟩ := bnd hf
        refine hcV_i hx hb hml hown hts hKs hT hb0 hH (As := [.int v4_41, .int 3]) (rest := []) (k_X13_of l E K H.size o v4_41 3 q15.2 ho hq17) (gV m7_126 m7_128 ms_54 m1_16 m7_129) hd_X13_of ⟨Nat.le_of_ble_eq_true rfl, Nat.le_of_ble_eq_true rfl, rfl, rfl⟩ rfl ho rfl rfl rfl hl.1 rfl rc0 rfl dX13_printDay_65 ⟨Nat.zero_le _, Nat.zero_le _⟩ (fun H locs hH => ?_)
        refine lv_iload_n hx hb dX13_printDay_68 rfl (lv_at hl 0 rfl) ?_
        refine lv_icmp_ne (tgt := 100) hx hb dX13_printDay_69 (by decide) (fun c18 => ?_) (fun c18 => ?_)
        · replace hf := (if_neg c18).symm.trans hf
          refine lv_iinc (v := (v4_41 + 1)) (lv' := [(4, .int ((v4_41 + 1))), (1, .int v1_41), (2, .int v2_41), (3, .int v3_41), (0, rv E (some o))]) hx hb dX13_printDay_100 hl (k := 3) rfl rfl (by decide) rfl (fun ls hl => ?_)
          refine lv_goto (tgt := 41) hx hb dX13_printDay_103 (by decide) ?_
          exact ih v1_41 v2_41 v3_41 (v4_41 + 1) _ _ _ _ hH (lv_sub hl [1, 2, 3, 0, 4] rfl) hf
        · replace hf := (if_pos c18).symm.trans hf
          refine hl_aload_n hx hb dX13_printDay_72 rfl (lv_at hl 4 rfl) ?_
          refine lv_iload hx hb dX13_printDay_73 (lv_at hl 3 rfl) ?_
          refine lv_iconst (v := 4) hx hb dX13_printDay_75 (by decide) ?_
          obtain ⟨q19, hq19, hf⟩ := bnd hf
          refine hcV_i hx hb hml hown hts hKs hT hb0 hH (As := [.int v4_41, .int 4]) (rest := []) (k_X13_of l E K H.size o v4_41 4 q17.2 ho hq19) (gV m7_126 m7_128 ms_54 m1_16 m7_129) hd_X13_of ⟨Nat.le_of_ble_eq_true rfl, Nat.le_of_ble_eq_true rfl, rfl, rfl⟩ rfl ho rfl rfl rfl hl.1 rfl rc0 rfl dX13_printDay_76 ⟨Nat.zero_le _, Nat.zero_le _⟩ (fun H locs hH => ?_)
          refine lv_iload_n hx hb dX13_printDay_79 rfl (lv_at hl 1 rfl) ?_
          refine lv_icmp_ne (tgt := 100) hx hb dX13_printDay_80 (by decide) (fun c20 => ?_) (fun c20 => ?_)
          · replace hf := (if_neg c20).symm.trans hf
            refine lv_iinc (v := (v4_41 + 1)) (lv' := [(4, .int ((v4_41 + 1))), (1, .int v1_41), (2, .int v2_41), (3, .int v3_41), (0, rv E (some o))]) hx hb dX13_printDay_100 hl (k := 3) rfl rfl (by decide) rfl (fun ls hl => ?_)
            refine lv_goto (tgt := 41) hx hb dX13_printDay_103 (by decide) ?_
            exact ih v1_41 v2_41 v3_41 (v4_41 + 1) _ _ _ _ hH (lv_sub hl [1, 2, 3, 0, 4] rfl) hf
          · replace hf := (if_pos c20).symm.trans hf
            refine hl_aload_n hx hb dX13_printDay_83 rfl (lv_at hl 4 rfl) ?_
            refine lv_iload hx hb dX13_printDay_84 (lv_at hl 3 rfl) ?_
            refine lv_iconst (v := 5) hx hb dX13_printDay_86 (by decide) ?_
            obtain ⟨q21, hq21, hf⟩ := bnd hf
            refine hcV_i hx hb hml hown hts hKs hT hb0 hH (As := [.int v4_41, .int 5]) (rest := []) (k_X13_of l E K H.size o v4_41 5 q19.2 ho hq21) (gV m7_126 m7_128 ms_54 m1_16 m7_129) hd_X13_of ⟨Nat.le_of_ble_eq_true rfl, Nat.le_of_ble_eq_true rfl, rfl, rfl⟩ rfl ho rfl rfl rfl hl.1 rfl rc0 rfl dX13_printDay_87 ⟨Nat.zero_le _, Nat.zero_le _⟩ (fun H locs hH => ?_)
            refine lv_iload_n hx hb dX13_printDay_90 rfl (lv_at hl 2 rfl) ?_
            refine lv_icmp_ne (tgt := 100) hx hb dX13_printDay_91 (by decide) (fun c22 => ?_) (fun c22 => ?_)
            · replace hf := (if_neg c22).symm.trans hf
              refine lv_iinc (v := (v4_41 + 1)) (lv' := [(4, .int ((v4_41 + 1))), (1, .int v1_41), (2, .int v2_41), (3, .int v3_41), (0, rv E (some o))]) hx hb dX13_printDay_100 hl (k := 3) rfl rfl (by decide) rfl (fun ls hl => ?_)
              refine lv_goto (tgt := 41) hx hb dX13_printDay_103 (by decide) ?_
              exact ih v1_41 v2_41 v3_41 (v4_41 + 1) _ _ _ _ hH (lv_sub hl [1, 2, 3, 0, 4] rfl) hf
            · replace hf := (if_pos c22).symm.trans hf
              refine hl_aload_n hx hb dX13_printDay_94 rfl (lv_at hl 4 rfl) ?_
              refine lv_iload hx hb dX13_printDay_95 (lv_at hl 3 rfl) ?_
              obtain ⟨q23, hq23, hf⟩ := bnd hf
              refine hcV_v hx hb hml hown hts hKs hT hb0 hH (As := [.int v4_41]) (rest := []) (k_X13_saysHearing l E K H.size o v4_41 q21.2 ho hq23) (gV m9_171 m9_173 ms_130 m1_16 m9_174) hd_X13_saysHearing ⟨Nat.le_of_ble_eq_true rfl, Nat.le_of_ble_eq_true rfl, rfl, rfl⟩ rfl ho rfl rfl rfl hl.1 rfl rc0 rfl dX13_printDay_97 ⟨Nat.zero_le _, Nat.zero_le _⟩ (fun H locs hH => ?_)
              refine lv_iinc (v := (v4_41 + 1)) (lv' := [(4, .int ((v4_41 + 1))), (1, .int v1_41), (2, .int v2_41), (3, .int v3_41), (0, rv E (some o))]) hx hb dX13_printDay_100 hl (k := 3) rfl rfl (by decide) rfl (fun ls hl => ?_)
              refine lv_goto (tgt := 41) hx hb dX13_printDay_103 (by decide) ?_
              exact ih v1_41 v2_41 v3_41 (v4_41 + 1) _ _ _ _ hH (lv_sub hl [1, 2, 3, 0, 4] rfl) hf
set_option maxHeartbeats 4000000 in
set_option maxRecDepth 100000 in
theorem l_X13_printDay_L28 (C : CX p l e s m args meth c cX13_printDay 5 RX13 (Option.some Jvm.ClassFile.FieldType.int) E) {o : Nat} (ho : K o = some (11, 0)) {r : Int32} {w' : Wd} (k : Int32 → Int32 → Int32 → Wd → Option (Int32 × Wd)) (hk : ∀ (v1_28 : Int32) (v2_28 : Int32) (v3_28 : Int32) (w : Wd) (H : Heap) (locs : List Loc) (ls : Array Slot), HQ E K z w s H locs → lv_has ls 5 [(1, .int v1_28), (2, .int v2_28), (3, .int v3_28), (0, rv E (some o))] → k v1_28 v2_28 v3_28 w = some (r, w') → W p l e ({ frames := 19, cells := 0, slots := 0, locals := 416 } : Room) s m args below meth c H locs 0 0 (MQ below (QI E K z w' r) args s 0 0 (hA E)) (F0 m 112 ls [])) : ∀ (n : Nat) (v1_28 : Int32) (v2_28 : Int32) (v3_28 : Int32) (w : Wd) (H : Heap) (locs : List Loc) (ls : Array Slot), HQ E K z w s H locs → lv_has ls 5 [(1, .int v1_28), (2, .int v2_28), (3, .int v3_28), (0, rv E (some o))] → f_X13_printDay_L28 K o k n v1_28 v2_28 v3_28 w = some (r, w') → W p l e ({ frames := 19, cells := 0, slots := 0, locals := 416 } : Room) s m args below meth c H locs 0 0 (MQ below (QI E K z w' r) args s 0 0 (hA E)) (F0 m 28 ls []) := by
  obtain ⟨hx, hb, hml, hown, hts, hKs, hT, hb0, hlocks, hret⟩ := id C
  intro n
  induction n with
  | zero =>
    intro v1_28 v2_28 v3_28 w H locs ls hH hl hf
    cases hf
  | succ n ih =>
    intro v1_28 v2_28 v3_28 w H locs ls hH hl hf
    rw [f_X13_printDay_L28] at hf
    refine lv_iload_n hx hb dX13_printDay_28 rfl (lv_at hl 2 rfl) ?_
    refine hl_aload_n hx hb dX13_printDay_29 rfl (lv_at hl 3 rfl) ?_
    refine g13_1 hx hb hts hown hKs hH rfl ho m6_182 dX13_printDay_30 ?_
    refine lv_iconst (v := 0) hx hb dX13_printDay_33 (by decide) ?_
    obtain ⟨a8, ha8, hf⟩ := bnd hf
    replace ha8 := cha_some ha8
    obtain ⟨j9, hj9, hf⟩ := bnd hf
    refine hw_iald hx hb hKs hH ha8.1 ha8.2 hj9 dX13_printDay_34 ?_
    refine lv_icmp_ge (tgt := 112) hx hb dX13_printDay_35 (by decide) (fun c10 => ?_) (fun c10 => ?_)
    · replace hf := (if_pos c10).symm.trans hf
      exact hk v1_28 v2_28 v3_28 _ _ _ _ hH (lv_sub hl [0, 1, 2, 3] rfl) hf
    · replace hf := (if_neg c10).symm.trans hf
      refine lv_iconst (v := 0) hx hb dX13_printDay_38 (by decide) ?_
      refine lv_istore (i := 4) (lv' := [(4, .int 0), (1, .int v1_28), (2, .int v2_28), (3, .int v3_28), (0, rv E (some o))]) hx hb dX13_printDay_39 hl (by decide) rfl (fun ls hl => ?_)
      refine l_X13_printDay_L41  C ho _ (fun v1_41 v2_41 v3_41 v4_41 w11 H locs ls hH hl hf => ?_) fu v1_28 v2_28 v3_28 0 w _ _ _ hH (lv_sub hl [1, 2, 3, 0, 4] rfl) hf
      refine lv_iinc (v := (v3_41 + 1)) (lv' := [(3, .int ((v3_41 + 1))), (1, .int v1_41), (2, .int v2_41), (4, .int v4_41), (0, rv E (some o))]) hx hb dX13_printDay_106 hl (k := 2) rfl rfl (by decide) rfl (fun ls hl => ?_)
      refine lv_goto (tgt := 28) hx hb dX13_printDay_109 (by decide) ?_
      exact ih v1_41 v2_41 (v3_41 + 1) _ _ _ _ hH (lv_sub hl [1, 2, 0, 4] rfl) hf
set_option maxHeartbeats 4000000 in
set_option maxRecDepth 100000 in
theorem l_X13_printDay_L20 (C : CX p l e s m args meth c cX13_printDay 5 RX13 (Option.some Jvm.ClassFile.FieldType.int) E) {o : Nat} (ho : K o = some (11, 0)) {r : Int32} {w' : Wd} (k : Int32 → Int32 → Wd → Option (Int32 × Wd)) (hk : ∀ (v1_20 : Int32) (v2_20 : Int32) (w : Wd) (H : Heap) (locs : List Loc) (ls : Array Slot), HQ E K z w s H locs → lv_has ls 5 [(1, .int v1_20), (2, .int v2_20), (0, rv E (some o))] → k v1_20 v2_20 w = some (r, w') → W p l e ({ frames := 19, cells := 0, slots := 0, locals := 416 } : Room) s m args below meth c H locs 0 0 (MQ below (QI E K z w' r) args s 0 0 (hA E)) (F0 m 118 ls [])) : ∀ (n : Nat) (v1_20 : Int32) (v2_20 : Int32) (w : Wd) (H : Heap) (locs : List Loc) (ls : Array Slot), HQ E K z w s H locs → lv_has ls 5 [(1, .int v1_20), (2, .int v2_20), (0, rv E (some o))] → f_X13_printDay_L20 K o k n v1_20 v2_20 w = some (r, w') → W p l e ({ frames := 19, cells := 0, slots := 0, locals := 416 } : Room) s m args below meth c H locs 0 0 (MQ below (QI E K z w' r) args s 0 0 (hA E)) (F0 m 20 ls []) := by
  obtain ⟨hx, hb, hml, hown, hts, hKs, hT, hb0, hlocks, hret⟩ := id C
  intro n
  induction n with
  | zero =>
    intro v1_20 v2_20 w H locs ls hH hl hf
    cases hf
  | succ n ih =>
    intro v1_20 v2_20 w H locs ls hH hl hf
    rw [f_X13_printDay_L20] at hf
    refine lv_iload_n hx hb dX13_printDay_20 rfl (lv_at hl 1 rfl) ?_
    refine lv_bipush (v := 8) hx hb dX13_printDay_21 (by decide) ?_
    refine lv_icmp_ge (tgt := 118) hx hb dX13_printDay_23 (by decide) (fun c6 => ?_) (fun c6 => ?_)
    · replace hf := (if_pos c6).symm.trans hf
      exact hk v1_20 v2_20 _ _ _ _ hH (lv_sub hl [0, 1, 2] rfl) hf
    · replace hf := (if_neg c6).symm.trans hf
      refine lv_iconst (v := 0) hx hb dX13_printDay_26 (by decide) ?_
      refine lv_istore_n (i := 3) (lv' := [(3, .int 0), (1, .int v1_20), (2, .int v2_20), (0, rv E (some o))]) hx hb dX13_printDay_27 rfl hl (by decide) rfl (fun ls hl => ?_)
      refine l_X13_printDay_L28  C ho _ (fun v1_28 v2_28 v3_28 w7 H locs ls hH hl hf => ?_) fu v1_20 v2_20 0 w _ _ _ hH (lv_sub hl [1, 2, 0, 3] rfl) hf
      refine lv_iinc (v := (v2_28 + 1)) (lv' := [(2, .int ((v2_28 + 1))), (1, .int v1_28), (3, .int v3_28), (0, rv E (some o))]) hx hb dX13_printDay_112 hl (k := 1) rfl rfl (by decide) rfl (fun ls hl => ?_)
      refine lv_goto (tgt := 20) hx hb dX13_printDay_115 (by decide) ?_
      exact ih v1_28 (v2_28 + 1) _ _ _ _ hH (lv_sub hl [1, 0, 3] rfl) hf
set_option maxHeartbeats 4000000 in
set_option maxRecDepth 100000 in
theorem k_X13_printDay (l : Launch) (E : Ev) (K : Kd) (z : Nat) (o : Nat) (a_1 : Int32) (w : Wd) (ho : K o = some (11, 0)) {r : Int32} {w' : Wd} (hf : f_X13_printDay K o a_1 w = some (r, w')) : Met l yX13_printDay (Cond.code yX13_printDay cX13_printDay 5 (Option.some Jvm.ClassFile.FieldType.int) :: bt) ({ frames := 19, cells := 0, slots := 0, locals := 416 } : Room) (va_Pc [rv E (some o), .int a_1] (HB E K w z)) (QI E K z w' r) 0 0 (hA E) := by
  refine Met.ofW (cc := cX13_printDay) (maxL := 5) (ret := (Option.some Jvm.ClassFile.FieldType.int)) (by decide) rfl ?_
  intro p e s m args below meth c s₁ B hml hv
  obtain ⟨rfl, hz, hP, hKs, hT, hb0⟩ := hv
  have C : CX p l e s m _ meth c cX13_printDay 5 RX13 (Option.some Jvm.ClassFile.FieldType.int) E := ⟨B.exec, B.bytes, hml, findClass_of_methodNamed B.named, fun w h => atoms_spec (ws := Cond.code yX13_printDay cX13_printDay 5 (Option.some Jvm.ClassFile.FieldType.int) :: bt) B.pre w (List.mem_cons_of_mem _ h), hKs, hT, by rw [hz]; exact hb0, B.notSynchronized, B.returns⟩
  have hH : HQ E K z w s s.heap [] := ⟨hP, va_S.rf, hz⟩
  obtain ⟨hx, hb, hml, hown, hts, hKs, hT, hb0, hlocks, hret⟩ := id C
  have hl := lv_entry [rv E (some o), .int a_1] (n := 5) (by simp [lg_len_nil, lg_len_i, lg_len_j, lg_len_q, lg_len_f, lg_len_d, lg_len_r])
  rw [lg_entry_eq]
  generalize (lg_sl [rv E (some o), .int a_1] ++ List.replicate (5 - (lg_sl [rv E (some o), .int a_1]).length) Slot.unset).toArray = ls at hl ⊢
  replace hl : lv_has ls 5 [(0, rv E (some o)), (1, .int a_1)] := by simpa only [lv_args, cat_q, cat_i, cat_j, reduceIte, Nat.reduceEqDiff, Nat.reduceAdd, Nat.zero_add] using hl
  generalize s.heap = H at hH ⊢
  unfold f_X13_printDay at hf
  refine hl_aload_n hx hb dX13_printDay_0 rfl (lv_at hl 0 rfl) ?_
  refine lv_iload_n hx hb dX13_printDay_1 rfl (lv_at hl 1 rfl) ?_
  obtain ⟨q1, hq1, hf⟩ := bnd hf
  refine hcS_i hx hb hml hown hts hKs hT hb0 hH (As := [.int a_1]) (rest := [rv E (some o)]) (k_X13_isDay l E K H.size a_1 w hq1) (gS m7_84 m7_85 m1_16 m7_86) hs_X13_isDay ⟨Nat.le_of_ble_eq_true rfl, Nat.le_of_ble_eq_true rfl, rfl, rfl⟩ hl.1 rfl (rcV rc0) rfl dX13_printDay_2 ⟨Nat.zero_le _, Nat.zero_le _⟩ (fun H locs hH => ?_)
  obtain ⟨q2, hq2, hf⟩ := bnd hf
  refine hcV_i hx hb hml hown hts hKs hT hb0 hH (As := [.int (b2i q1.1)]) (rest := []) (k_X13_is l E K H.size o q1.1 q1.2 ho hq2) (gV m7_68 m7_70 ms_47 m1_16 m7_71) hd_X13_is ⟨Nat.le_of_ble_eq_true rfl, Nat.le_of_ble_eq_true rfl, rfl, rfl⟩ rfl ho rfl rfl rfl hl.1 rfl rc0 rfl dX13_printDay_5 ⟨Nat.zero_le _, Nat.zero_le _⟩ (fun H locs hH => ?_)
  refine lv_if_ne (tgt := 13) hx hb dX13_printDay_8 (by decide) (fun c3 => ?_) (fun c3 => ?_)
  · replace hf := (if_neg c3).symm.trans hf
    refine hl_aload_n hx hb dX13_printDay_13 rfl (lv_at hl 0 rfl) ?_
    refine lv_iconst (v := 0) hx hb dX13_printDay_14 (by decide) ?_
    obtain ⟨w4, hw4, hf⟩ := bnd hf
    replace hw4 := Option.some.inj hw4
    refine p13_38 (v := 0) hx hb hts hown hKs hH rfl ho m6_219 dX13_printDay_15 (fun H locs hH => ?_)
    rw [hw4] at hH
    refine lv_iconst (v := 0) hx hb dX13_printDay_18 (by decide) ?_
    refine lv_istore_n (i := 2) (lv' := [(2, .int 0), (0, rv E (some o)), (1, .int a_1)]) hx hb dX13_printDay_19 rfl hl (by decide) rfl (fun ls hl => ?_)
    refine l_X13_printDay_L20  C ho _ (fun v1_20 v2_20 w5 H locs ls hH hl hf => ?_) fu a_1 0 w4 _ _ _ hH (lv_sub hl [2, 0, 1] rfl) hf
    refine hl_aload_n hx hb dX13_printDay_118 rfl (lv_at hl 2 rfl) ?_
    refine g13_38 hx hb hts hown hKs hH rfl ho m6_219 dX13_printDay_119 ?_
    exact hw_iret hx hb hret hf hH hlocks dX13_printDay_122
  · replace hf := (if_pos c3).symm.trans hf
    refine lv_iconst (v := 0) hx hb dX13_printDay_11 (by decide) ?_
    exact hw_iret hx hb hret hf hH hlocks dX13_printDay_12

theorem dX13_outputByte_0 : decode cX13_outputByte 0 = .ok (.aload_n 0, 1) := by decide +kernel
theorem dX13_outputByte_1 : decode cX13_outputByte 1 = .ok (.iconst 0, 1) := by decide +kernel
theorem dX13_outputByte_2 : decode cX13_outputByte 2 = .ok (.putfield 104, 3) := by decide +kernel
theorem dX13_outputByte_5 : decode cX13_outputByte 5 = .ok (.iload_n 1, 1) := by decide +kernel
theorem dX13_outputByte_6 : decode cX13_outputByte 6 = .ok (.i2l, 1) := by decide +kernel
theorem dX13_outputByte_7 : decode cX13_outputByte 7 = .ok (.lconst 0, 1) := by decide +kernel
theorem dX13_outputByte_8 : decode cX13_outputByte 8 = .ok (.aload_n 0, 1) := by decide +kernel
theorem dX13_outputByte_9 : decode cX13_outputByte 9 = .ok (.getfield 477, 3) := by decide +kernel
theorem dX13_outputByte_12 : decode cX13_outputByte 12 = .ok (.i2l, 1) := by decide +kernel
theorem dX13_outputByte_13 : decode cX13_outputByte 13 = .ok (.lconst 1, 1) := by decide +kernel
theorem dX13_outputByte_14 : decode cX13_outputByte 14 = .ok (.lsub, 1) := by decide +kernel
theorem dX13_outputByte_15 : decode cX13_outputByte 15 = .ok (.invokestatic 123, 3) := by decide +kernel
theorem dX13_outputByte_18 : decode cX13_outputByte 18 = .ok (.ifCond .eq 12, 3) := by decide +kernel
theorem dX13_outputByte_21 : decode cX13_outputByte 21 = .ok (.aload_n 0, 1) := by decide +kernel
theorem dX13_outputByte_22 : decode cX13_outputByte 22 = .ok (.getfield 80, 3) := by decide +kernel
theorem dX13_outputByte_25 : decode cX13_outputByte 25 = .ok (.iload_n 1, 1) := by decide +kernel
theorem dX13_outputByte_26 : decode cX13_outputByte 26 = .ok (.baload, 1) := by decide +kernel
theorem dX13_outputByte_27 : decode cX13_outputByte 27 = .ok (.goto 4, 3) := by decide +kernel
theorem dX13_outputByte_30 : decode cX13_outputByte 30 = .ok (.iconst (-1), 1) := by decide +kernel
theorem dX13_outputByte_31 : decode cX13_outputByte 31 = .ok (.ireturn, 1) := by decide +kernel
theorem hd_X13_outputByte : yX13_outputByte.cls = RX13 ∧ yX13_outputByte.cls ≠ "java/lang/invoke/MethodHandle" ∧ yX13_outputByte.cls ≠ "java/lang/invoke/VarHandle" ∧ (parseMethodDescriptor yX13_outputByte.desc).map (fun d => d.parameters.length) = some 1 := by decide +kernel
theorem hs_X13_outputByte : yX13_outputByte.cls ≠ "java/lang/invoke/MethodHandle" ∧ yX13_outputByte.cls ≠ "java/lang/invoke/VarHandle" ∧ (parseMethodDescriptor yX13_outputByte.desc).map (fun d => d.parameters.length) = some 1 := by decide +kernel
set_option maxHeartbeats 4000000 in
set_option maxRecDepth 100000 in
theorem k_X13_outputByte (l : Launch) (E : Ev) (K : Kd) (z : Nat) (o : Nat) (a_1 : Int32) (w : Wd) (ho : K o = some (11, 0)) {r : Int32} {w' : Wd} (hf : f_X13_outputByte K o a_1 w = some (r, w')) : Met l yX13_outputByte (Cond.code yX13_outputByte cX13_outputByte 2 (Option.some Jvm.ClassFile.FieldType.int) :: bt) ({ frames := 1, cells := 0, slots := 0, locals := 25 } : Room) (va_Pc [rv E (some o), .int a_1] (HB E K w z)) (QI E K z w' r) 0 0 (hA E) := by
  refine Met.ofW (cc := cX13_outputByte) (maxL := 2) (ret := (Option.some Jvm.ClassFile.FieldType.int)) (by decide) rfl ?_
  intro p e s m args below meth c s₁ B hml hv
  obtain ⟨rfl, hz, hP, hKs, hT, hb0⟩ := hv
  have C : CX p l e s m _ meth c cX13_outputByte 2 RX13 (Option.some Jvm.ClassFile.FieldType.int) E := ⟨B.exec, B.bytes, hml, findClass_of_methodNamed B.named, fun w h => atoms_spec (ws := Cond.code yX13_outputByte cX13_outputByte 2 (Option.some Jvm.ClassFile.FieldType.int) :: bt) B.pre w (List.mem_cons_of_mem _ h), hKs, hT, by rw [hz]; exact hb0, B.notSynchronized, B.returns⟩
  have hH : HQ E K z w s s.heap [] := ⟨hP, va_S.rf, hz⟩
  obtain ⟨hx, hb, hml, hown, hts, hKs, hT, hb0, hlocks, hret⟩ := id C
  have hl := lv_entry [rv E (some o), .int a_1] (n := 2) (by simp [lg_len_nil, lg_len_i, lg_len_j, lg_len_q, lg_len_f, lg_len_d, lg_len_r])
  rw [lg_entry_eq]
  generalize (lg_sl [rv E (some o), .int a_1] ++ List.replicate (2 - (lg_sl [rv E (some o), .int a_1]).length) Slot.unset).toArray = ls at hl ⊢
  replace hl : lv_has ls 2 [(0, rv E (some o)), (1, .int a_1)] := by simpa only [lv_args, cat_q, cat_i, cat_j, reduceIte, Nat.reduceEqDiff, Nat.reduceAdd, Nat.zero_add] using hl
  generalize s.heap = H at hH ⊢
  unfold f_X13_outputByte at hf
  refine hl_aload_n hx hb dX13_outputByte_0 rfl (lv_at hl 0 rfl) ?_
  refine lv_iconst (v := 0) hx hb dX13_outputByte_1 (by decide) ?_
  obtain ⟨w1, hw1, hf⟩ := bnd hf
  replace hw1 := Option.some.inj hw1
  refine p13_0 (v := 0) hx hb hts hown hKs hH rfl ho m6_181 dX13_outputByte_2 (fun H locs hH => ?_)
  rw [hw1] at hH
  refine lv_iload_n hx hb dX13_outputByte_5 rfl (lv_at hl 1 rfl) ?_
  refine lv_i2l (v := (a_1.toInt64)) hx hb dX13_outputByte_6 rfl ?_
  refine lv_lconst (v := 0) hx hb dX13_outputByte_7 rfl ?_
  refine hl_aload_n hx hb dX13_outputByte_8 rfl (lv_at hl 0 rfl) ?_
  refine g13_38 hx hb hts hown hKs hH rfl ho m6_219 dX13_outputByte_9 ?_
  refine lv_i2l (v := ((wI w1 1338 o).toInt64)) hx hb dX13_outputByte_12 rfl ?_
  refine lv_lconst (v := 1) hx hb dX13_outputByte_13 rfl ?_
  refine lv_lsub hx hb dX13_outputByte_14 ?_
  obtain ⟨q2, hq2, hf⟩ := bnd hf
  refine hcS_i hx hb hml hown hts hKs hT hb0 hH (As := [.long (a_1.toInt64), .long 0, .long (((wI w1 1338 o).toInt64) - 1)]) (rest := []) (k_X13_isIn l E K H.size (a_1.toInt64) 0 (((wI w1 1338 o).toInt64) - 1) w1 hq2) (gS m7_88 m7_89 m1_16 m7_90) hs_X13_isIn ⟨Nat.le_of_ble_eq_true rfl, Nat.le_of_ble_eq_true rfl, rfl, rfl⟩ hl.1 rfl rc0 rfl dX13_outputByte_15 ⟨Nat.zero_le _, Nat.zero_le _⟩ (fun H locs hH => ?_)
  refine lv_if_eq (tgt := 30) hx hb dX13_outputByte_18 (by decide) (fun c3 => ?_) (fun c3 => ?_)
  · replace hf := (if_pos c3).symm.trans hf
    refine lv_iconst (v := (-1)) hx hb dX13_outputByte_30 (by decide) ?_
    exact hw_iret hx hb hret hf hH hlocks dX13_outputByte_31
  · replace hf := (if_neg c3).symm.trans hf
    refine hl_aload_n hx hb dX13_outputByte_21 rfl (lv_at hl 0 rfl) ?_
    refine g13_37 hx hb hts hown hKs hH rfl ho m6_218 dX13_outputByte_22 ?_
    refine lv_iload_n hx hb dX13_outputByte_25 rfl (lv_at hl 1 rfl) ?_
    obtain ⟨a4, ha4, hf⟩ := bnd hf
    replace ha4 := cha_some ha4
    obtain ⟨j5, hj5, hf⟩ := bnd hf
    refine hw_bald hx hb hKs hH ha4.1 ha4.2 hj5 dX13_outputByte_26 ?_
    refine lv_goto (tgt := 31) hx hb dX13_outputByte_27 (by decide) ?_
    exact hw_iret hx hb hret hf hH hlocks dX13_outputByte_31

theorem dX1_init_0 : decode cX1_init 0 = .ok (.aload_n 0, 1) := by decide +kernel
theorem dX1_init_1 : decode cX1_init 1 = .ok (.invokespecial 3, 3) := by decide +kernel
theorem dX1_init_4 : decode cX1_init 4 = .ok (.aload_n 0, 1) := by decide +kernel
theorem dX1_init_5 : decode cX1_init 5 = .ok (.bipush 12, 2) := by decide +kernel
theorem dX1_init_7 : decode cX1_init 7 = .ok (.newarray .int, 2) := by decide +kernel
theorem dX1_init_9 : decode cX1_init 9 = .ok (.putfield 9, 3) := by decide +kernel
theorem dX1_init_12 : decode cX1_init 12 = .ok (.aload_n 0, 1) := by decide +kernel
theorem dX1_init_13 : decode cX1_init 13 = .ok (.bipush 6, 2) := by decide +kernel
theorem dX1_init_15 : decode cX1_init 15 = .ok (.newarray .int, 2) := by decide +kernel
theorem dX1_init_17 : decode cX1_init 17 = .ok (.putfield 15, 3) := by decide +kernel
theorem dX1_init_20 : decode cX1_init 20 = .ok (.aload_n 0, 1) := by decide +kernel
theorem dX1_init_21 : decode cX1_init 21 = .ok (.sipush 156, 3) := by decide +kernel
theorem dX1_init_24 : decode cX1_init 24 = .ok (.newarray .int, 2) := by decide +kernel
theorem dX1_init_26 : decode cX1_init 26 = .ok (.putfield 18, 3) := by decide +kernel
theorem dX1_init_29 : decode cX1_init 29 = .ok (.return_, 1) := by decide +kernel
theorem hd_X1_init : yX1_init.cls = RX1 ∧ yX1_init.cls ≠ "java/lang/invoke/MethodHandle" ∧ yX1_init.cls ≠ "java/lang/invoke/VarHandle" ∧ (parseMethodDescriptor yX1_init.desc).map (fun d => d.parameters.length) = some 0 := by decide +kernel
theorem hs_X1_init : yX1_init.cls ≠ "java/lang/invoke/MethodHandle" ∧ yX1_init.cls ≠ "java/lang/invoke/VarHandle" ∧ (parseMethodDescriptor yX1_init.desc).map (fun d => d.parameters.length) = some 0 := by decide +kernel
set_option maxHeartbeats 4000000 in
set_option maxRecDepth 100000 in
theorem k_X1_init (l : Launch) (E : Ev) (K : Kd) (n : Nat) (o : Nat) (w : Wd) {K' : Kd} {n' : Nat} {w' : Wd} (hf : f_X1_init K n o w = some (K', n', w')) : Met l yX1_init (Cond.code yX1_init cX1_init 1 (Option.none : Option Jvm.ClassFile.FieldType) :: bt) ({ frames := 1, cells := 3, slots := 174, locals := 12 } : Room) (va_Pc [rv E (some o)] (HB E K w (E.2.1 + n))) (QV E K' (E.2.1 + n') w') 3 174 (hA E) := by
  refine Met.ofW (cc := cX1_init) (maxL := 1) (ret := (Option.none : Option Jvm.ClassFile.FieldType)) (by decide) rfl ?_
  intro p e s m args below meth c s₁ B hml hv
  have hn2 : meth.name = "<init>" := (name_of_methodNamed B.named B.method).1
  obtain ⟨rfl, hz, hP, hKs, hT, hb0⟩ := hv
  have C : CX p l e s m _ meth c cX1_init 1 RX1 (Option.none : Option Jvm.ClassFile.FieldType) E := ⟨B.exec, B.bytes, hml, findClass_of_methodNamed B.named, fun w h => atoms_spec (ws := Cond.code yX1_init cX1_init 1 (Option.none : Option Jvm.ClassFile.FieldType) :: bt) B.pre w (List.mem_cons_of_mem _ h), hKs, hT, by rw [hz]; exact hb0, B.notSynchronized, B.returns⟩
  have hH : HQ E K (E.2.1 + n) w s s.heap [] := ⟨hP, va_S.rf, hz⟩
  obtain ⟨hx, hb, hml, hown, hts, hKs, hT, hb0, hlocks, hret⟩ := id C
  have hl := lv_entry [rv E (some o)] (n := 1) (by simp [lg_len_nil, lg_len_i, lg_len_j, lg_len_q, lg_len_f, lg_len_d, lg_len_r])
  rw [lg_entry_eq]
  generalize (lg_sl [rv E (some o)] ++ List.replicate (1 - (lg_sl [rv E (some o)]).length) Slot.unset).toArray = ls at hl ⊢
  replace hl : lv_has ls 1 [(0, rv E (some o))] := by simpa only [lv_args, cat_q, cat_i, cat_j, reduceIte, Nat.reduceEqDiff, Nat.reduceAdd, Nat.zero_add] using hl
  generalize s.heap = H at hH ⊢
  unfold f_X1_init at hf
  refine hl_aload_n hx hb dX1_init_0 rfl (lv_at hl 0 rfl) ?_
  refine hw_obj hx hb hml hl.1 hown hts m2_202 m1_37 m1_38 dX1_init_1 (Nat.le_of_ble_eq_true rfl) (Nat.le_of_ble_eq_true rfl) ?_
  refine hl_aload_n hx hb dX1_init_4 rfl (lv_at hl 0 rfl) ?_
  refine lv_bipush (v := 12) hx hb dX1_init_5 (by decide) ?_
  refine hw_newa20 (N := 12) hx hb hts m1_64 hKs hH (by decide) (by decide) (Nat.le_of_ble_eq_true rfl) (Nat.le_of_ble_eq_true rfl) (Nat.le_of_ble_eq_true rfl) dX1_init_7 (fun H hH => ?_)
  obtain ⟨K1, hK1, hf⟩ := bnd hf
  replace hK1 := Option.some.inj hK1
  obtain ⟨w2, hw2, hf⟩ := bnd hf
  replace hw2 := Option.some.inj hw2
  rw [hK1, hw2] at hH
  obtain ⟨a3, ha3, hf⟩ := bnd hf
  replace ha3 := chk_some ha3
  obtain ⟨w4, hw4, hf⟩ := bnd hf
  replace hw4 := Option.some.inj hw4
  refine pf1_0 (v := (some n)) hx hb hts hown hKs hH ha3.1 ha3.2 hn2 m2_203 dX1_init_9 (fun H locs hH => ?_)
  rw [hw4] at hH
  refine hl_aload_n hx hb dX1_init_12 rfl (lv_at hl 0 rfl) ?_
  refine lv_bipush (v := 6) hx hb dX1_init_13 (by decide) ?_
  refine hw_newa20 (N := 6) hx hb hts m1_64 hKs hH (by decide) (by decide) (Nat.le_of_ble_eq_true rfl) (Nat.le_of_ble_eq_true rfl) (Nat.le_of_ble_eq_true rfl) dX1_init_15 (fun H hH => ?_)
  obtain ⟨K5, hK5, hf⟩ := bnd hf
  replace hK5 := Option.some.inj hK5
  obtain ⟨w6, hw6, hf⟩ := bnd hf
  replace hw6 := Option.some.inj hw6
  rw [hK5, hw6] at hH
  obtain ⟨a7, ha7, hf⟩ := bnd hf
  replace ha7 := chk_some ha7
  obtain ⟨w8, hw8, hf⟩ := bnd hf
  replace hw8 := Option.some.inj hw8
  refine pf1_1 (v := (some (n + 1))) hx hb hts hown hKs hH ha7.1 ha7.2 hn2 m2_204 dX1_init_17 (fun H locs hH => ?_)
  rw [hw8] at hH
  refine hl_aload_n hx hb dX1_init_20 rfl (lv_at hl 0 rfl) ?_
  refine lv_sipush (v := 156) hx hb dX1_init_21 (by decide) ?_
  refine hw_newa20 (N := 156) hx hb hts m1_64 hKs hH (by decide) (by decide) (Nat.le_of_ble_eq_true rfl) (Nat.le_of_ble_eq_true rfl) (Nat.le_of_ble_eq_true rfl) dX1_init_24 (fun H hH => ?_)
  obtain ⟨K9, hK9, hf⟩ := bnd hf
  replace hK9 := Option.some.inj hK9
  obtain ⟨w10, hw10, hf⟩ := bnd hf
  replace hw10 := Option.some.inj hw10
  rw [hK9, hw10] at hH
  obtain ⟨a11, ha11, hf⟩ := bnd hf
  replace ha11 := chk_some ha11
  obtain ⟨w12, hw12, hf⟩ := bnd hf
  replace hw12 := Option.some.inj hw12
  refine pf1_2 (v := (some ((n + 1) + 1))) hx hb hts hown hKs hH ha11.1 ha11.2 hn2 m2_205 dX1_init_26 (fun H locs hH => ?_)
  rw [hw12] at hH
  exact hw_aret hx hb (Nat.le_of_ble_eq_true rfl) (Nat.le_of_ble_eq_true rfl) hret hf hH hlocks dX1_init_29

theorem dX1_isSpare_0 : decode cX1_isSpare 0 = .ok (.iconst 0, 1) := by decide +kernel
theorem dX1_isSpare_1 : decode cX1_isSpare 1 = .ok (.istore 4, 2) := by decide +kernel
theorem dX1_isSpare_3 : decode cX1_isSpare 3 = .ok (.iload 4, 2) := by decide +kernel
theorem dX1_isSpare_5 : decode cX1_isSpare 5 = .ok (.iload_n 1, 1) := by decide +kernel
theorem dX1_isSpare_6 : decode cX1_isSpare 6 = .ok (.if_icmp .ge 51, 3) := by decide +kernel
theorem dX1_isSpare_9 : decode cX1_isSpare 9 = .ok (.iload_n 3, 1) := by decide +kernel
theorem dX1_isSpare_10 : decode cX1_isSpare 10 = .ok (.iload_n 1, 1) := by decide +kernel
theorem dX1_isSpare_11 : decode cX1_isSpare 11 = .ok (.invokestatic 68, 3) := by decide +kernel
theorem dX1_isSpare_14 : decode cX1_isSpare 14 = .ok (.ifCond .ne 43, 3) := by decide +kernel
theorem dX1_isSpare_17 : decode cX1_isSpare 17 = .ok (.aload_n 0, 1) := by decide +kernel
theorem dX1_isSpare_18 : decode cX1_isSpare 18 = .ok (.getfield 15, 3) := by decide +kernel
theorem dX1_isSpare_21 : decode cX1_isSpare 21 = .ok (.iload 4, 2) := by decide +kernel
theorem dX1_isSpare_23 : decode cX1_isSpare 23 = .ok (.iaload, 1) := by decide +kernel
theorem dX1_isSpare_24 : decode cX1_isSpare 24 = .ok (.aload_n 0, 1) := by decide +kernel
theorem dX1_isSpare_25 : decode cX1_isSpare 25 = .ok (.getfield 15, 3) := by decide +kernel
theorem dX1_isSpare_28 : decode cX1_isSpare 28 = .ok (.iload_n 1, 1) := by decide +kernel
theorem dX1_isSpare_29 : decode cX1_isSpare 29 = .ok (.iaload, 1) := by decide +kernel
theorem dX1_isSpare_30 : decode cX1_isSpare 30 = .ok (.ixor, 1) := by decide +kernel
theorem dX1_isSpare_31 : decode cX1_isSpare 31 = .ok (.iload_n 2, 1) := by decide +kernel
theorem dX1_isSpare_32 : decode cX1_isSpare 32 = .ok (.iand, 1) := by decide +kernel
theorem dX1_isSpare_33 : decode cX1_isSpare 33 = .ok (.istore 5, 2) := by decide +kernel
theorem dX1_isSpare_35 : decode cX1_isSpare 35 = .ok (.iload_n 3, 1) := by decide +kernel
theorem dX1_isSpare_36 : decode cX1_isSpare 36 = .ok (.iload 4, 2) := by decide +kernel
theorem dX1_isSpare_38 : decode cX1_isSpare 38 = .ok (.invokestatic 68, 3) := by decide +kernel
theorem dX1_isSpare_41 : decode cX1_isSpare 41 = .ok (.ifCond .ne 10, 3) := by decide +kernel
theorem dX1_isSpare_44 : decode cX1_isSpare 44 = .ok (.iload 5, 2) := by decide +kernel
theorem dX1_isSpare_46 : decode cX1_isSpare 46 = .ok (.ifCond .ne 5, 3) := by decide +kernel
theorem dX1_isSpare_49 : decode cX1_isSpare 49 = .ok (.iconst 1, 1) := by decide +kernel
theorem dX1_isSpare_50 : decode cX1_isSpare 50 = .ok (.ireturn, 1) := by decide +kernel
theorem dX1_isSpare_51 : decode cX1_isSpare 51 = .ok (.iinc 4 1, 3) := by decide +kernel
theorem dX1_isSpare_54 : decode cX1_isSpare 54 = .ok (.goto (-51), 3) := by decide +kernel
theorem dX1_isSpare_57 : decode cX1_isSpare 57 = .ok (.iconst 0, 1) := by decide +kernel
theorem dX1_isSpare_58 : decode cX1_isSpare 58 = .ok (.ireturn, 1) := by decide +kernel
theorem hd_X1_isSpare : yX1_isSpare.cls = RX1 ∧ yX1_isSpare.cls ≠ "java/lang/invoke/MethodHandle" ∧ yX1_isSpare.cls ≠ "java/lang/invoke/VarHandle" ∧ (parseMethodDescriptor yX1_isSpare.desc).map (fun d => d.parameters.length) = some 3 := by decide +kernel
theorem hs_X1_isSpare : yX1_isSpare.cls ≠ "java/lang/invoke/MethodHandle" ∧ yX1_isSpare.cls ≠ "java/lang/invoke/VarHandle" ∧ (parseMethodDescriptor yX1_isSpare.desc).map (fun d => d.parameters.length) = some 3 := by decide +kernel
set_option maxHeartbeats 4000000 in
set_option maxRecDepth 100000 in
theorem l_X1_isSpare_L3 (C : CX p l e s m args meth c cX1_isSpare 6 RX1 (Option.some Jvm.ClassFile.FieldType.boolean) E) {o : Nat} (ho : K o = some (0, 0)) {r : Bool} {w' : Wd} (k : Int32 → Int32 → Int32 → Int32 → Wd → Option (Bool × Wd)) (hk : ∀ (v1_3 : Int32) (v2_3 : Int32) (v3_3 : Int32) (v4_3 : Int32) (w : Wd) (H : Heap) (locs : List Loc) (ls : Array Slot), HQ E K z w s H locs → lv_has ls 6 [(1, .int v1_3), (2, .int v2_3), (3, .int v3_3), (4, .int v4_3), (0, rv E (some o))] → k v1_3 v2_3 v3_3 v4_3 w = some (r, w') → W p l e ({ frames := 1, cells := 0, slots := 0, locals := 21 } : Room) s m args below meth c H locs 0 0 (MQ below (QI E K z w' (b2i r)) args s 0 0 (hA E)) (F0 m 57 ls [])) : ∀ (n : Nat) (v1_3 : Int32) (v2_3 : Int32) (v3_3 : Int32) (v4_3 : Int32) (w : Wd) (H : Heap) (locs : List Loc) (ls : Array Slot), HQ E K z w s H locs → lv_has ls 6 [(1, .int v1_3), (2, .int v2_3), (3, .int v3_3), (4, .int v4_3), (0, rv E (some o))] → f_X1_isSpare_L3 K o k n v1_3 v2_3 v3_3 v4_3 w = some (r, w') → W p l e ({ frames := 1, cells := 0, slots := 0, locals := 21 } : Room) s m args below meth c H locs 0 0 (MQ below (QI E K z w' (b2i r)) args s 0 0 (hA E)) (F0 m 3 ls []) := by
  obtain ⟨hx, hb, hml, hown, hts, hKs, hT, hb0, hlocks, hret⟩ := id C
  intro n
  induction n with
  | zero =>
    intro v1_3 v2_3 v3_3 v4_3 w H locs ls hH hl hf
    cases hf
  | succ n ih =>
    intro v1_3 v2_3 v3_3 v4_3 w H locs ls hH hl hf
    rw [f_X1_isSpare_L3] at hf
    refine lv_iload hx hb dX1_isSpare_3 (lv_at hl 3 rfl) ?_
    refine lv_iload_n hx hb dX1_isSpare_5 rfl (lv_at hl 0 rfl) ?_
    refine lv_icmp_ge (tgt := 57) hx hb dX1_isSpare_6 (by decide) (fun c2 => ?_) (fun c2 => ?_)
    · replace hf := (if_pos c2).symm.trans hf
      exact hk v1_3 v2_3 v3_3 v4_3 _ _ _ _ hH (lv_sub hl [0, 1, 2, 3, 4] rfl) hf
    · replace hf := (if_neg c2).symm.trans hf
      refine lv_iload_n hx hb dX1_isSpare_9 rfl (lv_at hl 2 rfl) ?_
      refine lv_iload_n hx hb dX1_isSpare_10 rfl (lv_at hl 0 rfl) ?_
      obtain ⟨q3, hq3, hf⟩ := bnd hf
      refine hcM_i hx hb hml hown hts hKs hT hb0 hH (As := [.int v3_3, .int v1_3]) (rest := []) (k_X12_has l E K H.size v3_3 v1_3 w hq3) m4_40 m3_194 m1_1 m3_195 hs_X12_has ⟨Nat.le_of_ble_eq_true rfl, Nat.le_of_ble_eq_true rfl, rfl, rfl⟩ hl.1 rfl rc0 rfl dX1_isSpare_11 ⟨Nat.zero_le _, Nat.zero_le _⟩ (fun H locs hH => ?_)
      refine lv_if_ne (tgt := 57) hx hb dX1_isSpare_14 (by decide) (fun c4 => ?_) (fun c4 => ?_)
      · replace hf := (if_neg c4).symm.trans hf
        exact hk v1_3 v2_3 v3_3 v4_3 _ _ _ _ hH (lv_sub hl [0, 1, 2, 3, 4] rfl) hf
      · replace hf := (if_pos c4).symm.trans hf
        refine hl_aload_n hx hb dX1_isSpare_17 rfl (lv_at hl 4 rfl) ?_
        refine g1_1 hx hb hts hown hKs hH rfl ho m2_204 dX1_isSpare_18 ?_
        refine lv_iload hx hb dX1_isSpare_21 (lv_at hl 3 rfl) ?_
        obtain ⟨a5, ha5, hf⟩ := bnd hf
        replace ha5 := cha_some ha5
        obtain ⟨j6, hj6, hf⟩ := bnd hf
        refine hw_iald hx hb hKs hH ha5.1 ha5.2 hj6 dX1_isSpare_23 ?_
        refine hl_aload_n hx hb dX1_isSpare_24 rfl (lv_at hl 4 rfl) ?_
        refine g1_1 hx hb hts hown hKs hH rfl ho m2_204 dX1_isSpare_25 ?_
        refine lv_iload_n hx hb dX1_isSpare_28 rfl (lv_at hl 0 rfl) ?_
        obtain ⟨j7, hj7, hf⟩ := bnd hf
        refine hw_iald hx hb hKs hH ha5.1 ha5.2 hj7 dX1_isSpare_29 ?_
        refine lv_ixor hx hb dX1_isSpare_30 ?_
        refine lv_iload_n hx hb dX1_isSpare_31 rfl (lv_at hl 1 rfl) ?_
        refine lv_iand hx hb dX1_isSpare_32 ?_
        refine lv_istore (i := 5) (lv' := [(5, .int ((((aI q3.2 a5.1 j6) ^^^ (aI q3.2 a5.1 j7)) &&& v2_3))), (1, .int v1_3), (2, .int v2_3), (3, .int v3_3), (4, .int v4_3), (0, rv E (some o))]) hx hb dX1_isSpare_33 hl (by decide) rfl (fun ls hl => ?_)
        refine lv_iload_n hx hb dX1_isSpare_35 rfl (lv_at hl 3 rfl) ?_
        refine lv_iload hx hb dX1_isSpare_36 (lv_at hl 4 rfl) ?_
        obtain ⟨q8, hq8, hf⟩ := bnd hf
        refine hcM_i hx hb hml hown hts hKs hT hb0 hH (As := [.int v3_3, .int v4_3]) (rest := []) (k_X12_has l E K H.size v3_3 v4_3 q3.2 hq8) m4_40 m3_194 m1_1 m3_195 hs_X12_has ⟨Nat.le_of_ble_eq_true rfl, Nat.le_of_ble_eq_true rfl, rfl, rfl⟩ hl.1 rfl rc0 rfl dX1_isSpare_38 ⟨Nat.zero_le _, Nat.zero_le _⟩ (fun H locs hH => ?_)
        refine lv_if_ne (tgt := 51) hx hb dX1_isSpare_41 (by decide) (fun c9 => ?_) (fun c9 => ?_)
        · replace hf := (if_neg c9).symm.trans hf
          refine lv_iinc (v := (v4_3 + 1)) (lv' := [(4, .int ((v4_3 + 1))), (5, .int ((((aI q3.2 a5.1 j6) ^^^ (aI q3.2 a5.1 j7)) &&& v2_3))), (1, .int v1_3), (2, .int v2_3), (3, .int v3_3), (0, rv E (some o))]) hx hb dX1_isSpare_51 hl (k := 4) rfl rfl (by decide) rfl (fun ls hl => ?_)
          refine lv_goto (tgt := 3) hx hb dX1_isSpare_54 (by decide) ?_
          exact ih v1_3 v2_3 v3_3 (v4_3 + 1) _ _ _ _ hH (lv_sub hl [2, 3, 4, 0, 5] rfl) hf
        · replace hf := (if_pos c9).symm.trans hf
          refine lv_iload hx hb dX1_isSpare_44 (lv_at hl 0 rfl) ?_
          refine lv_if_ne (tgt := 51) hx hb dX1_isSpare_46 (by decide) (fun c10 => ?_) (fun c10 => ?_)
          · replace hf := (if_neg c10).symm.trans hf
            refine lv_iinc (v := (v4_3 + 1)) (lv' := [(4, .int ((v4_3 + 1))), (5, .int ((((aI q3.2 a5.1 j6) ^^^ (aI q3.2 a5.1 j7)) &&& v2_3))), (1, .int v1_3), (2, .int v2_3), (3, .int v3_3), (0, rv E (some o))]) hx hb dX1_isSpare_51 hl (k := 4) rfl rfl (by decide) rfl (fun ls hl => ?_)
            refine lv_goto (tgt := 3) hx hb dX1_isSpare_54 (by decide) ?_
            exact ih v1_3 v2_3 v3_3 (v4_3 + 1) _ _ _ _ hH (lv_sub hl [2, 3, 4, 0, 5] rfl) hf
          · replace hf := (if_pos c10).symm.trans hf
            refine lv_iconst (v := 1) hx hb dX1_isSpare_49 (by decide) ?_
            exact hw_zret hx hb hret rfl hf hH hlocks dX1_isSpare_50
set_option maxHeartbeats 4000000 in
set_option maxRecDepth 100000 in
theorem k_X1_isSpare (l : Launch) (E : Ev) (K : Kd) (z : Nat) (o : Nat) (a_1 : Int32) (a_2 : Int32) (a_3 : Int32) (w : Wd) (ho : K o = some (0, 0)) {r : Bool} {w' : Wd} (hf : f_X1_isSpare K o a_1 a_2 a_3 w = some (r, w')) : Met l yX1_isSpare (Cond.code yX1_isSpare cX1_isSpare 6 (Option.some Jvm.ClassFile.FieldType.boolean) :: bt) ({ frames := 1, cells := 0, slots := 0, locals := 21 } : Room) (va_Pc [rv E (some o), .int a_1, .int a_2, .int a_3] (HB E K w z)) (QI E K z w' (b2i r)) 0 0 (hA E) := by
  refine Met.ofW (cc := cX1_isSpare) (maxL := 6) (ret := (Option.some Jvm.ClassFile.FieldType.boolean)) (by decide) rfl ?_
  intro p e s m args below meth c s₁ B hml hv
  obtain ⟨rfl, hz, hP, hKs, hT, hb0⟩ := hv
  have C : CX p l e s m _ meth c cX1_isSpare 6 RX1 (Option.some Jvm.ClassFile.FieldType.boolean) E := ⟨B.exec, B.bytes, hml, findClass_of_methodNamed B.named, fun w h => atoms_spec (ws := Cond.code yX1_isSpare cX1_isSpare 6 (Option.some Jvm.ClassFile.FieldType.boolean) :: bt) B.pre w (List.mem_cons_of_mem _ h), hKs, hT, by rw [hz]; exact hb0, B.notSynchronized, B.returns⟩
  have hH : HQ E K z w s s.heap [] := ⟨hP, va_S.rf, hz⟩
  obtain ⟨hx, hb, hml, hown, hts, hKs, hT, hb0, hlocks, hret⟩ := id C
  have hl := lv_entry [rv E (some o), .int a_1, .int a_2, .int a_3] (n := 6) (by simp [lg_len_nil, lg_len_i, lg_len_j, lg_len_q, lg_len_f, lg_len_d, lg_len_r])
  rw [lg_entry_eq]
  generalize (lg_sl [rv E (some o), .int a_1, .int a_2, .int a_3] ++ List.replicate (6 - (lg_sl [rv E (some o), .int a_1, .int a_2, .int a_3]).length) Slot.unset).toArray = ls at hl ⊢
  replace hl : lv_has ls 6 [(0, rv E (some o)), (1, .int a_1), (2, .int a_2), (3, .int a_3)] := by simpa only [lv_args, cat_q, cat_i, cat_j, reduceIte, Nat.reduceEqDiff, Nat.reduceAdd, Nat.zero_add] using hl
  generalize s.heap = H at hH ⊢
  unfold f_X1_isSpare at hf
  refine lv_iconst (v := 0) hx hb dX1_isSpare_0 (by decide) ?_
  refine lv_istore (i := 4) (lv' := [(4, .int 0), (0, rv E (some o)), (1, .int a_1), (2, .int a_2), (3, .int a_3)]) hx hb dX1_isSpare_1 hl (by decide) rfl (fun ls hl => ?_)
  refine l_X1_isSpare_L3  C ho _ (fun v1_3 v2_3 v3_3 v4_3 w1 H locs ls hH hl hf => ?_) fu a_1 a_2 a_3 0 w _ _ _ hH (lv_sub hl [2, 3, 4, 0, 1] rfl) hf
  refine lv_iconst (v := 0) hx hb dX1_isSpare_57 (by decide) ?_
  exact hw_zret hx hb hret rfl hf hH hlocks dX1_isSpare_58

theorem dX1_giveTo_0 : decode cX1_giveTo 0 = .ok (.iload_n 1, 1) := by decide +kernel
theorem dX1_giveTo_1 : decode cX1_giveTo 1 = .ok (.bipush 12, 2) := by decide +kernel
theorem dX1_giveTo_3 : decode cX1_giveTo 3 = .ok (.imul, 1) := by decide +kernel
theorem dX1_giveTo_4 : decode cX1_giveTo 4 = .ok (.istore 4, 2) := by decide +kernel
theorem dX1_giveTo_6 : decode cX1_giveTo 6 = .ok (.iconst 0, 1) := by decide +kernel
theorem dX1_giveTo_7 : decode cX1_giveTo 7 = .ok (.istore 5, 2) := by decide +kernel
theorem dX1_giveTo_9 : decode cX1_giveTo 9 = .ok (.iload 5, 2) := by decide +kernel
theorem dX1_giveTo_11 : decode cX1_giveTo 11 = .ok (.aload_n 0, 1) := by decide +kernel
theorem dX1_giveTo_12 : decode cX1_giveTo 12 = .ok (.getfield 29, 3) := by decide +kernel
theorem dX1_giveTo_15 : decode cX1_giveTo 15 = .ok (.if_icmp .ge 60, 3) := by decide +kernel
theorem dX1_giveTo_18 : decode cX1_giveTo 18 = .ok (.aload_n 0, 1) := by decide +kernel
theorem dX1_giveTo_19 : decode cX1_giveTo 19 = .ok (.getfield 9, 3) := by decide +kernel
theorem dX1_giveTo_22 : decode cX1_giveTo 22 = .ok (.iload_n 2, 1) := by decide +kernel
theorem dX1_giveTo_23 : decode cX1_giveTo 23 = .ok (.iaload, 1) := by decide +kernel
theorem dX1_giveTo_24 : decode cX1_giveTo 24 = .ok (.iload 5, 2) := by decide +kernel
theorem dX1_giveTo_26 : decode cX1_giveTo 26 = .ok (.invokestatic 68, 3) := by decide +kernel
theorem dX1_giveTo_29 : decode cX1_giveTo 29 = .ok (.ifCond .eq 9, 3) := by decide +kernel
theorem dX1_giveTo_32 : decode cX1_giveTo 32 = .ok (.iconst 1, 1) := by decide +kernel
theorem dX1_giveTo_33 : decode cX1_giveTo 33 = .ok (.iload_n 3, 1) := by decide +kernel
theorem dX1_giveTo_34 : decode cX1_giveTo 34 = .ok (.ishl, 1) := by decide +kernel
theorem dX1_giveTo_35 : decode cX1_giveTo 35 = .ok (.goto 4, 3) := by decide +kernel
theorem dX1_giveTo_38 : decode cX1_giveTo 38 = .ok (.iconst 0, 1) := by decide +kernel
theorem dX1_giveTo_39 : decode cX1_giveTo 39 = .ok (.istore 6, 2) := by decide +kernel
theorem dX1_giveTo_41 : decode cX1_giveTo 41 = .ok (.aload_n 0, 1) := by decide +kernel
theorem dX1_giveTo_42 : decode cX1_giveTo 42 = .ok (.getfield 18, 3) := by decide +kernel
theorem dX1_giveTo_45 : decode cX1_giveTo 45 = .ok (.iload 4, 2) := by decide +kernel
theorem dX1_giveTo_47 : decode cX1_giveTo 47 = .ok (.bipush 12, 2) := by decide +kernel
theorem dX1_giveTo_49 : decode cX1_giveTo 49 = .ok (.iadd, 1) := by decide +kernel
theorem dX1_giveTo_50 : decode cX1_giveTo 50 = .ok (.iload 5, 2) := by decide +kernel
theorem dX1_giveTo_52 : decode cX1_giveTo 52 = .ok (.iadd, 1) := by decide +kernel
theorem dX1_giveTo_53 : decode cX1_giveTo 53 = .ok (.aload_n 0, 1) := by decide +kernel
theorem dX1_giveTo_54 : decode cX1_giveTo 54 = .ok (.getfield 18, 3) := by decide +kernel
theorem dX1_giveTo_57 : decode cX1_giveTo 57 = .ok (.iload 4, 2) := by decide +kernel
theorem dX1_giveTo_59 : decode cX1_giveTo 59 = .ok (.iload 5, 2) := by decide +kernel
theorem dX1_giveTo_61 : decode cX1_giveTo 61 = .ok (.iadd, 1) := by decide +kernel
theorem dX1_giveTo_62 : decode cX1_giveTo 62 = .ok (.iaload, 1) := by decide +kernel
theorem dX1_giveTo_63 : decode cX1_giveTo 63 = .ok (.iload 6, 2) := by decide +kernel
theorem dX1_giveTo_65 : decode cX1_giveTo 65 = .ok (.iconst (-1), 1) := by decide +kernel
theorem dX1_giveTo_66 : decode cX1_giveTo 66 = .ok (.ixor, 1) := by decide +kernel
theorem dX1_giveTo_67 : decode cX1_giveTo 67 = .ok (.iand, 1) := by decide +kernel
theorem dX1_giveTo_68 : decode cX1_giveTo 68 = .ok (.iastore, 1) := by decide +kernel
theorem dX1_giveTo_69 : decode cX1_giveTo 69 = .ok (.iinc 5 1, 3) := by decide +kernel
theorem dX1_giveTo_72 : decode cX1_giveTo 72 = .ok (.goto (-63), 3) := by decide +kernel
theorem dX1_giveTo_75 : decode cX1_giveTo 75 = .ok (.return_, 1) := by decide +kernel
theorem hd_X1_giveTo : yX1_giveTo.cls = RX1 ∧ yX1_giveTo.cls ≠ "java/lang/invoke/MethodHandle" ∧ yX1_giveTo.cls ≠ "java/lang/invoke/VarHandle" ∧ (parseMethodDescriptor yX1_giveTo.desc).map (fun d => d.parameters.length) = some 3 := by decide +kernel
theorem hs_X1_giveTo : yX1_giveTo.cls ≠ "java/lang/invoke/MethodHandle" ∧ yX1_giveTo.cls ≠ "java/lang/invoke/VarHandle" ∧ (parseMethodDescriptor yX1_giveTo.desc).map (fun d => d.parameters.length) = some 3 := by decide +kernel
set_option maxHeartbeats 4000000 in
set_option maxRecDepth 100000 in
theorem l_X1_giveTo_L9 (C : CX p l e s m args meth c cX1_giveTo 7 RX1 (Option.none : Option Jvm.ClassFile.FieldType) E) {o : Nat} (ho : K o = some (0, 0)) {w' : Wd} (k : Int32 → Int32 → Int32 → Int32 → Int32 → Wd → Option Wd) (hk : ∀ (v1_9 : Int32) (v2_9 : Int32) (v3_9 : Int32) (v4_9 : Int32) (v5_9 : Int32) (w : Wd) (H : Heap) (locs : List Loc) (ls : Array Slot), HQ E K z w s H locs → lv_has ls 7 [(1, .int v1_9), (2, .int v2_9), (3, .int v3_9), (4, .int v4_9), (5, .int v5_9), (0, rv E (some o))] → k v1_9 v2_9 v3_9 v4_9 v5_9 w = some w' → W p l e ({ frames := 1, cells := 0, slots := 0, locals := 21 } : Room) s m args below meth c H locs 0 0 (MQ below (QV E K z w') args s 0 0 (hA E)) (F0 m 75 ls [])) : ∀ (n : Nat) (v1_9 : Int32) (v2_9 : Int32) (v3_9 : Int32) (v4_9 : Int32) (v5_9 : Int32) (w : Wd) (H : Heap) (locs : List Loc) (ls : Array Slot), HQ E K z w s H locs → lv_has ls 7 [(1, .int v1_9), (2, .int v2_9), (3, .int v3_9), (4, .int v4_9), (5, .int v5_9), (0, rv E (some o))] → f_X1_giveTo_L9 K o k n v1_9 v2_9 v3_9 v4_9 v5_9 w = some w' → W p l e ({ frames := 1, cells := 0, slots := 0, locals := 21 } : Room) s m args below meth c H locs 0 0 (MQ below (QV E K z w') args s 0 0 (hA E)) (F0 m 9 ls []) := by
  obtain ⟨hx, hb, hml, hown, hts, hKs, hT, hb0, hlocks, hret⟩ := id C
  intro n
  induction n with
  | zero =>
    intro v1_9 v2_9 v3_9 v4_9 v5_9 w H locs ls hH hl hf
    cases hf
  | succ n ih =>
    intro v1_9 v2_9 v3_9 v4_9 v5_9 w H locs ls hH hl hf
    rw [f_X1_giveTo_L9] at hf
    refine lv_iload hx hb dX1_giveTo_9 (lv_at hl 4 rfl) ?_
    refine hl_aload_n hx hb dX1_giveTo_11 rfl (lv_at hl 5 rfl) ?_
    refine g1_3 hx hb hts hown hKs hH rfl ho m2_206 dX1_giveTo_12 ?_
    refine lv_icmp_ge (tgt := 75) hx hb dX1_giveTo_15 (by decide) (fun c2 => ?_) (fun c2 => ?_)
    · replace hf := (if_pos c2).symm.trans hf
      exact hk v1_9 v2_9 v3_9 v4_9 v5_9 _ _ _ _ hH (lv_sub hl [0, 1, 2, 3, 4, 5] rfl) hf
    · replace hf := (if_neg c2).symm.trans hf
      refine hl_aload_n hx hb dX1_giveTo_18 rfl (lv_at hl 5 rfl) ?_
      refine g1_0 hx hb hts hown hKs hH rfl ho m2_203 dX1_giveTo_19 ?_
      refine lv_iload_n hx hb dX1_giveTo_22 rfl (lv_at hl 1 rfl) ?_
      obtain ⟨a3, ha3, hf⟩ := bnd hf
      replace ha3 := cha_some ha3
      obtain ⟨j4, hj4, hf⟩ := bnd hf
      refine hw_iald hx hb hKs hH ha3.1 ha3.2 hj4 dX1_giveTo_23 ?_
      refine lv_iload hx hb dX1_giveTo_24 (lv_at hl 4 rfl) ?_
      obtain ⟨q5, hq5, hf⟩ := bnd hf
      refine hcM_i hx hb hml hown hts hKs hT hb0 hH (As := [.int ((aI w a3.1 j4)), .int v5_9]) (rest := []) (k_X12_has l E K H.size (aI w a3.1 j4) v5_9 w hq5) m4_40 m3_194 m1_1 m3_195 hs_X12_has ⟨Nat.le_of_ble_eq_true rfl, Nat.le_of_ble_eq_true rfl, rfl, rfl⟩ hl.1 rfl rc0 rfl dX1_giveTo_26 ⟨Nat.zero_le _, Nat.zero_le _⟩ (fun H locs hH => ?_)
      refine lv_if_eq (tgt := 38) hx hb dX1_giveTo_29 (by decide) (fun c6 => ?_) (fun c6 => ?_)
      · replace hf := (if_pos c6).symm.trans hf
        refine lv_iconst (v := 0) hx hb dX1_giveTo_38 (by decide) ?_
        refine lv_istore (i := 6) (lv' := [(6, .int 0), (1, .int v1_9), (2, .int v2_9), (3, .int v3_9), (4, .int v4_9), (5, .int v5_9), (0, rv E (some o))]) hx hb dX1_giveTo_39 hl (by decide) rfl (fun ls hl => ?_)
        refine hl_aload_n hx hb dX1_giveTo_41 rfl (lv_at hl 6 rfl) ?_
        refine g1_2 hx hb hts hown hKs hH rfl ho m2_205 dX1_giveTo_42 ?_
        refine lv_iload hx hb dX1_giveTo_45 (lv_at hl 4 rfl) ?_
        refine lv_bipush (v := 12) hx hb dX1_giveTo_47 (by decide) ?_
        refine lv_iadd hx hb dX1_giveTo_49 ?_
        refine lv_iload hx hb dX1_giveTo_50 (lv_at hl 5 rfl) ?_
        refine lv_iadd hx hb dX1_giveTo_52 ?_
        refine hl_aload_n hx hb dX1_giveTo_53 rfl (lv_at hl 6 rfl) ?_
        refine g1_2 hx hb hts hown hKs hH rfl ho m2_205 dX1_giveTo_54 ?_
        refine lv_iload hx hb dX1_giveTo_57 (lv_at hl 4 rfl) ?_
        refine lv_iload hx hb dX1_giveTo_59 (lv_at hl 5 rfl) ?_
        refine lv_iadd hx hb dX1_giveTo_61 ?_
        obtain ⟨a7, ha7, hf⟩ := bnd hf
        replace ha7 := cha_some ha7
        obtain ⟨j8, hj8, hf⟩ := bnd hf
        refine hw_iald hx hb hKs hH ha7.1 ha7.2 hj8 dX1_giveTo_62 ?_
        refine lv_iload hx hb dX1_giveTo_63 (lv_at hl 0 rfl) ?_
        refine lv_iconst (v := (-1)) hx hb dX1_giveTo_65 (by decide) ?_
        refine lv_ixor hx hb dX1_giveTo_66 ?_
        refine lv_iand hx hb dX1_giveTo_67 ?_
        obtain ⟨j9, hj9, hf⟩ := bnd hf
        obtain ⟨w10, hw10, hf⟩ := bnd hf
        replace hw10 := Option.some.inj hw10
        refine hw_iast (x := ((aI q5.2 a7.1 j8) &&& (0 ^^^ (-1)))) hx hb hKs hH ha7.1 ha7.2 hj9 dX1_giveTo_68 (fun H locs hH => ?_)
        rw [hw10] at hH
        refine lv_iinc (v := (v5_9 + 1)) (lv' := [(5, .int ((v5_9 + 1))), (6, .int 0), (1, .int v1_9), (2, .int v2_9), (3, .int v3_9), (4, .int v4_9), (0, rv E (some o))]) hx hb dX1_giveTo_69 hl (k := 5) rfl rfl (by decide) rfl (fun ls hl => ?_)
        refine lv_goto (tgt := 9) hx hb dX1_giveTo_72 (by decide) ?_
        exact ih v1_9 v2_9 v3_9 v4_9 (v5_9 + 1) _ _ _ _ hH (lv_sub hl [2, 3, 4, 5, 0, 6] rfl) hf
      · replace hf := (if_neg c6).symm.trans hf
        refine lv_iconst (v := 1) hx hb dX1_giveTo_32 (by decide) ?_
        refine lv_iload_n hx hb dX1_giveTo_33 rfl (lv_at hl 2 rfl) ?_
        refine lv_ishl hx hb dX1_giveTo_34 ?_
        refine lv_goto (tgt := 39) hx hb dX1_giveTo_35 (by decide) ?_
        refine lv_istore (i := 6) (lv' := [(6, .int ((1 <<< (v3_9 &&& 31)))), (1, .int v1_9), (2, .int v2_9), (3, .int v3_9), (4, .int v4_9), (5, .int v5_9), (0, rv E (some o))]) hx hb dX1_giveTo_39 hl (by decide) rfl (fun ls hl => ?_)
        refine hl_aload_n hx hb dX1_giveTo_41 rfl (lv_at hl 6 rfl) ?_
        refine g1_2 hx hb hts hown hKs hH rfl ho m2_205 dX1_giveTo_42 ?_
        refine lv_iload hx hb dX1_giveTo_45 (lv_at hl 4 rfl) ?_
        refine lv_bipush (v := 12) hx hb dX1_giveTo_47 (by decide) ?_
        refine lv_iadd hx hb dX1_giveTo_49 ?_
        refine lv_iload hx hb dX1_giveTo_50 (lv_at hl 5 rfl) ?_
        refine lv_iadd hx hb dX1_giveTo_52 ?_
        refine hl_aload_n hx hb dX1_giveTo_53 rfl (lv_at hl 6 rfl) ?_
        refine g1_2 hx hb hts hown hKs hH rfl ho m2_205 dX1_giveTo_54 ?_
        refine lv_iload hx hb dX1_giveTo_57 (lv_at hl 4 rfl) ?_
        refine lv_iload hx hb dX1_giveTo_59 (lv_at hl 5 rfl) ?_
        refine lv_iadd hx hb dX1_giveTo_61 ?_
        obtain ⟨a11, ha11, hf⟩ := bnd hf
        replace ha11 := cha_some ha11
        obtain ⟨j12, hj12, hf⟩ := bnd hf
        refine hw_iald hx hb hKs hH ha11.1 ha11.2 hj12 dX1_giveTo_62 ?_
        refine lv_iload hx hb dX1_giveTo_63 (lv_at hl 0 rfl) ?_
        refine lv_iconst (v := (-1)) hx hb dX1_giveTo_65 (by decide) ?_
        refine lv_ixor hx hb dX1_giveTo_66 ?_
        refine lv_iand hx hb dX1_giveTo_67 ?_
        obtain ⟨j13, hj13, hf⟩ := bnd hf
        obtain ⟨w14, hw14, hf⟩ := bnd hf
        replace hw14 := Option.some.inj hw14
        refine hw_iast (x := ((aI q5.2 a11.1 j12) &&& ((1 <<< (v3_9 &&& 31)) ^^^ (-1)))) hx hb hKs hH ha11.1 ha11.2 hj13 dX1_giveTo_68 (fun H locs hH => ?_)
        rw [hw14] at hH
        refine lv_iinc (v := (v5_9 + 1)) (lv' := [(5, .int ((v5_9 + 1))), (6, .int ((1 <<< (v3_9 &&& 31)))), (1, .int v1_9), (2, .int v2_9), (3, .int v3_9), (4, .int v4_9), (0, rv E (some o))]) hx hb dX1_giveTo_69 hl (k := 5) rfl rfl (by decide) rfl (fun ls hl => ?_)
        refine lv_goto (tgt := 9) hx hb dX1_giveTo_72 (by decide) ?_
        exact ih v1_9 v2_9 v3_9 v4_9 (v5_9 + 1) _ _ _ _ hH (lv_sub hl [2, 3, 4, 5, 0, 6] rfl) hf
set_option maxHeartbeats 4000000 in
set_option maxRecDepth 100000 in
theorem k_X1_giveTo (l : Launch) (E : Ev) (K : Kd) (z : Nat) (o : Nat) (a_1 : Int32) (a_2 : Int32) (a_3 : Int32) (w : Wd) (ho : K o = some (0, 0)) {w' : Wd} (hf : f_X1_giveTo K o a_1 a_2 a_3 w = some w') : Met l yX1_giveTo (Cond.code yX1_giveTo cX1_giveTo 7 (Option.none : Option Jvm.ClassFile.FieldType) :: bt) ({ frames := 1, cells := 0, slots := 0, locals := 21 } : Room) (va_Pc [rv E (some o), .int a_1, .int a_2, .int a_3] (HB E K w z)) (QV E K z w') 0 0 (hA E) := by
  refine Met.ofW (cc := cX1_giveTo) (maxL := 7) (ret := (Option.none : Option Jvm.ClassFile.FieldType)) (by decide) rfl ?_
  intro p e s m args below meth c s₁ B hml hv
  obtain ⟨rfl, hz, hP, hKs, hT, hb0⟩ := hv
  have C : CX p l e s m _ meth c cX1_giveTo 7 RX1 (Option.none : Option Jvm.ClassFile.FieldType) E := ⟨B.exec, B.bytes, hml, findClass_of_methodNamed B.named, fun w h => atoms_spec (ws := Cond.code yX1_giveTo cX1_giveTo 7 (Option.none : Option Jvm.ClassFile.FieldType) :: bt) B.pre w (List.mem_cons_of_mem _ h), hKs, hT, by rw [hz]; exact hb0, B.notSynchronized, B.returns⟩
  have hH : HQ E K z w s s.heap [] := ⟨hP, va_S.rf, hz⟩
  obtain ⟨hx, hb, hml, hown, hts, hKs, hT, hb0, hlocks, hret⟩ := id C
  have hl := lv_entry [rv E (some o), .int a_1, .int a_2, .int a_3] (n := 7) (by simp [lg_len_nil, lg_len_i, lg_len_j, lg_len_q, lg_len_f, lg_len_d, lg_len_r])
  rw [lg_entry_eq]
  generalize (lg_sl [rv E (some o), .int a_1, .int a_2, .int a_3] ++ List.replicate (7 - (lg_sl [rv E (some o), .int a_1, .int a_2, .int a_3]).length) Slot.unset).toArray = ls at hl ⊢
  replace hl : lv_has ls 7 [(0, rv E (some o)), (1, .int a_1), (2, .int a_2), (3, .int a_3)] := by simpa only [lv_args, cat_q, cat_i, cat_j, reduceIte, Nat.reduceEqDiff, Nat.reduceAdd, Nat.zero_add] using hl
  generalize s.heap = H at hH ⊢
  unfold f_X1_giveTo at hf
  refine lv_iload_n hx hb dX1_giveTo_0 rfl (lv_at hl 1 rfl) ?_
  refine lv_bipush (v := 12) hx hb dX1_giveTo_1 (by decide) ?_
  refine lv_imul hx hb dX1_giveTo_3 ?_
  refine lv_istore (i := 4) (lv' := [(4, .int ((a_1 * 12))), (0, rv E (some o)), (1, .int a_1), (2, .int a_2), (3, .int a_3)]) hx hb dX1_giveTo_4 hl (by decide) rfl (fun ls hl => ?_)
  refine lv_iconst (v := 0) hx hb dX1_giveTo_6 (by decide) ?_
  refine lv_istore (i := 5) (lv' := [(5, .int 0), (4, .int ((a_1 * 12))), (0, rv E (some o)), (1, .int a_1), (2, .int a_2), (3, .int a_3)]) hx hb dX1_giveTo_7 hl (by decide) rfl (fun ls hl => ?_)
  refine l_X1_giveTo_L9  C ho _ (fun v1_9 v2_9 v3_9 v4_9 v5_9 w1 H locs ls hH hl hf => ?_) fu a_1 a_2 a_3 (a_1 * 12) 0 w _ _ _ hH (lv_sub hl [3, 4, 5, 1, 0, 2] rfl) hf
  exact hw_vret hx hb hret hf hH hlocks dX1_giveTo_75

theorem dX2_init_0 : decode cX2_init 0 = .ok (.aload_n 0, 1) := by decide +kernel
theorem dX2_init_1 : decode cX2_init 1 = .ok (.invokespecial 3, 3) := by decide +kernel
theorem dX2_init_4 : decode cX2_init 4 = .ok (.aload_n 0, 1) := by decide +kernel
theorem dX2_init_5 : decode cX2_init 5 = .ok (.bipush 19, 2) := by decide +kernel
theorem dX2_init_7 : decode cX2_init 7 = .ok (.newarray .int, 2) := by decide +kernel
theorem dX2_init_9 : decode cX2_init 9 = .ok (.putfield 9, 3) := by decide +kernel
theorem dX2_init_12 : decode cX2_init 12 = .ok (.return_, 1) := by decide +kernel
theorem hd_X2_init : yX2_init.cls = RX2 ∧ yX2_init.cls ≠ "java/lang/invoke/MethodHandle" ∧ yX2_init.cls ≠ "java/lang/invoke/VarHandle" ∧ (parseMethodDescriptor yX2_init.desc).map (fun d => d.parameters.length) = some 0 := by decide +kernel
theorem hs_X2_init : yX2_init.cls ≠ "java/lang/invoke/MethodHandle" ∧ yX2_init.cls ≠ "java/lang/invoke/VarHandle" ∧ (parseMethodDescriptor yX2_init.desc).map (fun d => d.parameters.length) = some 0 := by decide +kernel
set_option maxHeartbeats 4000000 in
set_option maxRecDepth 100000 in
theorem k_X2_init (l : Launch) (E : Ev) (K : Kd) (n : Nat) (o : Nat) (w : Wd) {K' : Kd} {n' : Nat} {w' : Wd} (hf : f_X2_init K n o w = some (K', n', w')) : Met l yX2_init (Cond.code yX2_init cX2_init 1 (Option.none : Option Jvm.ClassFile.FieldType) :: bt) ({ frames := 1, cells := 1, slots := 19, locals := 12 } : Room) (va_Pc [rv E (some o)] (HB E K w (E.2.1 + n))) (QV E K' (E.2.1 + n') w') 1 19 (hA E) := by
  refine Met.ofW (cc := cX2_init) (maxL := 1) (ret := (Option.none : Option Jvm.ClassFile.FieldType)) (by decide) rfl ?_
  intro p e s m args below meth c s₁ B hml hv
  have hn2 : meth.name = "<init>" := (name_of_methodNamed B.named B.method).1
  obtain ⟨rfl, hz, hP, hKs, hT, hb0⟩ := hv
  have C : CX p l e s m _ meth c cX2_init 1 RX2 (Option.none : Option Jvm.ClassFile.FieldType) E := ⟨B.exec, B.bytes, hml, findClass_of_methodNamed B.named, fun w h => atoms_spec (ws := Cond.code yX2_init cX2_init 1 (Option.none : Option Jvm.ClassFile.FieldType) :: bt) B.pre w (List.mem_cons_of_mem _ h), hKs, hT, by rw [hz]; exact hb0, B.notSynchronized, B.returns⟩
  have hH : HQ E K (E.2.1 + n) w s s.heap [] := ⟨hP, va_S.rf, hz⟩
  obtain ⟨hx, hb, hml, hown, hts, hKs, hT, hb0, hlocks, hret⟩ := id C
  have hl := lv_entry [rv E (some o)] (n := 1) (by simp [lg_len_nil, lg_len_i, lg_len_j, lg_len_q, lg_len_f, lg_len_d, lg_len_r])
  rw [lg_entry_eq]
  generalize (lg_sl [rv E (some o)] ++ List.replicate (1 - (lg_sl [rv E (some o)]).length) Slot.unset).toArray = ls at hl ⊢
  replace hl : lv_has ls 1 [(0, rv E (some o))] := by simpa only [lv_args, cat_q, cat_i, cat_j, reduceIte, Nat.reduceEqDiff, Nat.reduceAdd, Nat.zero_add] using hl
  generalize s.heap = H at hH ⊢
  unfold f_X2_init at hf
  refine hl_aload_n hx hb dX2_init_0 rfl (lv_at hl 0 rfl) ?_
  refine hw_obj hx hb hml hl.1 hown hts m1_54 m1_37 m1_38 dX2_init_1 (Nat.le_of_ble_eq_true rfl) (Nat.le_of_ble_eq_true rfl) ?_
  refine hl_aload_n hx hb dX2_init_4 rfl (lv_at hl 0 rfl) ?_
  refine lv_bipush (v := 19) hx hb dX2_init_5 (by decide) ?_
  refine hw_newa20 (N := 19) hx hb hts m1_64 hKs hH (by decide) (by decide) (Nat.le_of_ble_eq_true rfl) (Nat.le_of_ble_eq_true rfl) (Nat.le_of_ble_eq_true rfl) dX2_init_7 (fun H hH => ?_)
  obtain ⟨K1, hK1, hf⟩ := bnd hf
  replace hK1 := Option.some.inj hK1
  obtain ⟨w2, hw2, hf⟩ := bnd hf
  replace hw2 := Option.some.inj hw2
  rw [hK1, hw2] at hH
  obtain ⟨a3, ha3, hf⟩ := bnd hf
  replace ha3 := chk_some ha3
  obtain ⟨w4, hw4, hf⟩ := bnd hf
  replace hw4 := Option.some.inj hw4
  refine pf2_0 (v := (some n)) hx hb hts hown hKs hH ha3.1 ha3.2 hn2 m1_55 dX2_init_9 (fun H locs hH => ?_)
  rw [hw4] at hH
  exact hw_aret hx hb (Nat.le_of_ble_eq_true rfl) (Nat.le_of_ble_eq_true rfl) hret hf hH hlocks dX2_init_12

theorem dX2_contains_0 : decode cX2_contains 0 = .ok (.iload_n 1, 1) := by decide +kernel
theorem dX2_contains_1 : decode cX2_contains 1 = .ok (.ifCond .lt 33, 3) := by decide +kernel
theorem dX2_contains_4 : decode cX2_contains 4 = .ok (.iload_n 1, 1) := by decide +kernel
theorem dX2_contains_5 : decode cX2_contains 5 = .ok (.sipush 600, 3) := by decide +kernel
theorem dX2_contains_8 : decode cX2_contains 8 = .ok (.if_icmp .ge 26, 3) := by decide +kernel
theorem dX2_contains_11 : decode cX2_contains 11 = .ok (.aload_n 0, 1) := by decide +kernel
theorem dX2_contains_12 : decode cX2_contains 12 = .ok (.getfield 9, 3) := by decide +kernel
theorem dX2_contains_15 : decode cX2_contains 15 = .ok (.iload_n 1, 1) := by decide +kernel
theorem dX2_contains_16 : decode cX2_contains 16 = .ok (.bipush 32, 2) := by decide +kernel
theorem dX2_contains_18 : decode cX2_contains 18 = .ok (.idiv, 1) := by decide +kernel
theorem dX2_contains_19 : decode cX2_contains 19 = .ok (.iaload, 1) := by decide +kernel
theorem dX2_contains_20 : decode cX2_contains 20 = .ok (.iload_n 1, 1) := by decide +kernel
theorem dX2_contains_21 : decode cX2_contains 21 = .ok (.bipush 32, 2) := by decide +kernel
theorem dX2_contains_23 : decode cX2_contains 23 = .ok (.irem, 1) := by decide +kernel
theorem dX2_contains_24 : decode cX2_contains 24 = .ok (.iushr, 1) := by decide +kernel
theorem dX2_contains_25 : decode cX2_contains 25 = .ok (.iconst 1, 1) := by decide +kernel
theorem dX2_contains_26 : decode cX2_contains 26 = .ok (.iand, 1) := by decide +kernel
theorem dX2_contains_27 : decode cX2_contains 27 = .ok (.ifCond .eq 7, 3) := by decide +kernel
theorem dX2_contains_30 : decode cX2_contains 30 = .ok (.iconst 1, 1) := by decide +kernel
theorem dX2_contains_31 : decode cX2_contains 31 = .ok (.goto 4, 3) := by decide +kernel
theorem dX2_contains_34 : decode cX2_contains 34 = .ok (.iconst 0, 1) := by decide +kernel
theorem dX2_contains_35 : decode cX2_contains 35 = .ok (.ireturn, 1) := by decide +kernel
theorem hd_X2_contains : yX2_contains.cls = RX2 ∧ yX2_contains.cls ≠ "java/lang/invoke/MethodHandle" ∧ yX2_contains.cls ≠ "java/lang/invoke/VarHandle" ∧ (parseMethodDescriptor yX2_contains.desc).map (fun d => d.parameters.length) = some 1 := by decide +kernel
theorem hs_X2_contains : yX2_contains.cls ≠ "java/lang/invoke/MethodHandle" ∧ yX2_contains.cls ≠ "java/lang/invoke/VarHandle" ∧ (parseMethodDescriptor yX2_contains.desc).map (fun d => d.parameters.length) = some 1 := by decide +kernel
set_option maxHeartbeats 4000000 in
set_option maxRecDepth 100000 in
theorem k_X2_contains (l : Launch) (E : Ev) (K : Kd) (z : Nat) (o : Nat) (a_1 : Int32) (w : Wd) (ho : K o = some (1, 0)) {r : Bool} {w' : Wd} (hf : f_X2_contains K o a_1 w = some (r, w')) : Met l yX2_contains (Cond.code yX2_contains cX2_contains 2 (Option.some Jvm.ClassFile.FieldType.boolean) :: bt) ({ frames := 0, cells := 0, slots := 0, locals := 0 } : Room) (va_Pc [rv E (some o), .int a_1] (HB E K w z)) (QI E K z w' (b2i r)) 0 0 (hA E) := by
  refine Met.ofW (cc := cX2_contains) (maxL := 2) (ret := (Option.some Jvm.ClassFile.FieldType.boolean)) (by decide) rfl ?_
  intro p e s m args below meth c s₁ B hml hv
  obtain ⟨rfl, hz, hP, hKs, hT, hb0⟩ := hv
  have C : CX p l e s m _ meth c cX2_contains 2 RX2 (Option.some Jvm.ClassFile.FieldType.boolean) E := ⟨B.exec, B.bytes, hml, findClass_of_methodNamed B.named, fun w h => atoms_spec (ws := Cond.code yX2_contains cX2_contains 2 (Option.some Jvm.ClassFile.FieldType.boolean) :: bt) B.pre w (List.mem_cons_of_mem _ h), hKs, hT, by rw [hz]; exact hb0, B.notSynchronized, B.returns⟩
  have hH : HQ E K z w s s.heap [] := ⟨hP, va_S.rf, hz⟩
  obtain ⟨hx, hb, hml, hown, hts, hKs, hT, hb0, hlocks, hret⟩ := id C
  have hl := lv_entry [rv E (some o), .int a_1] (n := 2) (by simp [lg_len_nil, lg_len_i, lg_len_j, lg_len_q, lg_len_f, lg_len_d, lg_len_r])
  rw [lg_entry_eq]
  generalize (lg_sl [rv E (some o), .int a_1] ++ List.replicate (2 - (lg_sl [rv E (some o), .int a_1]).length) Slot.unset).toArray = ls at hl ⊢
  replace hl : lv_has ls 2 [(0, rv E (some o)), (1, .int a_1)] := by simpa only [lv_args, cat_q, cat_i, cat_j, reduceIte, Nat.reduceEqDiff, Nat.reduceAdd, Nat.zero_add] using hl
  generalize s.heap = H at hH ⊢
  unfold f_X2_contains at hf
  refine lv_iload_n hx hb dX2_contains_0 rfl (lv_at hl 1 rfl) ?_
  refine lv_if_lt (tgt := 34) hx hb dX2_contains_1 (by decide) (fun c1 => ?_) (fun c1 => ?_)
  · replace hf := (if_pos c1).symm.trans hf
    refine lv_iconst (v := 0) hx hb dX2_contains_34 (by decide) ?_
    exact hw_zret hx hb hret rfl hf hH hlocks dX2_contains_35
  · replace hf := (if_neg c1).symm.trans hf
    refine lv_iload_n hx hb dX2_contains_4 rfl (lv_at hl 1 rfl) ?_
    refine lv_sipush (v := 600) hx hb dX2_contains_5 (by decide) ?_
    refine lv_icmp_ge (tgt := 34) hx hb dX2_contains_8 (by decide) (fun c2 => ?_) (fun c2 => ?_)
    · replace hf := (if_pos c2).symm.trans hf
      refine lv_iconst (v := 0) hx hb dX2_contains_34 (by decide) ?_
      exact hw_zret hx hb hret rfl hf hH hlocks dX2_contains_35
    · replace hf := (if_neg c2).symm.trans hf
      refine hl_aload_n hx hb dX2_contains_11 rfl (lv_at hl 0 rfl) ?_
      refine g2_0 hx hb hts hown hKs hH rfl ho m1_55 dX2_contains_12 ?_
      refine lv_iload_n hx hb dX2_contains_15 rfl (lv_at hl 1 rfl) ?_
      refine lv_bipush (v := 32) hx hb dX2_contains_16 (by decide) ?_
      refine lv_idiv hx hb dX2_contains_18 (by decide) ?_
      obtain ⟨a3, ha3, hf⟩ := bnd hf
      replace ha3 := cha_some ha3
      obtain ⟨j4, hj4, hf⟩ := bnd hf
      refine hw_iald hx hb hKs hH ha3.1 ha3.2 hj4 dX2_contains_19 ?_
      refine lv_iload_n hx hb dX2_contains_20 rfl (lv_at hl 1 rfl) ?_
      refine lv_bipush (v := 32) hx hb dX2_contains_21 (by decide) ?_
      refine lv_irem hx hb dX2_contains_23 (by decide) ?_
      refine lv_iushr (v := (ushr (aI w a3.1 j4) (a_1 - a_1 / 32 * 32))) hx hb dX2_contains_24 rfl ?_
      refine lv_iconst (v := 1) hx hb dX2_contains_25 (by decide) ?_
      refine lv_iand hx hb dX2_contains_26 ?_
      refine lv_if_eq (tgt := 34) hx hb dX2_contains_27 (by decide) (fun c5 => ?_) (fun c5 => ?_)
      · replace hf := (if_pos c5).symm.trans hf
        refine lv_iconst (v := 0) hx hb dX2_contains_34 (by decide) ?_
        exact hw_zret hx hb hret rfl hf hH hlocks dX2_contains_35
      · replace hf := (if_neg c5).symm.trans hf
        refine lv_iconst (v := 1) hx hb dX2_contains_30 (by decide) ?_
        refine lv_goto (tgt := 35) hx hb dX2_contains_31 (by decide) ?_
        exact hw_zret hx hb hret rfl hf hH hlocks dX2_contains_35

theorem dX2_add_0 : decode cX2_add 0 = .ok (.iload_n 1, 1) := by decide +kernel
theorem dX2_add_1 : decode cX2_add 1 = .ok (.ifCond .lt 46, 3) := by decide +kernel
theorem dX2_add_4 : decode cX2_add 4 = .ok (.iload_n 1, 1) := by decide +kernel
theorem dX2_add_5 : decode cX2_add 5 = .ok (.sipush 600, 3) := by decide +kernel
theorem dX2_add_8 : decode cX2_add 8 = .ok (.if_icmp .ge 39, 3) := by decide +kernel
theorem dX2_add_11 : decode cX2_add 11 = .ok (.aload_n 0, 1) := by decide +kernel
theorem dX2_add_12 : decode cX2_add 12 = .ok (.iload_n 1, 1) := by decide +kernel
theorem dX2_add_13 : decode cX2_add 13 = .ok (.invokevirtual 15, 3) := by decide +kernel
theorem dX2_add_16 : decode cX2_add 16 = .ok (.ifCond .ne 31, 3) := by decide +kernel
theorem dX2_add_19 : decode cX2_add 19 = .ok (.aload_n 0, 1) := by decide +kernel
theorem dX2_add_20 : decode cX2_add 20 = .ok (.getfield 9, 3) := by decide +kernel
theorem dX2_add_23 : decode cX2_add 23 = .ok (.iload_n 1, 1) := by decide +kernel
theorem dX2_add_24 : decode cX2_add 24 = .ok (.bipush 32, 2) := by decide +kernel
theorem dX2_add_26 : decode cX2_add 26 = .ok (.idiv, 1) := by decide +kernel
theorem dX2_add_27 : decode cX2_add 27 = .ok (.dup2, 1) := by decide +kernel
theorem dX2_add_28 : decode cX2_add 28 = .ok (.iaload, 1) := by decide +kernel
theorem dX2_add_29 : decode cX2_add 29 = .ok (.iconst 1, 1) := by decide +kernel
theorem dX2_add_30 : decode cX2_add 30 = .ok (.iload_n 1, 1) := by decide +kernel
theorem dX2_add_31 : decode cX2_add 31 = .ok (.bipush 32, 2) := by decide +kernel
theorem dX2_add_33 : decode cX2_add 33 = .ok (.irem, 1) := by decide +kernel
theorem dX2_add_34 : decode cX2_add 34 = .ok (.ishl, 1) := by decide +kernel
theorem dX2_add_35 : decode cX2_add 35 = .ok (.ior, 1) := by decide +kernel
theorem dX2_add_36 : decode cX2_add 36 = .ok (.iastore, 1) := by decide +kernel
theorem dX2_add_37 : decode cX2_add 37 = .ok (.aload_n 0, 1) := by decide +kernel
theorem dX2_add_38 : decode cX2_add 38 = .ok (.dup, 1) := by decide +kernel
theorem dX2_add_39 : decode cX2_add 39 = .ok (.getfield 19, 3) := by decide +kernel
theorem dX2_add_42 : decode cX2_add 42 = .ok (.iconst 1, 1) := by decide +kernel
theorem dX2_add_43 : decode cX2_add 43 = .ok (.iadd, 1) := by decide +kernel
theorem dX2_add_44 : decode cX2_add 44 = .ok (.putfield 19, 3) := by decide +kernel
theorem dX2_add_47 : decode cX2_add 47 = .ok (.return_, 1) := by decide +kernel
theorem hd_X2_add : yX2_add.cls = RX2 ∧ yX2_add.cls ≠ "java/lang/invoke/MethodHandle" ∧ yX2_add.cls ≠ "java/lang/invoke/VarHandle" ∧ (parseMethodDescriptor yX2_add.desc).map (fun d => d.parameters.length) = some 1 := by decide +kernel
theorem hs_X2_add : yX2_add.cls ≠ "java/lang/invoke/MethodHandle" ∧ yX2_add.cls ≠ "java/lang/invoke/VarHandle" ∧ (parseMethodDescriptor yX2_add.desc).map (fun d => d.parameters.length) = some 1 := by decide +kernel
set_option maxHeartbeats 4000000 in
set_option maxRecDepth 100000 in
theorem k_X2_add (l : Launch) (E : Ev) (K : Kd) (z : Nat) (o : Nat) (a_1 : Int32) (w : Wd) (ho : K o = some (1, 0)) {w' : Wd} (hf : f_X2_add K o a_1 w = some w') : Met l yX2_add (Cond.code yX2_add cX2_add 2 (Option.none : Option Jvm.ClassFile.FieldType) :: bt) ({ frames := 1, cells := 0, slots := 0, locals := 21 } : Room) (va_Pc [rv E (some o), .int a_1] (HB E K w z)) (QV E K z w') 0 0 (hA E) := by
  refine Met.ofW (cc := cX2_add) (maxL := 2) (ret := (Option.none : Option Jvm.ClassFile.FieldType)) (by decide) rfl ?_
  intro p e s m args below meth c s₁ B hml hv
  obtain ⟨rfl, hz, hP, hKs, hT, hb0⟩ := hv
  have C : CX p l e s m _ meth c cX2_add 2 RX2 (Option.none : Option Jvm.ClassFile.FieldType) E := ⟨B.exec, B.bytes, hml, findClass_of_methodNamed B.named, fun w h => atoms_spec (ws := Cond.code yX2_add cX2_add 2 (Option.none : Option Jvm.ClassFile.FieldType) :: bt) B.pre w (List.mem_cons_of_mem _ h), hKs, hT, by rw [hz]; exact hb0, B.notSynchronized, B.returns⟩
  have hH : HQ E K z w s s.heap [] := ⟨hP, va_S.rf, hz⟩
  obtain ⟨hx, hb, hml, hown, hts, hKs, hT, hb0, hlocks, hret⟩ := id C
  have hl := lv_entry [rv E (some o), .int a_1] (n := 2) (by simp [lg_len_nil, lg_len_i, lg_len_j, lg_len_q, lg_len_f, lg_len_d, lg_len_r])
  rw [lg_entry_eq]
  generalize (lg_sl [rv E (some o), .int a_1] ++ List.replicate (2 - (lg_sl [rv E (some o), .int a_1]).length) Slot.unset).toArray = ls at hl ⊢
  replace hl : lv_has ls 2 [(0, rv E (some o)), (1, .int a_1)] := by simpa only [lv_args, cat_q, cat_i, cat_j, reduceIte, Nat.reduceEqDiff, Nat.reduceAdd, Nat.zero_add] using hl
  generalize s.heap = H at hH ⊢
  unfold f_X2_add at hf
  refine lv_iload_n hx hb dX2_add_0 rfl (lv_at hl 1 rfl) ?_
  refine lv_if_lt (tgt := 47) hx hb dX2_add_1 (by decide) (fun c1 => ?_) (fun c1 => ?_)
  · replace hf := (if_pos c1).symm.trans hf
    exact hw_vret hx hb hret hf hH hlocks dX2_add_47
  · replace hf := (if_neg c1).symm.trans hf
    refine lv_iload_n hx hb dX2_add_4 rfl (lv_at hl 1 rfl) ?_
    refine lv_sipush (v := 600) hx hb dX2_add_5 (by decide) ?_
    refine lv_icmp_ge (tgt := 47) hx hb dX2_add_8 (by decide) (fun c2 => ?_) (fun c2 => ?_)
    · replace hf := (if_pos c2).symm.trans hf
      exact hw_vret hx hb hret hf hH hlocks dX2_add_47
    · replace hf := (if_neg c2).symm.trans hf
      refine hl_aload_n hx hb dX2_add_11 rfl (lv_at hl 0 rfl) ?_
      refine lv_iload_n hx hb dX2_add_12 rfl (lv_at hl 1 rfl) ?_
      obtain ⟨q3, hq3, hf⟩ := bnd hf
      refine hcV_i hx hb hml hown hts hKs hT hb0 hH (As := [.int a_1]) (rest := []) (k_X2_contains l E K H.size o a_1 w ho hq3) (gV m3_114 m3_107 m3_108 m1_3 m3_109) hd_X2_contains ⟨Nat.le_of_ble_eq_true rfl, Nat.le_of_ble_eq_true rfl, rfl, rfl⟩ rfl ho rfl rfl rfl hl.1 rfl rc0 rfl dX2_add_13 ⟨Nat.zero_le _, Nat.zero_le _⟩ (fun H locs hH => ?_)
      refine lv_if_ne (tgt := 47) hx hb dX2_add_16 (by decide) (fun c4 => ?_) (fun c4 => ?_)
      · replace hf := (if_neg c4).symm.trans hf
        exact hw_vret hx hb hret hf hH hlocks dX2_add_47
      · replace hf := (if_pos c4).symm.trans hf
        refine hl_aload_n hx hb dX2_add_19 rfl (lv_at hl 0 rfl) ?_
        refine g2_0 hx hb hts hown hKs hH rfl ho m1_55 dX2_add_20 ?_
        refine lv_iload_n hx hb dX2_add_23 rfl (lv_at hl 1 rfl) ?_
        refine lv_bipush (v := 32) hx hb dX2_add_24 (by decide) ?_
        refine lv_idiv hx hb dX2_add_26 (by decide) ?_
        refine lv_dup2_11 hx hb dX2_add_27 rfl rv_cat ?_
        obtain ⟨a5, ha5, hf⟩ := bnd hf
        replace ha5 := cha_some ha5
        obtain ⟨j6, hj6, hf⟩ := bnd hf
        refine hw_iald hx hb hKs hH ha5.1 ha5.2 hj6 dX2_add_28 ?_
        refine lv_iconst (v := 1) hx hb dX2_add_29 (by decide) ?_
        refine lv_iload_n hx hb dX2_add_30 rfl (lv_at hl 1 rfl) ?_
        refine lv_bipush (v := 32) hx hb dX2_add_31 (by decide) ?_
        refine lv_irem hx hb dX2_add_33 (by decide) ?_
        refine lv_ishl hx hb dX2_add_34 ?_
        refine lv_ior hx hb dX2_add_35 ?_
        obtain ⟨j7, hj7, hf⟩ := bnd hf
        obtain ⟨w8, hw8, hf⟩ := bnd hf
        replace hw8 := Option.some.inj hw8
        refine hw_iast (x := ((aI q3.2 a5.1 j6) ||| (1 <<< ((a_1 - a_1 / 32 * 32) &&& 31)))) hx hb hKs hH ha5.1 ha5.2 hj7 dX2_add_36 (fun H locs hH => ?_)
        rw [hw8] at hH
        refine hl_aload_n hx hb dX2_add_37 rfl (lv_at hl 0 rfl) ?_
        refine lv_dup hx hb dX2_add_38 rv_cat ?_
        refine g2_1 hx hb hts hown hKs hH rfl ho m1_56 dX2_add_39 ?_
        refine lv_iconst (v := 1) hx hb dX2_add_42 (by decide) ?_
        refine lv_iadd hx hb dX2_add_43 ?_
        obtain ⟨w9, hw9, hf⟩ := bnd hf
        replace hw9 := Option.some.inj hw9
        refine p2_1 (v := ((wI w8 201 o) + 1)) hx hb hts hown hKs hH rfl ho m1_56 dX2_add_44 (fun H locs hH => ?_)
        rw [hw9] at hH
        exact hw_vret hx hb hret hf hH hlocks dX2_add_47

theorem dX2_copyFrom_0 : decode cX2_copyFrom 0 = .ok (.aload_n 1, 1) := by decide +kernel
theorem dX2_copyFrom_1 : decode cX2_copyFrom 1 = .ok (.getfield 9, 3) := by decide +kernel
theorem dX2_copyFrom_4 : decode cX2_copyFrom 4 = .ok (.iconst 0, 1) := by decide +kernel
theorem dX2_copyFrom_5 : decode cX2_copyFrom 5 = .ok (.aload_n 0, 1) := by decide +kernel
theorem dX2_copyFrom_6 : decode cX2_copyFrom 6 = .ok (.getfield 9, 3) := by decide +kernel
theorem dX2_copyFrom_9 : decode cX2_copyFrom 9 = .ok (.iconst 0, 1) := by decide +kernel
theorem dX2_copyFrom_10 : decode cX2_copyFrom 10 = .ok (.aload_n 0, 1) := by decide +kernel
theorem dX2_copyFrom_11 : decode cX2_copyFrom 11 = .ok (.getfield 9, 3) := by decide +kernel
theorem dX2_copyFrom_14 : decode cX2_copyFrom 14 = .ok (.arraylength, 1) := by decide +kernel
theorem dX2_copyFrom_15 : decode cX2_copyFrom 15 = .ok (.invokestatic 29, 3) := by decide +kernel
theorem dX2_copyFrom_18 : decode cX2_copyFrom 18 = .ok (.aload_n 0, 1) := by decide +kernel
theorem dX2_copyFrom_19 : decode cX2_copyFrom 19 = .ok (.aload_n 1, 1) := by decide +kernel
theorem dX2_copyFrom_20 : decode cX2_copyFrom 20 = .ok (.getfield 19, 3) := by decide +kernel
theorem dX2_copyFrom_23 : decode cX2_copyFrom 23 = .ok (.putfield 19, 3) := by decide +kernel
theorem dX2_copyFrom_26 : decode cX2_copyFrom 26 = .ok (.return_, 1) := by decide +kernel
theorem hd_X2_copyFrom : yX2_copyFrom.cls = RX2 ∧ yX2_copyFrom.cls ≠ "java/lang/invoke/MethodHandle" ∧ yX2_copyFrom.cls ≠ "java/lang/invoke/VarHandle" ∧ (parseMethodDescriptor yX2_copyFrom.desc).map (fun d => d.parameters.length) = some 1 := by decide +kernel
theorem hs_X2_copyFrom : yX2_copyFrom.cls ≠ "java/lang/invoke/MethodHandle" ∧ yX2_copyFrom.cls ≠ "java/lang/invoke/VarHandle" ∧ (parseMethodDescriptor yX2_copyFrom.desc).map (fun d => d.parameters.length) = some 1 := by decide +kernel
set_option maxHeartbeats 4000000 in
set_option maxRecDepth 100000 in
theorem k_X2_copyFrom (l : Launch) (E : Ev) (K : Kd) (z : Nat) (o : Nat) (a_1 : Option Nat) (w : Wd) (ho : K o = some (1, 0)) {w' : Wd} (hf : f_X2_copyFrom K o a_1 w = some w') : Met l yX2_copyFrom (Cond.code yX2_copyFrom cX2_copyFrom 2 (Option.none : Option Jvm.ClassFile.FieldType) :: bt) ({ frames := 1, cells := 0, slots := 0, locals := 60 } : Room) (va_Pc [rv E (some o), rv E a_1] (HB E K w z)) (QV E K z w') 0 0 (hA E) := by
  refine Met.ofW (cc := cX2_copyFrom) (maxL := 2) (ret := (Option.none : Option Jvm.ClassFile.FieldType)) (by decide) rfl ?_
  intro p e s m args below meth c s₁ B hml hv
  obtain ⟨rfl, hz, hP, hKs, hT, hb0⟩ := hv
  have C : CX p l e s m _ meth c cX2_copyFrom 2 RX2 (Option.none : Option Jvm.ClassFile.FieldType) E := ⟨B.exec, B.bytes, hml, findClass_of_methodNamed B.named, fun w h => atoms_spec (ws := Cond.code yX2_copyFrom cX2_copyFrom 2 (Option.none : Option Jvm.ClassFile.FieldType) :: bt) B.pre w (List.mem_cons_of_mem _ h), hKs, hT, by rw [hz]; exact hb0, B.notSynchronized, B.returns⟩
  have hH : HQ E K z w s s.heap [] := ⟨hP, va_S.rf, hz⟩
  obtain ⟨hx, hb, hml, hown, hts, hKs, hT, hb0, hlocks, hret⟩ := id C
  have hl := lv_entry [rv E (some o), rv E a_1] (n := 2) (by simp [lg_len_nil, lg_len_i, lg_len_j, lg_len_q, lg_len_f, lg_len_d, lg_len_r])
  rw [lg_entry_eq]
  generalize (lg_sl [rv E (some o), rv E a_1] ++ List.replicate (2 - (lg_sl [rv E (some o), rv E a_1]).length) Slot.unset).toArray = ls at hl ⊢
  replace hl : lv_has ls 2 [(0, rv E (some o)), (1, rv E a_1)] := by simpa only [lv_args, cat_q, cat_i, cat_j, reduceIte, Nat.reduceEqDiff, Nat.reduceAdd, Nat.zero_add] using hl
  generalize s.heap = H at hH ⊢
  unfold f_X2_copyFrom at hf
  refine hl_aload_n hx hb dX2_copyFrom_0 rfl (lv_at hl 1 rfl) ?_
  obtain ⟨a1, ha1, hf⟩ := bnd hf
  replace ha1 := chk_some ha1
  refine g2_0 hx hb hts hown hKs hH ha1.1 ha1.2 m1_55 dX2_copyFrom_1 ?_
  refine lv_iconst (v := 0) hx hb dX2_copyFrom_4 (by decide) ?_
  refine hl_aload_n hx hb dX2_copyFrom_5 rfl (lv_at hl 0 rfl) ?_
  refine g2_0 hx hb hts hown hKs hH rfl ho m1_55 dX2_copyFrom_6 ?_
  refine lv_iconst (v := 0) hx hb dX2_copyFrom_9 (by decide) ?_
  refine hl_aload_n hx hb dX2_copyFrom_10 rfl (lv_at hl 0 rfl) ?_
  refine g2_0 hx hb hts hown hKs hH rfl ho m1_55 dX2_copyFrom_11 ?_
  obtain ⟨a2, ha2, hf⟩ := bnd hf
  replace ha2 := cha_some ha2
  refine hw_alen20 hx hb hKs hH ha2.1 ha2.2 dX2_copyFrom_14 ?_
  obtain ⟨a3, ha3, hf⟩ := bnd hf
  replace ha3 := cha_some ha3
  obtain ⟨_, hg4, hf⟩ := bnd hf
  replace hg4 := grd_some hg4
  obtain ⟨w5, hw5, hf⟩ := bnd hf
  replace hw5 := Option.some.inj hw5
  refine hw_copy hx hb (hml.trans hl.1.symm) hown (hts _ m3_225) (va_Nw.use rfl hKs.2.2.2.2.1) (hts _ m3_226) (hts _ m1_18) hKs hH ha3.1 ha3.2 ha2.1 ha2.2 hg4.1 hg4.2.1 hg4.2.2.1 hg4.2.2.2.1 hg4.2.2.2.2 (Nat.le_of_ble_eq_true rfl) (by decide) dX2_copyFrom_15 (fun H locs hH => ?_)
  rw [hw5] at hH
  refine hl_aload_n hx hb dX2_copyFrom_18 rfl (lv_at hl 0 rfl) ?_
  refine hl_aload_n hx hb dX2_copyFrom_19 rfl (lv_at hl 1 rfl) ?_
  refine g2_1 hx hb hts hown hKs hH ha1.1 ha1.2 m1_56 dX2_copyFrom_20 ?_
  obtain ⟨w6, hw6, hf⟩ := bnd hf
  replace hw6 := Option.some.inj hw6
  refine p2_1 (v := (wI w5 201 a1)) hx hb hts hown hKs hH rfl ho m1_56 dX2_copyFrom_23 (fun H locs hH => ?_)
  rw [hw6] at hH
  exact hw_vret hx hb hret hf hH hlocks dX2_copyFrom_26

theorem dX3_init_0 : decode cX3_init 0 = .ok (.aload_n 0, 1) := by decide +kernel
theorem dX3_init_1 : decode cX3_init 1 = .ok (.invokespecial 1, 3) := by decide +kernel
theorem dX3_init_4 : decode cX3_init 4 = .ok (.return_, 1) := by decide +kernel
theorem hd_X3_init : yX3_init.cls = RX3 ∧ yX3_init.cls ≠ "java/lang/invoke/MethodHandle" ∧ yX3_init.cls ≠ "java/lang/invoke/VarHandle" ∧ (parseMethodDescriptor yX3_init.desc).map (fun d => d.parameters.length) = some 0 := by decide +kernel
theorem hs_X3_init : yX3_init.cls ≠ "java/lang/invoke/MethodHandle" ∧ yX3_init.cls ≠ "java/lang/invoke/VarHandle" ∧ (parseMethodDescriptor yX3_init.desc).map (fun d => d.parameters.length) = some 0 := by decide +kernel
set_option maxHeartbeats 4000000 in
set_option maxRecDepth 100000 in
theorem k_X3_init (l : Launch) (E : Ev) (K : Kd) (n : Nat) (o : Nat) (w : Wd) {K' : Kd} {n' : Nat} {w' : Wd} (hf : f_X3_init K n o w = some (K', n', w')) : Met l yX3_init (Cond.code yX3_init cX3_init 1 (Option.none : Option Jvm.ClassFile.FieldType) :: bt) ({ frames := 1, cells := 0, slots := 0, locals := 12 } : Room) (va_Pc [rv E (some o)] (HB E K w (E.2.1 + n))) (QV E K' (E.2.1 + n') w') 0 0 (hA E) := by
  refine Met.ofW (cc := cX3_init) (maxL := 1) (ret := (Option.none : Option Jvm.ClassFile.FieldType)) (by decide) rfl ?_
  intro p e s m args below meth c s₁ B hml hv
  have hn2 : meth.name = "<init>" := (name_of_methodNamed B.named B.method).1
  obtain ⟨rfl, hz, hP, hKs, hT, hb0⟩ := hv
  have C : CX p l e s m _ meth c cX3_init 1 RX3 (Option.none : Option Jvm.ClassFile.FieldType) E := ⟨B.exec, B.bytes, hml, findClass_of_methodNamed B.named, fun w h => atoms_spec (ws := Cond.code yX3_init cX3_init 1 (Option.none : Option Jvm.ClassFile.FieldType) :: bt) B.pre w (List.mem_cons_of_mem _ h), hKs, hT, by rw [hz]; exact hb0, B.notSynchronized, B.returns⟩
  have hH : HQ E K (E.2.1 + n) w s s.heap [] := ⟨hP, va_S.rf, hz⟩
  obtain ⟨hx, hb, hml, hown, hts, hKs, hT, hb0, hlocks, hret⟩ := id C
  have hl := lv_entry [rv E (some o)] (n := 1) (by simp [lg_len_nil, lg_len_i, lg_len_j, lg_len_q, lg_len_f, lg_len_d, lg_len_r])
  rw [lg_entry_eq]
  generalize (lg_sl [rv E (some o)] ++ List.replicate (1 - (lg_sl [rv E (some o)]).length) Slot.unset).toArray = ls at hl ⊢
  replace hl : lv_has ls 1 [(0, rv E (some o))] := by simpa only [lv_args, cat_q, cat_i, cat_j, reduceIte, Nat.reduceEqDiff, Nat.reduceAdd, Nat.zero_add] using hl
  generalize s.heap = H at hH ⊢
  unfold f_X3_init at hf
  refine hl_aload_n hx hb dX3_init_0 rfl (lv_at hl 0 rfl) ?_
  refine hw_obj hx hb hml hl.1 hown hts m1_86 m1_37 m1_38 dX3_init_1 (Nat.le_of_ble_eq_true rfl) (Nat.le_of_ble_eq_true rfl) ?_
  exact hw_aret hx hb (Nat.le_of_ble_eq_true rfl) (Nat.le_of_ble_eq_true rfl) hret hf hH hlocks dX3_init_4

theorem dX3_clear_0 : decode cX3_clear 0 = .ok (.aload_n 0, 1) := by decide +kernel
theorem dX3_clear_1 : decode cX3_clear 1 = .ok (.iconst 0, 1) := by decide +kernel
theorem dX3_clear_2 : decode cX3_clear 2 = .ok (.putfield 7, 3) := by decide +kernel
theorem dX3_clear_5 : decode cX3_clear 5 = .ok (.aload_n 0, 1) := by decide +kernel
theorem dX3_clear_6 : decode cX3_clear 6 = .ok (.iconst 1, 1) := by decide +kernel
theorem dX3_clear_7 : decode cX3_clear 7 = .ok (.putfield 13, 3) := by decide +kernel
theorem dX3_clear_10 : decode cX3_clear 10 = .ok (.aload_n 0, 1) := by decide +kernel
theorem dX3_clear_11 : decode cX3_clear 11 = .ok (.iconst 1, 1) := by decide +kernel
theorem dX3_clear_12 : decode cX3_clear 12 = .ok (.putfield 16, 3) := by decide +kernel
theorem dX3_clear_15 : decode cX3_clear 15 = .ok (.aload_n 0, 1) := by decide +kernel
theorem dX3_clear_16 : decode cX3_clear 16 = .ok (.iconst 0, 1) := by decide +kernel
theorem dX3_clear_17 : decode cX3_clear 17 = .ok (.putfield 19, 3) := by decide +kernel
theorem dX3_clear_20 : decode cX3_clear 20 = .ok (.aload_n 0, 1) := by decide +kernel
theorem dX3_clear_21 : decode cX3_clear 21 = .ok (.iconst 0, 1) := by decide +kernel
theorem dX3_clear_22 : decode cX3_clear 22 = .ok (.putfield 23, 3) := by decide +kernel
theorem dX3_clear_25 : decode cX3_clear 25 = .ok (.aload_n 0, 1) := by decide +kernel
theorem dX3_clear_26 : decode cX3_clear 26 = .ok (.iconst 0, 1) := by decide +kernel
theorem dX3_clear_27 : decode cX3_clear 27 = .ok (.putfield 26, 3) := by decide +kernel
theorem dX3_clear_30 : decode cX3_clear 30 = .ok (.aload_n 0, 1) := by decide +kernel
theorem dX3_clear_31 : decode cX3_clear 31 = .ok (.iconst 0, 1) := by decide +kernel
theorem dX3_clear_32 : decode cX3_clear 32 = .ok (.putfield 29, 3) := by decide +kernel
theorem dX3_clear_35 : decode cX3_clear 35 = .ok (.return_, 1) := by decide +kernel
theorem hd_X3_clear : yX3_clear.cls = RX3 ∧ yX3_clear.cls ≠ "java/lang/invoke/MethodHandle" ∧ yX3_clear.cls ≠ "java/lang/invoke/VarHandle" ∧ (parseMethodDescriptor yX3_clear.desc).map (fun d => d.parameters.length) = some 0 := by decide +kernel
theorem hs_X3_clear : yX3_clear.cls ≠ "java/lang/invoke/MethodHandle" ∧ yX3_clear.cls ≠ "java/lang/invoke/VarHandle" ∧ (parseMethodDescriptor yX3_clear.desc).map (fun d => d.parameters.length) = some 0 := by decide +kernel
set_option maxHeartbeats 4000000 in
set_option maxRecDepth 100000 in
theorem k_X3_clear (l : Launch) (E : Ev) (K : Kd) (z : Nat) (o : Nat) (w : Wd) (ho : K o = some (2, 0)) {w' : Wd} (hf : f_X3_clear K o w = some w') : Met l yX3_clear (Cond.code yX3_clear cX3_clear 1 (Option.none : Option Jvm.ClassFile.FieldType) :: bt) ({ frames := 0, cells := 0, slots := 0, locals := 0 } : Room) (va_Pc [rv E (some o)] (HB E K w z)) (QV E K z w') 0 0 (hA E) := by
  refine Met.ofW (cc := cX3_clear) (maxL := 1) (ret := (Option.none : Option Jvm.ClassFile.FieldType)) (by decide) rfl ?_
  intro p e s m args below meth c s₁ B hml hv
  obtain ⟨rfl, hz, hP, hKs, hT, hb0⟩ := hv
  have C : CX p l e s m _ meth c cX3_clear 1 RX3 (Option.none : Option Jvm.ClassFile.FieldType) E := ⟨B.exec, B.bytes, hml, findClass_of_methodNamed B.named, fun w h => atoms_spec (ws := Cond.code yX3_clear cX3_clear 1 (Option.none : Option Jvm.ClassFile.FieldType) :: bt) B.pre w (List.mem_cons_of_mem _ h), hKs, hT, by rw [hz]; exact hb0, B.notSynchronized, B.returns⟩
  have hH : HQ E K z w s s.heap [] := ⟨hP, va_S.rf, hz⟩
  obtain ⟨hx, hb, hml, hown, hts, hKs, hT, hb0, hlocks, hret⟩ := id C
  have hl := lv_entry [rv E (some o)] (n := 1) (by simp [lg_len_nil, lg_len_i, lg_len_j, lg_len_q, lg_len_f, lg_len_d, lg_len_r])
  rw [lg_entry_eq]
  generalize (lg_sl [rv E (some o)] ++ List.replicate (1 - (lg_sl [rv E (some o)]).length) Slot.unset).toArray = ls at hl ⊢
  replace hl : lv_has ls 1 [(0, rv E (some o))] := by simpa only [lv_args, cat_q, cat_i, cat_j, reduceIte, Nat.reduceEqDiff, Nat.reduceAdd, Nat.zero_add] using hl
  generalize s.heap = H at hH ⊢
  unfold f_X3_clear at hf
  refine hl_aload_n hx hb dX3_clear_0 rfl (lv_at hl 0 rfl) ?_
  refine lv_iconst (v := 0) hx hb dX3_clear_1 (by decide) ?_
  obtain ⟨w1, hw1, hf⟩ := bnd hf
  replace hw1 := Option.some.inj hw1
  refine p3_0 (v := 0) hx hb hts hown hKs hH rfl ho m1_87 dX3_clear_2 (fun H locs hH => ?_)
  rw [hw1] at hH
  refine hl_aload_n hx hb dX3_clear_5 rfl (lv_at hl 0 rfl) ?_
  refine lv_iconst (v := 1) hx hb dX3_clear_6 (by decide) ?_
  obtain ⟨w2, hw2, hf⟩ := bnd hf
  replace hw2 := Option.some.inj hw2
  refine p3_1 (v := 1) hx hb hts hown hKs hH rfl ho m1_92 dX3_clear_7 (fun H locs hH => ?_)
  rw [hw2] at hH
  refine hl_aload_n hx hb dX3_clear_10 rfl (lv_at hl 0 rfl) ?_
  refine lv_iconst (v := 1) hx hb dX3_clear_11 (by decide) ?_
  obtain ⟨w3, hw3, hf⟩ := bnd hf
  replace hw3 := Option.some.inj hw3
  refine p3_2 (v := 1) hx hb hts hown hKs hH rfl ho m1_97 dX3_clear_12 (fun H locs hH => ?_)
  rw [hw3] at hH
  refine hl_aload_n hx hb dX3_clear_15 rfl (lv_at hl 0 rfl) ?_
  refine lv_iconst (v := 0) hx hb dX3_clear_16 (by decide) ?_
  obtain ⟨w4, hw4, hf⟩ := bnd hf
  replace hw4 := Option.some.inj hw4
  refine p3_3 (v := false) hx hb hts hown hKs hH rfl ho m1_101 dX3_clear_17 (fun H locs hH => ?_)
  rw [hw4] at hH
  refine hl_aload_n hx hb dX3_clear_20 rfl (lv_at hl 0 rfl) ?_
  refine lv_iconst (v := 0) hx hb dX3_clear_21 (by decide) ?_
  obtain ⟨w5, hw5, hf⟩ := bnd hf
  replace hw5 := Option.some.inj hw5
  refine p3_4 (v := 0) hx hb hts hown hKs hH rfl ho m1_105 dX3_clear_22 (fun H locs hH => ?_)
  rw [hw5] at hH
  refine hl_aload_n hx hb dX3_clear_25 rfl (lv_at hl 0 rfl) ?_
  refine lv_iconst (v := 0) hx hb dX3_clear_26 (by decide) ?_
  obtain ⟨w6, hw6, hf⟩ := bnd hf
  replace hw6 := Option.some.inj hw6
  refine p3_5 (v := 0) hx hb hts hown hKs hH rfl ho m1_110 dX3_clear_27 (fun H locs hH => ?_)
  rw [hw6] at hH
  refine hl_aload_n hx hb dX3_clear_30 rfl (lv_at hl 0 rfl) ?_
  refine lv_iconst (v := 0) hx hb dX3_clear_31 (by decide) ?_
  obtain ⟨w7, hw7, hf⟩ := bnd hf
  replace hw7 := Option.some.inj hw7
  refine p3_6 (v := 0) hx hb hts hown hKs hH rfl ho m1_116 dX3_clear_32 (fun H locs hH => ?_)
  rw [hw7] at hH
  exact hw_vret hx hb hret hf hH hlocks dX3_clear_35

theorem dX4_init_0 : decode cX4_init 0 = .ok (.aload_n 0, 1) := by decide +kernel
theorem dX4_init_1 : decode cX4_init 1 = .ok (.invokespecial 3, 3) := by decide +kernel
theorem dX4_init_4 : decode cX4_init 4 = .ok (.aload_n 0, 1) := by decide +kernel
theorem dX4_init_5 : decode cX4_init 5 = .ok (.iload_n 1, 1) := by decide +kernel
theorem dX4_init_6 : decode cX4_init 6 = .ok (.iconst 0, 1) := by decide +kernel
theorem dX4_init_7 : decode cX4_init 7 = .ok (.invokestatic 9, 3) := by decide +kernel
theorem dX4_init_10 : decode cX4_init 10 = .ok (.newarray .long, 2) := by decide +kernel
theorem dX4_init_12 : decode cX4_init 12 = .ok (.putfield 15, 3) := by decide +kernel
theorem dX4_init_15 : decode cX4_init 15 = .ok (.return_, 1) := by decide +kernel
theorem hd_X4_init : yX4_init.cls = RX4 ∧ yX4_init.cls ≠ "java/lang/invoke/MethodHandle" ∧ yX4_init.cls ≠ "java/lang/invoke/VarHandle" ∧ (parseMethodDescriptor yX4_init.desc).map (fun d => d.parameters.length) = some 1 := by decide +kernel
theorem hs_X4_init : yX4_init.cls ≠ "java/lang/invoke/MethodHandle" ∧ yX4_init.cls ≠ "java/lang/invoke/VarHandle" ∧ (parseMethodDescriptor yX4_init.desc).map (fun d => d.parameters.length) = some 1 := by decide +kernel
set_option maxHeartbeats 4000000 in
set_option maxRecDepth 100000 in
theorem k_X4_init (l : Launch) (E : Ev) (K : Kd) (n : Nat) (o : Nat) (a_1 : Int32) (w : Wd) {K' : Kd} {n' : Nat} {w' : Wd} (hf : f_X4_init K n o a_1 w = some (K', n', w')) : Met l yX4_init (Cond.code yX4_init cX4_init 2 (Option.none : Option Jvm.ClassFile.FieldType) :: bt) ({ frames := 1, cells := 1, slots := 12, locals := 21 } : Room) (va_Pc [rv E (some o), .int a_1] (HB E K w (E.2.1 + n))) (QV E K' (E.2.1 + n') w') 1 12 (hA E) := by
  refine Met.ofW (cc := cX4_init) (maxL := 2) (ret := (Option.none : Option Jvm.ClassFile.FieldType)) (by decide) rfl ?_
  intro p e s m args below meth c s₁ B hml hv
  have hn2 : meth.name = "<init>" := (name_of_methodNamed B.named B.method).1
  obtain ⟨rfl, hz, hP, hKs, hT, hb0⟩ := hv
  have C : CX p l e s m _ meth c cX4_init 2 RX4 (Option.none : Option Jvm.ClassFile.FieldType) E := ⟨B.exec, B.bytes, hml, findClass_of_methodNamed B.named, fun w h => atoms_spec (ws := Cond.code yX4_init cX4_init 2 (Option.none : Option Jvm.ClassFile.FieldType) :: bt) B.pre w (List.mem_cons_of_mem _ h), hKs, hT, by rw [hz]; exact hb0, B.notSynchronized, B.returns⟩
  have hH : HQ E K (E.2.1 + n) w s s.heap [] := ⟨hP, va_S.rf, hz⟩
  obtain ⟨hx, hb, hml, hown, hts, hKs, hT, hb0, hlocks, hret⟩ := id C
  have hl := lv_entry [rv E (some o), .int a_1] (n := 2) (by simp [lg_len_nil, lg_len_i, lg_len_j, lg_len_q, lg_len_f, lg_len_d, lg_len_r])
  rw [lg_entry_eq]
  generalize (lg_sl [rv E (some o), .int a_1] ++ List.replicate (2 - (lg_sl [rv E (some o), .int a_1]).length) Slot.unset).toArray = ls at hl ⊢
  replace hl : lv_has ls 2 [(0, rv E (some o)), (1, .int a_1)] := by simpa only [lv_args, cat_q, cat_i, cat_j, reduceIte, Nat.reduceEqDiff, Nat.reduceAdd, Nat.zero_add] using hl
  generalize s.heap = H at hH ⊢
  unfold f_X4_init at hf
  refine hl_aload_n hx hb dX4_init_0 rfl (lv_at hl 0 rfl) ?_
  refine hw_obj hx hb hml hl.1 hown hts m1_69 m1_37 m1_38 dX4_init_1 (Nat.le_of_ble_eq_true rfl) (Nat.le_of_ble_eq_true rfl) ?_
  refine hl_aload_n hx hb dX4_init_4 rfl (lv_at hl 0 rfl) ?_
  refine lv_iload_n hx hb dX4_init_5 rfl (lv_at hl 1 rfl) ?_
  refine lv_iconst (v := 0) hx hb dX4_init_6 (by decide) ?_
  refine va_mmax hx hb (hml.trans hl.1.symm) hown (hts _ m1_70) (hts _ m1_71) (hts _ m1_5) (hts _ m1_72) (Nat.le_of_ble_eq_true rfl) (Nat.le_trans (Nat.add_le_add_right (show rc 8 [rv E (some o)] from (rcV rc0)) 13) (Nat.le_of_ble_eq_true rfl)) (Nat.le_of_ble_eq_true rfl) (Nat.le_of_ble_eq_true rfl) dX4_init_7 ?_
  obtain ⟨_, hg1, hf⟩ := bnd hf
  replace hg1 := grd_some hg1
  refine hw_newa23 (N := (imax a_1 0).toNatClampNeg) hx hb hts m1_81 hKs hH hg1.1 rfl (Nat.le_trans (Nat.mul_le_mul_right _ hg1.2) (Nat.le_of_ble_eq_true rfl)) (Nat.le_of_ble_eq_true rfl) (Nat.le_trans (Nat.add_le_add_left hg1.2 _) (Nat.le_of_ble_eq_true rfl)) dX4_init_10 (fun H hH => ?_)
  obtain ⟨K2, hK2, hf⟩ := bnd hf
  replace hK2 := Option.some.inj hK2
  obtain ⟨w3, hw3, hf⟩ := bnd hf
  replace hw3 := Option.some.inj hw3
  rw [hK2, hw3] at hH
  refine W.widen (k := 1) (n := 12) (Nat.le_refl _) (Nat.add_le_add_left hg1.2 _) ?_
  obtain ⟨a4, ha4, hf⟩ := bnd hf
  replace ha4 := chk_some ha4
  obtain ⟨w5, hw5, hf⟩ := bnd hf
  replace hw5 := Option.some.inj hw5
  refine pf4_0 (v := (some n)) hx hb hts hown hKs hH ha4.1 ha4.2 hn2 m1_73 dX4_init_12 (fun H locs hH => ?_)
  rw [hw5] at hH
  exact hw_aret hx hb (Nat.le_of_ble_eq_true rfl) (Nat.le_of_ble_eq_true rfl) hret hf hH hlocks dX4_init_15
end
