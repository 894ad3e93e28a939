section
variable {p : Program} {l : Launch} {e : Env} {s : State} {m : MethodId} {args : Array Value} {below : List Frame} {meth : Method} {c : Code} {E : Ev} {K : Kd} {z : Nat}

theorem dL_undo_0 : decode cL_undo 0 = .ok (.aload_n 1, 1) := by decide +kernel
theorem dL_undo_1 : decode cL_undo 1 = .ok (.iconst 0, 1) := by decide +kernel
theorem dL_undo_2 : decode cL_undo 2 = .ok (.aload_n 0, 1) := by decide +kernel
theorem dL_undo_3 : decode cL_undo 3 = .ok (.invokevirtual 102, 3) := by decide +kernel
theorem dL_undo_6 : decode cL_undo 6 = .ok (.i2l, 1) := by decide +kernel
theorem dL_undo_7 : decode cL_undo 7 = .ok (.lastore, 1) := by decide +kernel
theorem dL_undo_8 : decode cL_undo 8 = .ok (.goto 6, 3) := by decide +kernel
theorem dL_undo_11 : decode cL_undo 11 = .ok (.astore_n 2, 1) := by decide +kernel
theorem dL_undo_12 : decode cL_undo 12 = .ok (.iconst 1, 1) := by decide +kernel
theorem dL_undo_13 : decode cL_undo 13 = .ok (.ireturn, 1) := by decide +kernel
theorem dL_undo_14 : decode cL_undo 14 = .ok (.iconst 0, 1) := by decide +kernel
theorem dL_undo_15 : decode cL_undo 15 = .ok (.ireturn, 1) := by decide +kernel
theorem hs_L_undo : yL_undo.cls ≠ "java/lang/invoke/MethodHandle" ∧ yL_undo.cls ≠ "java/lang/invoke/VarHandle" ∧ (parseMethodDescriptor yL_undo.desc).map (fun d => d.parameters.length) = some 2 := by decide +kernel
set_option maxHeartbeats 4000000 in
set_option maxRecDepth 100000 in
theorem k_L_undo (l : Launch) (hls : l.stackTraces = false) (E : Ev) (K : Kd) (z : Nat) (a_0 : Option Nat) (a_1 : Option Nat) (w : Wd) {r : Int32} {w' : Wd} (hf : f_L_undo K a_0 a_1 w = some (r, w')) : Met l yL_undo (Cond.codeWith yL_undo cL_undo 3 (Option.some Jvm.ClassFile.FieldType.int) [(0, 8, 11, 58)] :: bt) ({ frames := 7, cells := 1, slots := 6, locals := 123 } : Room) (va_Pc [rv E a_0, rv E a_1] (HB E K w z)) (QW E K w' r) 1 6 (hA E) := by
  refine MetH_ofW (cc := cL_undo) (maxL := 3) (ret := (Option.some Jvm.ClassFile.FieldType.int)) (hh := [(0, 8, 11, 58)]) (by decide) rfl ?_
  intro p e s m args below meth c s₁ B hml htab hv
  obtain ⟨rfl, hz, hP, hKs, hT, hb0⟩ := hv
  have C : CX p l e s m _ meth c cL_undo 3 RL (Option.some Jvm.ClassFile.FieldType.int) E := ⟨B.exec, B.bytes, hml, findClass_of_methodNamed B.named, fun w h => atoms_spec (ws := Cond.codeWith yL_undo cL_undo 3 (Option.some Jvm.ClassFile.FieldType.int) [(0, 8, 11, 58)] :: bt) B.pre w (List.mem_cons_of_mem _ h), hKs, hT, by rw [hz]; exact hb0, B.notSynchronized, B.returns⟩
  have hH : HQ E K z w s s.heap [] := ⟨hP, va_S.rf, hz⟩
  obtain ⟨hx, hb, hml, hown, hts, hKs, hT, hb0, hlocks, hret⟩ := id C
  have hl := lv_entry [rv E a_0, rv E a_1] (n := 3) (by simp [lg_len_nil, lg_len_i, lg_len_j, lg_len_q, lg_len_f, lg_len_d, lg_len_r])
  rw [lg_entry_eq]
  generalize (lg_sl [rv E a_0, rv E a_1] ++ List.replicate (3 - (lg_sl [rv E a_0, rv E a_1]).length) Slot.unset).toArray = ls at hl ⊢
  replace hl : lv_has ls 3 [(0, rv E a_0), (1, rv E a_1)] := by simpa only [lv_args, cat_q, cat_i, cat_j, reduceIte, Nat.reduceEqDiff, Nat.reduceAdd, Nat.zero_add] using hl
  generalize s.heap = H at hH ⊢
  unfold f_L_undo at hf
  refine hl_aload_n hx hb dL_undo_0 rfl (lv_at hl 1 rfl) ?_
  refine lv_iconst (v := 0) hx hb dL_undo_1 (by decide) ?_
  refine hl_aload_n hx hb dL_undo_2 rfl (lv_at hl 0 rfl) ?_
  obtain ⟨a1, ha1, hf⟩ := bnd hf
  replace ha1 := chk_some ha1
  obtain ⟨q2, hq2, hf⟩ := bnd hf
  refine hxC_i hx hb hml hown hts hKs hT hb0 hH (As := []) (rest := [.int 0, rv E a_1]) (k_X12_undo l hls E K H.size a1 w ha1.2 hq2) (gV m6_121 m6_122 m6_123 m1_1 m6_124) hd_X12_undo ⟨Nat.le_of_ble_eq_true rfl, Nat.le_of_ble_eq_true rfl, rfl, rfl⟩ ha1.1 ha1.2 rfl rfl rfl hl.1 rfl (rcI (rcV rc0)) rfl dL_undo_3 ⟨Nat.le_of_ble_eq_true rfl, Nat.le_of_ble_eq_true rfl⟩ (fun c4 hc4 H locs q9 ce9 hH hc9 hv9 hf9 => ?_) (fun v3 hv3 H locs hH => ?_)
  · replace hf := (xh_inr hc4).symm.trans hf
    by_cases h5 : c4 = 3
    · subst h5
      replace hf := (if_pos rfl).symm.trans hf
      refine vx_catch (name := "java/lang/IllegalStateException") hown [] ⟨0, 8, 11, 58⟩ [] htab pass0 (by decide) (by decide) (hts _ m5_182) (va_Nw.use rfl (hKs.2.1 _ m5_197)) hc9 hv9 hf9 ?_
      refine lv_astore_n (lv' := [(2, .ref q9), (0, rv E a_0), (1, rv E a_1)]) hx hb dL_undo_11 rfl hl (by decide) (by simp [List.filter_cons, cat_q, cat_i, cat_j]) (fun ls hl => ?_)
      refine lv_iconst (v := 1) hx hb dL_undo_12 (by decide) ?_
      exact hw_wret hx hb (Nat.le_of_ble_eq_true rfl) (Nat.le_of_ble_eq_true rfl) hret hf hH hlocks dL_undo_13
    replace hf := (if_neg h5).symm.trans hf
    cases hf
  · replace hf := (xh_inl hv3).symm.trans hf
    refine lv_i2l (v := (v3.toInt64)) hx hb dL_undo_6 rfl ?_
    obtain ⟨a6, ha6, hf⟩ := bnd hf
    replace ha6 := cha_some ha6
    obtain ⟨j7, hj7, hf⟩ := bnd hf
    obtain ⟨w8, hw8, hf⟩ := bnd hf
    replace hw8 := Option.some.inj hw8
    refine hw_last (x := (v3.toInt64)) hx hb hKs hH ha6.1 ha6.2 hj7 dL_undo_7 (fun H locs hH => ?_)
    rw [hw8] at hH
    refine lv_goto (tgt := 14) hx hb dL_undo_8 (by decide) ?_
    refine lv_iconst (v := 0) hx hb dL_undo_14 (by decide) ?_
    exact hw_wret hx hb (Nat.le_of_ble_eq_true rfl) (Nat.le_of_ble_eq_true rfl) hret hf hH hlocks dL_undo_15

theorem dL_lapsesIn_0 : decode cL_lapsesIn 0 = .ok (.aload_n 2, 1) := by decide +kernel
theorem dL_lapsesIn_1 : decode cL_lapsesIn 1 = .ok (.iconst 0, 1) := by decide +kernel
theorem dL_lapsesIn_2 : decode cL_lapsesIn 2 = .ok (.aload_n 0, 1) := by decide +kernel
theorem dL_lapsesIn_3 : decode cL_lapsesIn 3 = .ok (.iload_n 1, 1) := by decide +kernel
theorem dL_lapsesIn_4 : decode cL_lapsesIn 4 = .ok (.invokevirtual 106, 3) := by decide +kernel
theorem dL_lapsesIn_7 : decode cL_lapsesIn 7 = .ok (.i2l, 1) := by decide +kernel
theorem dL_lapsesIn_8 : decode cL_lapsesIn 8 = .ok (.lastore, 1) := by decide +kernel
theorem dL_lapsesIn_9 : decode cL_lapsesIn 9 = .ok (.goto 6, 3) := by decide +kernel
theorem dL_lapsesIn_12 : decode cL_lapsesIn 12 = .ok (.astore_n 3, 1) := by decide +kernel
theorem dL_lapsesIn_13 : decode cL_lapsesIn 13 = .ok (.iconst 1, 1) := by decide +kernel
theorem dL_lapsesIn_14 : decode cL_lapsesIn 14 = .ok (.ireturn, 1) := by decide +kernel
theorem dL_lapsesIn_15 : decode cL_lapsesIn 15 = .ok (.iconst 0, 1) := by decide +kernel
theorem dL_lapsesIn_16 : decode cL_lapsesIn 16 = .ok (.ireturn, 1) := by decide +kernel
theorem hs_L_lapsesIn : yL_lapsesIn.cls ≠ "java/lang/invoke/MethodHandle" ∧ yL_lapsesIn.cls ≠ "java/lang/invoke/VarHandle" ∧ (parseMethodDescriptor yL_lapsesIn.desc).map (fun d => d.parameters.length) = some 3 := by decide +kernel
set_option maxHeartbeats 4000000 in
set_option maxRecDepth 100000 in
theorem k_L_lapsesIn (l : Launch) (hls : l.stackTraces = false) (E : Ev) (K : Kd) (z : Nat) (a_0 : Option Nat) (a_1 : Int32) (a_2 : Option Nat) (w : Wd) {r : Int32} {w' : Wd} (hf : f_L_lapsesIn K a_0 a_1 a_2 w = some (r, w')) : Met l yL_lapsesIn (Cond.codeWith yL_lapsesIn cL_lapsesIn 4 (Option.some Jvm.ClassFile.FieldType.int) [(0, 9, 12, 13)] :: bt) ({ frames := 8, cells := 1, slots := 6, locals := 133 } : Room) (va_Pc [rv E a_0, .int a_1, rv E a_2] (HB E K w z)) (QW E K w' r) 1 6 (hA E) := by
  refine MetH_ofW (cc := cL_lapsesIn) (maxL := 4) (ret := (Option.some Jvm.ClassFile.FieldType.int)) (hh := [(0, 9, 12, 13)]) (by decide) rfl ?_
  intro p e s m args below meth c s₁ B hml htab hv
  obtain ⟨rfl, hz, hP, hKs, hT, hb0⟩ := hv
  have C : CX p l e s m _ meth c cL_lapsesIn 4 RL (Option.some Jvm.ClassFile.FieldType.int) E := ⟨B.exec, B.bytes, hml, findClass_of_methodNamed B.named, fun w h => atoms_spec (ws := Cond.codeWith yL_lapsesIn cL_lapsesIn 4 (Option.some Jvm.ClassFile.FieldType.int) [(0, 9, 12, 13)] :: bt) B.pre w (List.mem_cons_of_mem _ h), hKs, hT, by rw [hz]; exact hb0, B.notSynchronized, B.returns⟩
  have hH : HQ E K z w s s.heap [] := ⟨hP, va_S.rf, hz⟩
  obtain ⟨hx, hb, hml, hown, hts, hKs, hT, hb0, hlocks, hret⟩ := id C
  have hl := lv_entry [rv E a_0, .int a_1, rv E a_2] (n := 4) (by simp [lg_len_nil, lg_len_i, lg_len_j, lg_len_q, lg_len_f, lg_len_d, lg_len_r])
  rw [lg_entry_eq]
  generalize (lg_sl [rv E a_0, .int a_1, rv E a_2] ++ List.replicate (4 - (lg_sl [rv E a_0, .int a_1, rv E a_2]).length) Slot.unset).toArray = ls at hl ⊢
  replace hl : lv_has ls 4 [(0, rv E a_0), (1, .int a_1), (2, rv E a_2)] := by simpa only [lv_args, cat_q, cat_i, cat_j, reduceIte, Nat.reduceEqDiff, Nat.reduceAdd, Nat.zero_add] using hl
  generalize s.heap = H at hH ⊢
  unfold f_L_lapsesIn at hf
  refine hl_aload_n hx hb dL_lapsesIn_0 rfl (lv_at hl 2 rfl) ?_
  refine lv_iconst (v := 0) hx hb dL_lapsesIn_1 (by decide) ?_
  refine hl_aload_n hx hb dL_lapsesIn_2 rfl (lv_at hl 0 rfl) ?_
  refine lv_iload_n hx hb dL_lapsesIn_3 rfl (lv_at hl 1 rfl) ?_
  obtain ⟨a1, ha1, hf⟩ := bnd hf
  replace ha1 := chk_some ha1
  obtain ⟨q2, hq2, hf⟩ := bnd hf
  refine hxC_i hx hb hml hown hts hKs hT hb0 hH (As := [.int a_1]) (rest := [.int 0, rv E a_2]) (k_X12_lapsesIn l hls E K H.size a1 a_1 w ha1.2 hq2) (gV m6_128 m6_129 m6_130 m1_1 m6_131) hd_X12_lapsesIn ⟨Nat.le_of_ble_eq_true rfl, Nat.le_of_ble_eq_true rfl, rfl, rfl⟩ ha1.1 ha1.2 rfl rfl rfl hl.1 rfl (rcI (rcV rc0)) rfl dL_lapsesIn_4 ⟨Nat.le_of_ble_eq_true rfl, Nat.le_of_ble_eq_true rfl⟩ (fun c4 hc4 H locs q9 ce9 hH hc9 hv9 hf9 => ?_) (fun v3 hv3 H locs hH => ?_)
  · replace hf := (xh_inr hc4).symm.trans hf
    by_cases h5 : c4 = 2
    · subst h5
      replace hf := (if_pos rfl).symm.trans hf
      refine vx_catch (name := "java/lang/IllegalArgumentException") hown [] ⟨0, 9, 12, 13⟩ [] htab pass0 (by decide) (by decide) (hts _ m4_213) (va_Nw.use rfl (hKs.2.1 _ m4_220)) hc9 hv9 hf9 ?_
      refine lv_astore_n (lv' := [(3, .ref q9), (0, rv E a_0), (1, .int a_1), (2, rv E a_2)]) hx hb dL_lapsesIn_12 rfl hl (by decide) (by simp [List.filter_cons, cat_q, cat_i, cat_j]) (fun ls hl => ?_)
      refine lv_iconst (v := 1) hx hb dL_lapsesIn_13 (by decide) ?_
      exact hw_wret hx hb (Nat.le_of_ble_eq_true rfl) (Nat.le_of_ble_eq_true rfl) hret hf hH hlocks dL_lapsesIn_14
    replace hf := (if_neg h5).symm.trans hf
    cases hf
  · replace hf := (xh_inl hv3).symm.trans hf
    refine lv_i2l (v := (v3.toInt64)) hx hb dL_lapsesIn_7 rfl ?_
    obtain ⟨a6, ha6, hf⟩ := bnd hf
    replace ha6 := cha_some ha6
    obtain ⟨j7, hj7, hf⟩ := bnd hf
    obtain ⟨w8, hw8, hf⟩ := bnd hf
    replace hw8 := Option.some.inj hw8
    refine hw_last (x := (v3.toInt64)) hx hb hKs hH ha6.1 ha6.2 hj7 dL_lapsesIn_8 (fun H locs hH => ?_)
    rw [hw8] at hH
    refine lv_goto (tgt := 15) hx hb dL_lapsesIn_9 (by decide) ?_
    refine lv_iconst (v := 0) hx hb dL_lapsesIn_15 (by decide) ?_
    exact hw_wret hx hb (Nat.le_of_ble_eq_true rfl) (Nat.le_of_ble_eq_true rfl) hret hf hH hlocks dL_lapsesIn_16

theorem dL_restoreState_0 : decode cL_restoreState 0 = .ok (.aload_n 1, 1) := by decide +kernel
theorem dL_restoreState_1 : decode cL_restoreState 1 = .ok (.iconst 0, 1) := by decide +kernel
theorem dL_restoreState_2 : decode cL_restoreState 2 = .ok (.aload_n 0, 1) := by decide +kernel
theorem dL_restoreState_3 : decode cL_restoreState 3 = .ok (.invokevirtual 112, 3) := by decide +kernel
theorem dL_restoreState_6 : decode cL_restoreState 6 = .ok (.i2l, 1) := by decide +kernel
theorem dL_restoreState_7 : decode cL_restoreState 7 = .ok (.lastore, 1) := by decide +kernel
theorem dL_restoreState_8 : decode cL_restoreState 8 = .ok (.goto 6, 3) := by decide +kernel
theorem dL_restoreState_11 : decode cL_restoreState 11 = .ok (.astore_n 2, 1) := by decide +kernel
theorem dL_restoreState_12 : decode cL_restoreState 12 = .ok (.iconst 1, 1) := by decide +kernel
theorem dL_restoreState_13 : decode cL_restoreState 13 = .ok (.ireturn, 1) := by decide +kernel
theorem dL_restoreState_14 : decode cL_restoreState 14 = .ok (.iconst 0, 1) := by decide +kernel
theorem dL_restoreState_15 : decode cL_restoreState 15 = .ok (.ireturn, 1) := by decide +kernel
theorem hs_L_restoreState : yL_restoreState.cls ≠ "java/lang/invoke/MethodHandle" ∧ yL_restoreState.cls ≠ "java/lang/invoke/VarHandle" ∧ (parseMethodDescriptor yL_restoreState.desc).map (fun d => d.parameters.length) = some 2 := by decide +kernel
set_option maxHeartbeats 4000000 in
set_option maxRecDepth 100000 in
theorem k_L_restoreState (l : Launch) (hls : l.stackTraces = false) (E : Ev) (K : Kd) (z : Nat) (a_0 : Option Nat) (a_1 : Option Nat) (w : Wd) {r : Int32} {w' : Wd} (hf : f_L_restoreState K a_0 a_1 w = some (r, w')) : Met l yL_restoreState (Cond.codeWith yL_restoreState cL_restoreState 3 (Option.some Jvm.ClassFile.FieldType.int) [(0, 8, 11, 58)] :: bt) ({ frames := 7, cells := 1, slots := 6, locals := 123 } : Room) (va_Pc [rv E a_0, rv E a_1] (HB E K w z)) (QW E K w' r) 1 6 (hA E) := by
  refine MetH_ofW (cc := cL_restoreState) (maxL := 3) (ret := (Option.some Jvm.ClassFile.FieldType.int)) (hh := [(0, 8, 11, 58)]) (by decide) rfl ?_
  intro p e s m args below meth c s₁ B hml htab hv
  obtain ⟨rfl, hz, hP, hKs, hT, hb0⟩ := hv
  have C : CX p l e s m _ meth c cL_restoreState 3 RL (Option.some Jvm.ClassFile.FieldType.int) E := ⟨B.exec, B.bytes, hml, findClass_of_methodNamed B.named, fun w h => atoms_spec (ws := Cond.codeWith yL_restoreState cL_restoreState 3 (Option.some Jvm.ClassFile.FieldType.int) [(0, 8, 11, 58)] :: bt) B.pre w (List.mem_cons_of_mem _ h), hKs, hT, by rw [hz]; exact hb0, B.notSynchronized, B.returns⟩
  have hH : HQ E K z w s s.heap [] := ⟨hP, va_S.rf, hz⟩
  obtain ⟨hx, hb, hml, hown, hts, hKs, hT, hb0, hlocks, hret⟩ := id C
  have hl := lv_entry [rv E a_0, rv E a_1] (n := 3) (by simp [lg_len_nil, lg_len_i, lg_len_j, lg_len_q, lg_len_f, lg_len_d, lg_len_r])
  rw [lg_entry_eq]
  generalize (lg_sl [rv E a_0, rv E a_1] ++ List.replicate (3 - (lg_sl [rv E a_0, rv E a_1]).length) Slot.unset).toArray = ls at hl ⊢
  replace hl : lv_has ls 3 [(0, rv E a_0), (1, rv E a_1)] := by simpa only [lv_args, cat_q, cat_i, cat_j, reduceIte, Nat.reduceEqDiff, Nat.reduceAdd, Nat.zero_add] using hl
  generalize s.heap = H at hH ⊢
  unfold f_L_restoreState at hf
  refine hl_aload_n hx hb dL_restoreState_0 rfl (lv_at hl 1 rfl) ?_
  refine lv_iconst (v := 0) hx hb dL_restoreState_1 (by decide) ?_
  refine hl_aload_n hx hb dL_restoreState_2 rfl (lv_at hl 0 rfl) ?_
  obtain ⟨a1, ha1, hf⟩ := bnd hf
  replace ha1 := chk_some ha1
  obtain ⟨q2, hq2, hf⟩ := bnd hf
  refine hxC_i hx hb hml hown hts hKs hT hb0 hH (As := []) (rest := [.int 0, rv E a_1]) (k_X12_restoreState l hls E K H.size a1 w ha1.2 hq2) (gV m6_158 m6_159 m6_160 m1_1 m6_161) hd_X12_restoreState ⟨Nat.le_of_ble_eq_true rfl, Nat.le_of_ble_eq_true rfl, rfl, rfl⟩ ha1.1 ha1.2 rfl rfl rfl hl.1 rfl (rcI (rcV rc0)) rfl dL_restoreState_3 ⟨Nat.le_of_ble_eq_true rfl, Nat.le_of_ble_eq_true rfl⟩ (fun c4 hc4 H locs q9 ce9 hH hc9 hv9 hf9 => ?_) (fun v3 hv3 H locs hH => ?_)
  · replace hf := (xh_inr hc4).symm.trans hf
    by_cases h5 : c4 = 3
    · subst h5
      replace hf := (if_pos rfl).symm.trans hf
      refine vx_catch (name := "java/lang/IllegalStateException") hown [] ⟨0, 8, 11, 58⟩ [] htab pass0 (by decide) (by decide) (hts _ m5_182) (va_Nw.use rfl (hKs.2.1 _ m5_197)) hc9 hv9 hf9 ?_
      refine lv_astore_n (lv' := [(2, .ref q9), (0, rv E a_0), (1, rv E a_1)]) hx hb dL_restoreState_11 rfl hl (by decide) (by simp [List.filter_cons, cat_q, cat_i, cat_j]) (fun ls hl => ?_)
      refine lv_iconst (v := 1) hx hb dL_restoreState_12 (by decide) ?_
      exact hw_wret hx hb (Nat.le_of_ble_eq_true rfl) (Nat.le_of_ble_eq_true rfl) hret hf hH hlocks dL_restoreState_13
    replace hf := (if_neg h5).symm.trans hf
    cases hf
  · replace hf := (xh_inl hv3).symm.trans hf
    refine lv_i2l (v := (v3.toInt64)) hx hb dL_restoreState_6 rfl ?_
    obtain ⟨a6, ha6, hf⟩ := bnd hf
    replace ha6 := cha_some ha6
    obtain ⟨j7, hj7, hf⟩ := bnd hf
    obtain ⟨w8, hw8, hf⟩ := bnd hf
    replace hw8 := Option.some.inj hw8
    refine hw_last (x := (v3.toInt64)) hx hb hKs hH ha6.1 ha6.2 hj7 dL_restoreState_7 (fun H locs hH => ?_)
    rw [hw8] at hH
    refine lv_goto (tgt := 14) hx hb dL_restoreState_8 (by decide) ?_
    refine lv_iconst (v := 0) hx hb dL_restoreState_14 (by decide) ?_
    exact hw_wret hx hb (Nat.le_of_ble_eq_true rfl) (Nat.le_of_ble_eq_true rfl) hret hf hH hlocks dL_restoreState_15

theorem dJ0_checkIndex_df160_0 : decode cJ0_checkIndex_df160 0 = .ok (.iload_n 0, 1) := by decide +kernel
theorem dJ0_checkIndex_df160_1 : decode cJ0_checkIndex_df160 1 = .ok (.iload_n 1, 1) := by decide +kernel
theorem dJ0_checkIndex_df160_2 : decode cJ0_checkIndex_df160 2 = .ok (.getstatic 1053, 3) := by decide +kernel
theorem dJ0_checkIndex_df160_5 : decode cJ0_checkIndex_df160 5 = .ok (.invokestatic 1059, 3) := by decide +kernel
theorem dJ0_checkIndex_df160_8 : decode cJ0_checkIndex_df160 8 = .ok (.pop, 1) := by decide +kernel
theorem dJ0_checkIndex_df160_9 : decode cJ0_checkIndex_df160 9 = .ok (.return_, 1) := by decide +kernel
theorem hs_J0_checkIndex_df160 : yJ0_checkIndex_df160.cls ≠ "java/lang/invoke/MethodHandle" ∧ yJ0_checkIndex_df160.cls ≠ "java/lang/invoke/VarHandle" ∧ (parseMethodDescriptor yJ0_checkIndex_df160.desc).map (fun d => d.parameters.length) = some 2 := by decide +kernel
set_option maxHeartbeats 4000000 in
set_option maxRecDepth 100000 in
theorem k_J0_checkIndex_df160 (l : Launch) (E : Ev) (K : Kd) (z : Nat) (a_0 : Int32) (a_1 : Int32) (w : Wd) {w' : Wd} (hf : f_J0_checkIndex_df160 K a_0 a_1 w = some w') : Met l yJ0_checkIndex_df160 (Cond.code yJ0_checkIndex_df160 cJ0_checkIndex_df160 2 (Option.none : Option Jvm.ClassFile.FieldType) :: bt) ({ frames := 1, cells := 0, slots := 0, locals := 22 } : Room) (va_Pc [.int a_0, .int a_1] (HB E K w z)) (QV E K z w') 0 0 (hA E) := by
  refine Met.ofW (cc := cJ0_checkIndex_df160) (maxL := 2) (ret := (Option.none : Option Jvm.ClassFile.FieldType)) (by decide) rfl ?_
  intro p e s m args below meth c s₁ B hml hv
  obtain ⟨rfl, hz, hP, hKs, hT, hb0⟩ := hv
  have C : CX p l e s m _ meth c cJ0_checkIndex_df160 2 RJ0 (Option.none : Option Jvm.ClassFile.FieldType) E := ⟨B.exec, B.bytes, hml, findClass_of_methodNamed B.named, fun w h => atoms_spec (ws := Cond.code yJ0_checkIndex_df160 cJ0_checkIndex_df160 2 (Option.none : Option Jvm.ClassFile.FieldType) :: bt) B.pre w (List.mem_cons_of_mem _ h), hKs, hT, by rw [hz]; exact hb0, B.notSynchronized, B.returns⟩
  have hH : HQ E K z w s s.heap [] := ⟨hP, va_S.rf, hz⟩
  obtain ⟨hx, hb, hml, hown, hts, hKs, hT, hb0, hlocks, hret⟩ := id C
  have hl := lv_entry [.int a_0, .int a_1] (n := 2) (by simp [lg_len_nil, lg_len_i, lg_len_j, lg_len_q, lg_len_f, lg_len_d, lg_len_r])
  rw [lg_entry_eq]
  generalize (lg_sl [.int a_0, .int a_1] ++ List.replicate (2 - (lg_sl [.int a_0, .int a_1]).length) Slot.unset).toArray = ls at hl ⊢
  replace hl : lv_has ls 2 [(0, .int a_0), (1, .int a_1)] := by simpa only [lv_args, cat_q, cat_i, cat_j, reduceIte, Nat.reduceEqDiff, Nat.reduceAdd, Nat.zero_add] using hl
  generalize s.heap = H at hH ⊢
  unfold f_J0_checkIndex_df160 at hf
  refine lv_iload_n hx hb dJ0_checkIndex_df160_0 rfl (lv_at hl 0 rfl) ?_
  refine lv_iload_n hx hb dJ0_checkIndex_df160_1 rfl (lv_at hl 1 rfl) ?_
  refine hw_fmt hx hb hts hown hT hH m9_21 dJ0_checkIndex_df160_2 (fun x1 => ?_)
  obtain ⟨q2, hq2, hf⟩ := bnd hf
  refine hcS_i hx hb hml hown hts hKs hT hb0 hH (As := [.int a_0, .int a_1, va_rf x1]) (rest := []) (k_J3_checkIndex_8e157 l E K H.size a_0 a_1 w x1 hq2) (gS m9_23 m9_24 m1_21 m9_25) hs_J3_checkIndex_8e157 ⟨Nat.le_of_ble_eq_true rfl, Nat.le_of_ble_eq_true rfl, rfl, rfl⟩ hl.1 rfl rc0 rfl dJ0_checkIndex_df160_5 ⟨Nat.zero_le _, Nat.zero_le _⟩ (fun H locs hH => ?_)
  refine lv_pop hx hb dJ0_checkIndex_df160_8 rfl ?_
  exact hw_vret hx hb hret hf hH hlocks dJ0_checkIndex_df160_9

theorem dJ1_charAt_3b067_0 : decode cJ1_charAt_3b067 0 = .ok (.iload_n 1, 1) := by decide +kernel
theorem dJ1_charAt_3b067_1 : decode cJ1_charAt_3b067 1 = .ok (.aload_n 0, 1) := by decide +kernel
theorem dJ1_charAt_3b067_2 : decode cJ1_charAt_3b067 2 = .ok (.arraylength, 1) := by decide +kernel
theorem dJ1_charAt_3b067_3 : decode cJ1_charAt_3b067 3 = .ok (.invokestatic 9, 3) := by decide +kernel
theorem dJ1_charAt_3b067_6 : decode cJ1_charAt_3b067 6 = .ok (.aload_n 0, 1) := by decide +kernel
theorem dJ1_charAt_3b067_7 : decode cJ1_charAt_3b067 7 = .ok (.iload_n 1, 1) := by decide +kernel
theorem dJ1_charAt_3b067_8 : decode cJ1_charAt_3b067 8 = .ok (.baload, 1) := by decide +kernel
theorem dJ1_charAt_3b067_9 : decode cJ1_charAt_3b067 9 = .ok (.sipush 255, 3) := by decide +kernel
theorem dJ1_charAt_3b067_12 : decode cJ1_charAt_3b067 12 = .ok (.iand, 1) := by decide +kernel
theorem dJ1_charAt_3b067_13 : decode cJ1_charAt_3b067 13 = .ok (.i2c, 1) := by decide +kernel
theorem dJ1_charAt_3b067_14 : decode cJ1_charAt_3b067 14 = .ok (.ireturn, 1) := by decide +kernel
theorem hs_J1_charAt_3b067 : yJ1_charAt_3b067.cls ≠ "java/lang/invoke/MethodHandle" ∧ yJ1_charAt_3b067.cls ≠ "java/lang/invoke/VarHandle" ∧ (parseMethodDescriptor yJ1_charAt_3b067.desc).map (fun d => d.parameters.length) = some 2 := by decide +kernel
set_option maxHeartbeats 4000000 in
set_option maxRecDepth 100000 in
theorem k_J1_charAt_3b067 (l : Launch) (E : Ev) (K : Kd) (z : Nat) (a_1 : Int32) (w : Wd) {r : Int32} {w' : Wd} (hf : f_J1_charAt_3b067 K a_1 w = some (r, w')) : Met l yJ1_charAt_3b067 (Cond.code yJ1_charAt_3b067 cJ1_charAt_3b067 2 (Option.some Jvm.ClassFile.FieldType.char) :: bt) ({ frames := 2, cells := 0, slots := 0, locals := 43 } : Room) (va_Pc [.ref (E.2.2.2 202), .int a_1] (HB E K w z)) (QI E K z w' r) 0 0 (hA E) := by
  refine Met.ofW (cc := cJ1_charAt_3b067) (maxL := 2) (ret := (Option.some Jvm.ClassFile.FieldType.char)) (by decide) rfl ?_
  intro p e s m args below meth c s₁ B hml hv
  obtain ⟨rfl, hz, hP, hKs, hT, hb0⟩ := hv
  have C : CX p l e s m _ meth c cJ1_charAt_3b067 2 RJ1 (Option.some Jvm.ClassFile.FieldType.char) E := ⟨B.exec, B.bytes, hml, findClass_of_methodNamed B.named, fun w h => atoms_spec (ws := Cond.code yJ1_charAt_3b067 cJ1_charAt_3b067 2 (Option.some Jvm.ClassFile.FieldType.char) :: bt) B.pre w (List.mem_cons_of_mem _ h), hKs, hT, by rw [hz]; exact hb0, B.notSynchronized, B.returns⟩
  have hH : HQ E K z w s s.heap [] := ⟨hP, va_S.rf, hz⟩
  obtain ⟨hx, hb, hml, hown, hts, hKs, hT, hb0, hlocks, hret⟩ := id C
  have hl := lv_entry [.ref (E.2.2.2 202), .int a_1] (n := 2) (by simp [lg_len_nil, lg_len_i, lg_len_j, lg_len_q, lg_len_f, lg_len_d, lg_len_r])
  rw [lg_entry_eq]
  generalize (lg_sl [.ref (E.2.2.2 202), .int a_1] ++ List.replicate (2 - (lg_sl [.ref (E.2.2.2 202), .int a_1]).length) Slot.unset).toArray = ls at hl ⊢
  replace hl : lv_has ls 2 [(0, .ref (E.2.2.2 202)), (1, .int a_1)] := by simpa only [lv_args, cat_q, cat_i, cat_j, reduceIte, Nat.reduceEqDiff, Nat.reduceAdd, Nat.zero_add] using hl
  generalize s.heap = H at hH ⊢
  unfold f_J1_charAt_3b067 at hf
  refine lv_iload_n hx hb dJ1_charAt_3b067_0 rfl (lv_at hl 1 rfl) ?_
  refine lv_aload_n hx hb dJ1_charAt_3b067_1 rfl (lv_at hl 0 rfl) ?_
  refine hw_blen hx hb hT hH dJ1_charAt_3b067_2 ?_
  obtain ⟨q1, hq1, hf⟩ := bnd hf
  refine hcS_v hx hb hml hown hts hKs hT hb0 hH (As := [.int a_1, .int ((101 : Int32))]) (rest := []) (k_J0_checkIndex_df160 l E K H.size a_1 (101 : Int32) w hq1) (gS m9_18 m9_19 m1_19 m9_20) hs_J0_checkIndex_df160 ⟨Nat.le_of_ble_eq_true rfl, Nat.le_of_ble_eq_true rfl, rfl, rfl⟩ hl.1 rfl rc0 rfl dJ1_charAt_3b067_3 ⟨Nat.zero_le _, Nat.zero_le _⟩ (fun H locs hH => ?_)
  refine lv_aload_n hx hb dJ1_charAt_3b067_6 rfl (lv_at hl 0 rfl) ?_
  refine lv_iload_n hx hb dJ1_charAt_3b067_7 rfl (lv_at hl 1 rfl) ?_
  obtain ⟨j2, hj2, hf⟩ := bnd hf
  refine hw_bat hx hb hT hH hj2 dJ1_charAt_3b067_8 ?_
  refine lv_sipush (v := 255) hx hb dJ1_charAt_3b067_9 (by decide) ?_
  refine lv_iand hx hb dJ1_charAt_3b067_12 ?_
  refine lv_i2c (v := (i2cI ((wordsB.getD j2 0) &&& 255))) hx hb dJ1_charAt_3b067_13 rfl ?_
  exact hw_nret hx hb hret (pk_nc _) hf hH hlocks dJ1_charAt_3b067_14

theorem dX12_count_0 : decode cX12_count 0 = .ok (.iload_n 1, 1) := by decide +kernel
theorem dX12_count_1 : decode cX12_count 1 = .ok (.tableswitch 209 0 13 #[71, 83, 95, 107, 119, 130, 138, 149, 157, 168, 173, 182, 191, 200], 71) := by decide +kernel
theorem dX12_count_72 : decode cX12_count 72 = .ok (.aload_n 0, 1) := by decide +kernel
theorem dX12_count_73 : decode cX12_count 73 = .ok (.getfield 35, 3) := by decide +kernel
theorem dX12_count_76 : decode cX12_count 76 = .ok (.getfield 87, 3) := by decide +kernel
theorem dX12_count_79 : decode cX12_count 79 = .ok (.iconst 0, 1) := by decide +kernel
theorem dX12_count_80 : decode cX12_count 80 = .ok (.invokevirtual 105, 3) := by decide +kernel
theorem dX12_count_83 : decode cX12_count 83 = .ok (.ireturn, 1) := by decide +kernel
theorem dX12_count_84 : decode cX12_count 84 = .ok (.aload_n 0, 1) := by decide +kernel
theorem dX12_count_85 : decode cX12_count 85 = .ok (.getfield 35, 3) := by decide +kernel
theorem dX12_count_88 : decode cX12_count 88 = .ok (.getfield 87, 3) := by decide +kernel
theorem dX12_count_91 : decode cX12_count 91 = .ok (.iconst 1, 1) := by decide +kernel
theorem dX12_count_92 : decode cX12_count 92 = .ok (.invokevirtual 105, 3) := by decide +kernel
theorem dX12_count_95 : decode cX12_count 95 = .ok (.ireturn, 1) := by decide +kernel
theorem dX12_count_96 : decode cX12_count 96 = .ok (.aload_n 0, 1) := by decide +kernel
theorem dX12_count_97 : decode cX12_count 97 = .ok (.getfield 35, 3) := by decide +kernel
theorem dX12_count_100 : decode cX12_count 100 = .ok (.getfield 87, 3) := by decide +kernel
theorem dX12_count_103 : decode cX12_count 103 = .ok (.iconst 2, 1) := by decide +kernel
theorem dX12_count_104 : decode cX12_count 104 = .ok (.invokevirtual 105, 3) := by decide +kernel
theorem dX12_count_107 : decode cX12_count 107 = .ok (.ireturn, 1) := by decide +kernel
theorem dX12_count_108 : decode cX12_count 108 = .ok (.aload_n 0, 1) := by decide +kernel
theorem dX12_count_109 : decode cX12_count 109 = .ok (.getfield 35, 3) := by decide +kernel
theorem dX12_count_112 : decode cX12_count 112 = .ok (.getfield 87, 3) := by decide +kernel
theorem dX12_count_115 : decode cX12_count 115 = .ok (.iconst 3, 1) := by decide +kernel
theorem dX12_count_116 : decode cX12_count 116 = .ok (.invokevirtual 105, 3) := by decide +kernel
theorem dX12_count_119 : decode cX12_count 119 = .ok (.ireturn, 1) := by decide +kernel
theorem dX12_count_120 : decode cX12_count 120 = .ok (.aload_n 0, 1) := by decide +kernel
theorem dX12_count_121 : decode cX12_count 121 = .ok (.getfield 35, 3) := by decide +kernel
theorem dX12_count_124 : decode cX12_count 124 = .ok (.getfield 109, 3) := by decide +kernel
theorem dX12_count_127 : decode cX12_count 127 = .ok (.getfield 113, 3) := by decide +kernel
theorem dX12_count_130 : decode cX12_count 130 = .ok (.ireturn, 1) := by decide +kernel
theorem dX12_count_131 : decode cX12_count 131 = .ok (.aload_n 0, 1) := by decide +kernel
theorem dX12_count_132 : decode cX12_count 132 = .ok (.getfield 35, 3) := by decide +kernel
theorem dX12_count_135 : decode cX12_count 135 = .ok (.invokevirtual 117, 3) := by decide +kernel
theorem dX12_count_138 : decode cX12_count 138 = .ok (.ireturn, 1) := by decide +kernel
theorem dX12_count_139 : decode cX12_count 139 = .ok (.aload_n 0, 1) := by decide +kernel
theorem dX12_count_140 : decode cX12_count 140 = .ok (.getfield 35, 3) := by decide +kernel
theorem dX12_count_143 : decode cX12_count 143 = .ok (.getfield 87, 3) := by decide +kernel
theorem dX12_count_146 : decode cX12_count 146 = .ok (.invokevirtual 121, 3) := by decide +kernel
theorem dX12_count_149 : decode cX12_count 149 = .ok (.ireturn, 1) := by decide +kernel
theorem dX12_count_150 : decode cX12_count 150 = .ok (.aload_n 0, 1) := by decide +kernel
theorem dX12_count_151 : decode cX12_count 151 = .ok (.getfield 35, 3) := by decide +kernel
theorem dX12_count_154 : decode cX12_count 154 = .ok (.getfield 124, 3) := by decide +kernel
theorem dX12_count_157 : decode cX12_count 157 = .ok (.ireturn, 1) := by decide +kernel
theorem dX12_count_158 : decode cX12_count 158 = .ok (.aload_n 0, 1) := by decide +kernel
theorem dX12_count_159 : decode cX12_count 159 = .ok (.getfield 35, 3) := by decide +kernel
theorem dX12_count_162 : decode cX12_count 162 = .ok (.getfield 87, 3) := by decide +kernel
theorem dX12_count_165 : decode cX12_count 165 = .ok (.getfield 127, 3) := by decide +kernel
theorem dX12_count_168 : decode cX12_count 168 = .ok (.ireturn, 1) := by decide +kernel
theorem dX12_count_169 : decode cX12_count 169 = .ok (.aload_n 0, 1) := by decide +kernel
theorem dX12_count_170 : decode cX12_count 170 = .ok (.getfield 102, 3) := by decide +kernel
theorem dX12_count_173 : decode cX12_count 173 = .ok (.ireturn, 1) := by decide +kernel
theorem dX12_count_174 : decode cX12_count 174 = .ok (.aload_n 0, 1) := by decide +kernel
theorem dX12_count_175 : decode cX12_count 175 = .ok (.getfield 35, 3) := by decide +kernel
theorem dX12_count_178 : decode cX12_count 178 = .ok (.iconst 0, 1) := by decide +kernel
theorem dX12_count_179 : decode cX12_count 179 = .ok (.invokevirtual 130, 3) := by decide +kernel
theorem dX12_count_182 : decode cX12_count 182 = .ok (.ireturn, 1) := by decide +kernel
theorem dX12_count_183 : decode cX12_count 183 = .ok (.aload_n 0, 1) := by decide +kernel
theorem dX12_count_184 : decode cX12_count 184 = .ok (.getfield 35, 3) := by decide +kernel
theorem dX12_count_187 : decode cX12_count 187 = .ok (.iconst 1, 1) := by decide +kernel
theorem dX12_count_188 : decode cX12_count 188 = .ok (.invokevirtual 130, 3) := by decide +kernel
theorem dX12_count_191 : decode cX12_count 191 = .ok (.ireturn, 1) := by decide +kernel
theorem dX12_count_192 : decode cX12_count 192 = .ok (.aload_n 0, 1) := by decide +kernel
theorem dX12_count_193 : decode cX12_count 193 = .ok (.getfield 35, 3) := by decide +kernel
theorem dX12_count_196 : decode cX12_count 196 = .ok (.iconst 2, 1) := by decide +kernel
theorem dX12_count_197 : decode cX12_count 197 = .ok (.invokevirtual 130, 3) := by decide +kernel
theorem dX12_count_200 : decode cX12_count 200 = .ok (.ireturn, 1) := by decide +kernel
theorem dX12_count_201 : decode cX12_count 201 = .ok (.aload_n 0, 1) := by decide +kernel
theorem dX12_count_202 : decode cX12_count 202 = .ok (.getfield 35, 3) := by decide +kernel
theorem dX12_count_205 : decode cX12_count 205 = .ok (.iconst 3, 1) := by decide +kernel
theorem dX12_count_206 : decode cX12_count 206 = .ok (.invokevirtual 130, 3) := by decide +kernel
theorem dX12_count_209 : decode cX12_count 209 = .ok (.ireturn, 1) := by decide +kernel
theorem dX12_count_210 : decode cX12_count 210 = .ok (.iconst (-1), 1) := by decide +kernel
theorem dX12_count_211 : decode cX12_count 211 = .ok (.ireturn, 1) := by decide +kernel
theorem hd_X12_count : yX12_count.cls = RX12 ∧ yX12_count.cls ≠ "java/lang/invoke/MethodHandle" ∧ yX12_count.cls ≠ "java/lang/invoke/VarHandle" ∧ (parseMethodDescriptor yX12_count.desc).map (fun d => d.parameters.length) = some 1 := by decide +kernel
theorem hs_X12_count : yX12_count.cls ≠ "java/lang/invoke/MethodHandle" ∧ yX12_count.cls ≠ "java/lang/invoke/VarHandle" ∧ (parseMethodDescriptor yX12_count.desc).map (fun d => d.parameters.length) = some 1 := by decide +kernel
set_option maxHeartbeats 4000000 in
set_option maxRecDepth 100000 in
theorem k_X12_count (l : Launch) (E : Ev) (K : Kd) (z : Nat) (o : Nat) (a_1 : Int32) (w : Wd) (ho : K o = some (10, 0)) {r : Int32} {w' : Wd} (hf : f_X12_count K o a_1 w = some (r, w')) : Met l yX12_count (Cond.code yX12_count cX12_count 2 (Option.some Jvm.ClassFile.FieldType.int) :: bt) ({ frames := 2, cells := 0, slots := 0, locals := 44 } : Room) (va_Pc [rv E (some o), .int a_1] (HB E K w z)) (QI E K z w' r) 0 0 (hA E) := by
  refine Met.ofW (cc := cX12_count) (maxL := 2) (ret := (Option.some Jvm.ClassFile.FieldType.int)) (by decide) rfl ?_
  intro p e s m args below meth c s₁ B hml hv
  obtain ⟨rfl, hz, hP, hKs, hT, hb0⟩ := hv
  have C : CX p l e s m _ meth c cX12_count 2 RX12 (Option.some Jvm.ClassFile.FieldType.int) E := ⟨B.exec, B.bytes, hml, findClass_of_methodNamed B.named, fun w h => atoms_spec (ws := Cond.code yX12_count cX12_count 2 (Option.some Jvm.ClassFile.FieldType.int) :: bt) B.pre w (List.mem_cons_of_mem _ h), hKs, hT, by rw [hz]; exact hb0, B.notSynchronized, B.returns⟩
  have hH : HQ E K z w s s.heap [] := ⟨hP, va_S.rf, hz⟩
  obtain ⟨hx, hb, hml, hown, hts, hKs, hT, hb0, hlocks, hret⟩ := id C
  have hl := lv_entry [rv E (some o), .int a_1] (n := 2) (by simp [lg_len_nil, lg_len_i, lg_len_j, lg_len_q, lg_len_f, lg_len_d, lg_len_r])
  rw [lg_entry_eq]
  generalize (lg_sl [rv E (some o), .int a_1] ++ List.replicate (2 - (lg_sl [rv E (some o), .int a_1]).length) Slot.unset).toArray = ls at hl ⊢
  replace hl : lv_has ls 2 [(0, rv E (some o)), (1, .int a_1)] := by simpa only [lv_args, cat_q, cat_i, cat_j, reduceIte, Nat.reduceEqDiff, Nat.reduceAdd, Nat.zero_add] using hl
  generalize s.heap = H at hH ⊢
  unfold f_X12_count at hf
  refine lv_iload_n hx hb dX12_count_0 rfl (lv_at hl 1 rfl) ?_
  by_cases c1 : (a_1 < 0 ∨ 13 < a_1)
  · replace hf := (if_pos c1).symm.trans hf
    refine hl_tabOut (tgt := 210) hx hb dX12_count_1 c1 (by decide) (by decide) (by decide) ?_
    refine lv_iconst (v := (-1)) hx hb dX12_count_210 (by decide) ?_
    exact hw_iret hx hb hret hf hH hlocks dX12_count_211
  replace hf := (if_neg c1).symm.trans hf
  by_cases c2 : a_1 = 0
  · replace hf := (if_pos c2).symm.trans hf
    refine hl_tabIn (tgt := 72) hx hb dX12_count_1 c2 (by decide) (by decide) rfl (by decide) ?_
    refine hl_aload_n hx hb dX12_count_72 rfl (lv_at hl 0 rfl) ?_
    refine g12_5 hx hb hts hown hKs hH rfl ho m2_224 dX12_count_73 ?_
    obtain ⟨a3, ha3, hf⟩ := bnd hf
    replace ha3 := chk_some ha3
    refine gn10_0 hx hb hts hown hKs hH ha3.1 ha3.2 m2_122 dX12_count_76 ?_
    refine lv_iconst (v := 0) hx hb dX12_count_79 (by decide) ?_
    obtain ⟨a4, ha4, hf⟩ := bnd hf
    replace ha4 := chk_some ha4
    obtain ⟨q5, hq5, hf⟩ := bnd hf
    refine hcV_i hx hb hml hown hts hKs hT hb0 hH (As := [.int 0]) (rest := []) (k_X9_size l E K H.size a4 0 w ha4.2 hq5) (gV m3_229 m3_151 m3_152 m1_2 m3_153) hd_X9_size ⟨Nat.le_of_ble_eq_true rfl, Nat.le_of_ble_eq_true rfl, rfl, rfl⟩ ha4.1 ha4.2 rfl rfl rfl hl.1 rfl rc0 rfl dX12_count_80 ⟨Nat.zero_le _, Nat.zero_le _⟩ (fun H locs hH => ?_)
    exact hw_iret hx hb hret hf hH hlocks dX12_count_83
  replace hf := (if_neg c2).symm.trans hf
  by_cases c6 : a_1 = 1
  · replace hf := (if_pos c6).symm.trans hf
    refine hl_tabIn (tgt := 84) hx hb dX12_count_1 c6 (by decide) (by decide) rfl (by decide) ?_
    refine hl_aload_n hx hb dX12_count_84 rfl (lv_at hl 0 rfl) ?_
    refine g12_5 hx hb hts hown hKs hH rfl ho m2_224 dX12_count_85 ?_
    obtain ⟨a7, ha7, hf⟩ := bnd hf
    replace ha7 := chk_some ha7
    refine gn10_0 hx hb hts hown hKs hH ha7.1 ha7.2 m2_122 dX12_count_88 ?_
    refine lv_iconst (v := 1) hx hb dX12_count_91 (by decide) ?_
    obtain ⟨a8, ha8, hf⟩ := bnd hf
    replace ha8 := chk_some ha8
    obtain ⟨q9, hq9, hf⟩ := bnd hf
    refine hcV_i hx hb hml hown hts hKs hT hb0 hH (As := [.int 1]) (rest := []) (k_X9_size l E K H.size a8 1 w ha8.2 hq9) (gV m3_229 m3_151 m3_152 m1_2 m3_153) hd_X9_size ⟨Nat.le_of_ble_eq_true rfl, Nat.le_of_ble_eq_true rfl, rfl, rfl⟩ ha8.1 ha8.2 rfl rfl rfl hl.1 rfl rc0 rfl dX12_count_92 ⟨Nat.zero_le _, Nat.zero_le _⟩ (fun H locs hH => ?_)
    exact hw_iret hx hb hret hf hH hlocks dX12_count_95
  replace hf := (if_neg c6).symm.trans hf
  by_cases c10 : a_1 = 2
  · replace hf := (if_pos c10).symm.trans hf
    refine hl_tabIn (tgt := 96) hx hb dX12_count_1 c10 (by decide) (by decide) rfl (by decide) ?_
    refine hl_aload_n hx hb dX12_count_96 rfl (lv_at hl 0 rfl) ?_
    refine g12_5 hx hb hts hown hKs hH rfl ho m2_224 dX12_count_97 ?_
    obtain ⟨a11, ha11, hf⟩ := bnd hf
    replace ha11 := chk_some ha11
    refine gn10_0 hx hb hts hown hKs hH ha11.1 ha11.2 m2_122 dX12_count_100 ?_
    refine lv_iconst (v := 2) hx hb dX12_count_103 (by decide) ?_
    obtain ⟨a12, ha12, hf⟩ := bnd hf
    replace ha12 := chk_some ha12
    obtain ⟨q13, hq13, hf⟩ := bnd hf
    refine hcV_i hx hb hml hown hts hKs hT hb0 hH (As := [.int 2]) (rest := []) (k_X9_size l E K H.size a12 2 w ha12.2 hq13) (gV m3_229 m3_151 m3_152 m1_2 m3_153) hd_X9_size ⟨Nat.le_of_ble_eq_true rfl, Nat.le_of_ble_eq_true rfl, rfl, rfl⟩ ha12.1 ha12.2 rfl rfl rfl hl.1 rfl rc0 rfl dX12_count_104 ⟨Nat.zero_le _, Nat.zero_le _⟩ (fun H locs hH => ?_)
    exact hw_iret hx hb hret hf hH hlocks dX12_count_107
  replace hf := (if_neg c10).symm.trans hf
  by_cases c14 : a_1 = 3
  · replace hf := (if_pos c14).symm.trans hf
    refine hl_tabIn (tgt := 108) hx hb dX12_count_1 c14 (by decide) (by decide) rfl (by decide) ?_
    refine hl_aload_n hx hb dX12_count_108 rfl (lv_at hl 0 rfl) ?_
    refine g12_5 hx hb hts hown hKs hH rfl ho m2_224 dX12_count_109 ?_
    obtain ⟨a15, ha15, hf⟩ := bnd hf
    replace ha15 := chk_some ha15
    refine gn10_0 hx hb hts hown hKs hH ha15.1 ha15.2 m2_122 dX12_count_112 ?_
    refine lv_iconst (v := 3) hx hb dX12_count_115 (by decide) ?_
    obtain ⟨a16, ha16, hf⟩ := bnd hf
    replace ha16 := chk_some ha16
    obtain ⟨q17, hq17, hf⟩ := bnd hf
    refine hcV_i hx hb hml hown hts hKs hT hb0 hH (As := [.int 3]) (rest := []) (k_X9_size l E K H.size a16 3 w ha16.2 hq17) (gV m3_229 m3_151 m3_152 m1_2 m3_153) hd_X9_size ⟨Nat.le_of_ble_eq_true rfl, Nat.le_of_ble_eq_true rfl, rfl, rfl⟩ ha16.1 ha16.2 rfl rfl rfl hl.1 rfl rc0 rfl dX12_count_116 ⟨Nat.zero_le _, Nat.zero_le _⟩ (fun H locs hH => ?_)
    exact hw_iret hx hb hret hf hH hlocks dX12_count_119
  replace hf := (if_neg c14).symm.trans hf
  by_cases c18 : a_1 = 4
  · replace hf := (if_pos c18).symm.trans hf
    refine hl_tabIn (tgt := 120) hx hb dX12_count_1 c18 (by decide) (by decide) rfl (by decide) ?_
    refine hl_aload_n hx hb dX12_count_120 rfl (lv_at hl 0 rfl) ?_
    refine g12_5 hx hb hts hown hKs hH rfl ho m2_224 dX12_count_121 ?_
    obtain ⟨a19, ha19, hf⟩ := bnd hf
    replace ha19 := chk_some ha19
    refine gn10_2 hx hb hts hown hKs hH ha19.1 ha19.2 m2_127 dX12_count_124 ?_
    obtain ⟨a20, ha20, hf⟩ := bnd hf
    replace ha20 := chk_some ha20
    refine gn2_1 hx hb hts hown hKs hH ha20.1 ha20.2 m1_58 dX12_count_127 ?_
    exact hw_iret hx hb hret hf hH hlocks dX12_count_130
  replace hf := (if_neg c18).symm.trans hf
  by_cases c21 : a_1 = 5
  · replace hf := (if_pos c21).symm.trans hf
    refine hl_tabIn (tgt := 131) hx hb dX12_count_1 c21 (by decide) (by decide) rfl (by decide) ?_
    refine hl_aload_n hx hb dX12_count_131 rfl (lv_at hl 0 rfl) ?_
    refine g12_5 hx hb hts hown hKs hH rfl ho m2_224 dX12_count_132 ?_
    obtain ⟨a22, ha22, hf⟩ := bnd hf
    replace ha22 := chk_some ha22
    obtain ⟨q23, hq23, hf⟩ := bnd hf
    refine hcV_i hx hb hml hown hts hKs hT hb0 hH (As := []) (rest := []) (k_X10_countBars l E K H.size a22 w ha22.2 hq23) (gV m4_2 m4_3 m4_4 m1_12 m4_5) hd_X10_countBars ⟨Nat.le_of_ble_eq_true rfl, Nat.le_of_ble_eq_true rfl, rfl, rfl⟩ ha22.1 ha22.2 rfl rfl rfl hl.1 rfl rc0 rfl dX12_count_135 ⟨Nat.zero_le _, Nat.zero_le _⟩ (fun H locs hH => ?_)
    exact hw_iret hx hb hret hf hH hlocks dX12_count_138
  replace hf := (if_neg c21).symm.trans hf
  by_cases c24 : a_1 = 6
  · replace hf := (if_pos c24).symm.trans hf
    refine hl_tabIn (tgt := 139) hx hb dX12_count_1 c24 (by decide) (by decide) rfl (by decide) ?_
    refine hl_aload_n hx hb dX12_count_139 rfl (lv_at hl 0 rfl) ?_
    refine g12_5 hx hb hts hown hKs hH rfl ho m2_224 dX12_count_140 ?_
    obtain ⟨a25, ha25, hf⟩ := bnd hf
    replace ha25 := chk_some ha25
    refine gn10_0 hx hb hts hown hKs hH ha25.1 ha25.2 m2_122 dX12_count_143 ?_
    obtain ⟨a26, ha26, hf⟩ := bnd hf
    replace ha26 := chk_some ha26
    obtain ⟨q27, hq27, hf⟩ := bnd hf
    refine hcV_i hx hb hml hown hts hKs hT hb0 hH (As := []) (rest := []) (k_X9_countConflicts l E K H.size a26 w ha26.2 hq27) (gV m4_13 m4_14 m4_15 m1_2 m4_16) hd_X9_countConflicts ⟨Nat.le_of_ble_eq_true rfl, Nat.le_of_ble_eq_true rfl, rfl, rfl⟩ ha26.1 ha26.2 rfl rfl rfl hl.1 rfl rc0 rfl dX12_count_146 ⟨Nat.zero_le _, Nat.zero_le _⟩ (fun H locs hH => ?_)
    exact hw_iret hx hb hret hf hH hlocks dX12_count_149
  replace hf := (if_neg c24).symm.trans hf
  by_cases c28 : a_1 = 7
  · replace hf := (if_pos c28).symm.trans hf
    refine hl_tabIn (tgt := 150) hx hb dX12_count_1 c28 (by decide) (by decide) rfl (by decide) ?_
    refine hl_aload_n hx hb dX12_count_150 rfl (lv_at hl 0 rfl) ?_
    refine g12_5 hx hb hts hown hKs hH rfl ho m2_224 dX12_count_151 ?_
    obtain ⟨a29, ha29, hf⟩ := bnd hf
    replace ha29 := chk_some ha29
    refine gn10_1 hx hb hts hown hKs hH ha29.1 ha29.2 m2_125 dX12_count_154 ?_
    exact hw_iret hx hb hret hf hH hlocks dX12_count_157
  replace hf := (if_neg c28).symm.trans hf
  by_cases c30 : a_1 = 8
  · replace hf := (if_pos c30).symm.trans hf
    refine hl_tabIn (tgt := 158) hx hb dX12_count_1 c30 (by decide) (by decide) rfl (by decide) ?_
    refine hl_aload_n hx hb dX12_count_158 rfl (lv_at hl 0 rfl) ?_
    refine g12_5 hx hb hts hown hKs hH rfl ho m2_224 dX12_count_159 ?_
    obtain ⟨a31, ha31, hf⟩ := bnd hf
    replace ha31 := chk_some ha31
    refine gn10_0 hx hb hts hown hKs hH ha31.1 ha31.2 m2_122 dX12_count_162 ?_
    obtain ⟨a32, ha32, hf⟩ := bnd hf
    replace ha32 := chk_some ha32
    refine gn9_13 hx hb hts hown hKs hH ha32.1 ha32.2 m1_191 dX12_count_165 ?_
    exact hw_iret hx hb hret hf hH hlocks dX12_count_168
  replace hf := (if_neg c30).symm.trans hf
  by_cases c33 : a_1 = 9
  · replace hf := (if_pos c33).symm.trans hf
    refine hl_tabIn (tgt := 169) hx hb dX12_count_1 c33 (by decide) (by decide) rfl (by decide) ?_
    refine hl_aload_n hx hb dX12_count_169 rfl (lv_at hl 0 rfl) ?_
    refine g12_10 hx hb hts hown hKs hH rfl ho m2_229 dX12_count_170 ?_
    exact hw_iret hx hb hret hf hH hlocks dX12_count_173
  replace hf := (if_neg c33).symm.trans hf
  by_cases c34 : a_1 = 10
  · replace hf := (if_pos c34).symm.trans hf
    refine hl_tabIn (tgt := 174) hx hb dX12_count_1 c34 (by decide) (by decide) rfl (by decide) ?_
    refine hl_aload_n hx hb dX12_count_174 rfl (lv_at hl 0 rfl) ?_
    refine g12_5 hx hb hts hown hKs hH rfl ho m2_224 dX12_count_175 ?_
    refine lv_iconst (v := 0) hx hb dX12_count_178 (by decide) ?_
    obtain ⟨a35, ha35, hf⟩ := bnd hf
    replace ha35 := chk_some ha35
    obtain ⟨q36, hq36, hf⟩ := bnd hf
    refine hcV_i hx hb hml hown hts hKs hT hb0 hH (As := [.int 0]) (rest := []) (k_X10_countPhase l E K H.size a35 0 w ha35.2 hq36) (gV m4_19 m4_20 m4_21 m1_12 m4_22) hd_X10_countPhase ⟨Nat.le_of_ble_eq_true rfl, Nat.le_of_ble_eq_true rfl, rfl, rfl⟩ ha35.1 ha35.2 rfl rfl rfl hl.1 rfl rc0 rfl dX12_count_179 ⟨Nat.zero_le _, Nat.zero_le _⟩ (fun H locs hH => ?_)
    exact hw_iret hx hb hret hf hH hlocks dX12_count_182
  replace hf := (if_neg c34).symm.trans hf
  by_cases c37 : a_1 = 11
  · replace hf := (if_pos c37).symm.trans hf
    refine hl_tabIn (tgt := 183) hx hb dX12_count_1 c37 (by decide) (by decide) rfl (by decide) ?_
    refine hl_aload_n hx hb dX12_count_183 rfl (lv_at hl 0 rfl) ?_
    refine g12_5 hx hb hts hown hKs hH rfl ho m2_224 dX12_count_184 ?_
    refine lv_iconst (v := 1) hx hb dX12_count_187 (by decide) ?_
    obtain ⟨a38, ha38, hf⟩ := bnd hf
    replace ha38 := chk_some ha38
    obtain ⟨q39, hq39, hf⟩ := bnd hf
    refine hcV_i hx hb hml hown hts hKs hT hb0 hH (As := [.int 1]) (rest := []) (k_X10_countPhase l E K H.size a38 1 w ha38.2 hq39) (gV m4_19 m4_20 m4_21 m1_12 m4_22) hd_X10_countPhase ⟨Nat.le_of_ble_eq_true rfl, Nat.le_of_ble_eq_true rfl, rfl, rfl⟩ ha38.1 ha38.2 rfl rfl rfl hl.1 rfl rc0 rfl dX12_count_188 ⟨Nat.zero_le _, Nat.zero_le _⟩ (fun H locs hH => ?_)
    exact hw_iret hx hb hret hf hH hlocks dX12_count_191
  replace hf := (if_neg c37).symm.trans hf
  by_cases c40 : a_1 = 12
  · replace hf := (if_pos c40).symm.trans hf
    refine hl_tabIn (tgt := 192) hx hb dX12_count_1 c40 (by decide) (by decide) rfl (by decide) ?_
    refine hl_aload_n hx hb dX12_count_192 rfl (lv_at hl 0 rfl) ?_
    refine g12_5 hx hb hts hown hKs hH rfl ho m2_224 dX12_count_193 ?_
    refine lv_iconst (v := 2) hx hb dX12_count_196 (by decide) ?_
    obtain ⟨a41, ha41, hf⟩ := bnd hf
    replace ha41 := chk_some ha41
    obtain ⟨q42, hq42, hf⟩ := bnd hf
    refine hcV_i hx hb hml hown hts hKs hT hb0 hH (As := [.int 2]) (rest := []) (k_X10_countPhase l E K H.size a41 2 w ha41.2 hq42) (gV m4_19 m4_20 m4_21 m1_12 m4_22) hd_X10_countPhase ⟨Nat.le_of_ble_eq_true rfl, Nat.le_of_ble_eq_true rfl, rfl, rfl⟩ ha41.1 ha41.2 rfl rfl rfl hl.1 rfl rc0 rfl dX12_count_197 ⟨Nat.zero_le _, Nat.zero_le _⟩ (fun H locs hH => ?_)
    exact hw_iret hx hb hret hf hH hlocks dX12_count_200
  replace hf := (if_neg c40).symm.trans hf
  by_cases c43 : a_1 = 13
  · replace hf := (if_pos c43).symm.trans hf
    refine hl_tabIn (tgt := 201) hx hb dX12_count_1 c43 (by decide) (by decide) rfl (by decide) ?_
    refine hl_aload_n hx hb dX12_count_201 rfl (lv_at hl 0 rfl) ?_
    refine g12_5 hx hb hts hown hKs hH rfl ho m2_224 dX12_count_202 ?_
    refine lv_iconst (v := 3) hx hb dX12_count_205 (by decide) ?_
    obtain ⟨a44, ha44, hf⟩ := bnd hf
    replace ha44 := chk_some ha44
    obtain ⟨q45, hq45, hf⟩ := bnd hf
    refine hcV_i hx hb hml hown hts hKs hT hb0 hH (As := [.int 3]) (rest := []) (k_X10_countPhase l E K H.size a44 3 w ha44.2 hq45) (gV m4_19 m4_20 m4_21 m1_12 m4_22) hd_X10_countPhase ⟨Nat.le_of_ble_eq_true rfl, Nat.le_of_ble_eq_true rfl, rfl, rfl⟩ ha44.1 ha44.2 rfl rfl rfl hl.1 rfl rc0 rfl dX12_count_206 ⟨Nat.zero_le _, Nat.zero_le _⟩ (fun H locs hH => ?_)
    exact hw_iret hx hb hret hf hH hlocks dX12_count_209
  replace hf := (if_neg c43).symm.trans hf
  cases hf

theorem dX12_find_0 : decode cX12_find 0 = .ok (.iload_n 1, 1) := by decide +kernel
theorem dX12_find_1 : decode cX12_find 1 = .ok (.ifCond .lt 8, 3) := by decide +kernel
theorem dX12_find_4 : decode cX12_find 4 = .ok (.iload_n 1, 1) := by decide +kernel
theorem dX12_find_5 : decode cX12_find 5 = .ok (.iconst 4, 1) := by decide +kernel
theorem dX12_find_6 : decode cX12_find 6 = .ok (.if_icmp .lt 11, 3) := by decide +kernel
theorem dX12_find_9 : decode cX12_find 9 = .ok (.new 133, 3) := by decide +kernel
theorem dX12_find_12 : decode cX12_find 12 = .ok (.dup, 1) := by decide +kernel
theorem dX12_find_13 : decode cX12_find 13 = .ok (.invokespecial 135, 3) := by decide +kernel
theorem dX12_find_16 : decode cX12_find 16 = .ok (.athrow, 1) := by decide +kernel
theorem dX12_find_17 : decode cX12_find 17 = .ok (.aload_n 0, 1) := by decide +kernel
theorem dX12_find_18 : decode cX12_find 18 = .ok (.invokevirtual 136, 3) := by decide +kernel
theorem dX12_find_21 : decode cX12_find 21 = .ok (.lstore_n 2, 1) := by decide +kernel
theorem dX12_find_22 : decode cX12_find 22 = .ok (.aload_n 0, 1) := by decide +kernel
theorem dX12_find_23 : decode cX12_find 23 = .ok (.iconst 0, 1) := by decide +kernel
theorem dX12_find_24 : decode cX12_find 24 = .ok (.putfield 70, 3) := by decide +kernel
theorem dX12_find_27 : decode cX12_find 27 = .ok (.lload_n 2, 1) := by decide +kernel
theorem dX12_find_28 : decode cX12_find 28 = .ok (.lconst 0, 1) := by decide +kernel
theorem dX12_find_29 : decode cX12_find 29 = .ok (.lcmp, 1) := by decide +kernel
theorem dX12_find_30 : decode cX12_find 30 = .ok (.ifCond .ne 7, 3) := by decide +kernel
theorem dX12_find_33 : decode cX12_find 33 = .ok (.iconst (-1), 1) := by decide +kernel
theorem dX12_find_34 : decode cX12_find 34 = .ok (.goto 19, 3) := by decide +kernel
theorem dX12_find_37 : decode cX12_find 37 = .ok (.aload_n 0, 1) := by decide +kernel
theorem dX12_find_38 : decode cX12_find 38 = .ok (.getfield 35, 3) := by decide +kernel
theorem dX12_find_41 : decode cX12_find 41 = .ok (.getfield 87, 3) := by decide +kernel
theorem dX12_find_44 : decode cX12_find 44 = .ok (.getfield 140, 3) := by decide +kernel
theorem dX12_find_47 : decode cX12_find 47 = .ok (.iload_n 1, 1) := by decide +kernel
theorem dX12_find_48 : decode cX12_find 48 = .ok (.aaload, 1) := by decide +kernel
theorem dX12_find_49 : decode cX12_find 49 = .ok (.lload_n 2, 1) := by decide +kernel
theorem dX12_find_50 : decode cX12_find 50 = .ok (.invokevirtual 144, 3) := by decide +kernel
theorem dX12_find_53 : decode cX12_find 53 = .ok (.ireturn, 1) := by decide +kernel
theorem hd_X12_find : yX12_find.cls = RX12 ∧ yX12_find.cls ≠ "java/lang/invoke/MethodHandle" ∧ yX12_find.cls ≠ "java/lang/invoke/VarHandle" ∧ (parseMethodDescriptor yX12_find.desc).map (fun d => d.parameters.length) = some 1 := by decide +kernel
theorem hs_X12_find : yX12_find.cls ≠ "java/lang/invoke/MethodHandle" ∧ yX12_find.cls ≠ "java/lang/invoke/VarHandle" ∧ (parseMethodDescriptor yX12_find.desc).map (fun d => d.parameters.length) = some 1 := by decide +kernel
set_option maxHeartbeats 4000000 in
set_option maxRecDepth 100000 in
theorem k_X12_find (l : Launch) (hls : l.stackTraces = false) (E : Ev) (K : Kd) (z : Nat) (o : Nat) (a_1 : Int32) (w : Wd) (ho : K o = some (10, 0)) {r : Int32 ⊕ Nat} {w' : Wd} (hf : f_X12_find K o a_1 w = some (r, w')) : vx_Met l yX12_find (Cond.code yX12_find cX12_find 4 (Option.some Jvm.ClassFile.FieldType.int) :: bt) ({ frames := 6, cells := 1, slots := 6, locals := 90 } : Room) (va_Pc [rv E (some o), .int a_1] (HB E K w z)) (XI E K z w' r) (XX E K w' r) 1 6 (hA E) := by
  refine vx_ofW (cc := cX12_find) (maxL := 4) (ret := (Option.some Jvm.ClassFile.FieldType.int)) (by decide) rfl ?_
  intro p e s m args below meth c s₁ B hml hout hv
  obtain ⟨rfl, hz, hP, hKs, hT, hb0⟩ := hv
  have C : CX p l e s m _ meth c cX12_find 4 RX12 (Option.some Jvm.ClassFile.FieldType.int) E := ⟨B.exec, B.bytes, hml, findClass_of_methodNamed B.named, fun w h => atoms_spec (ws := Cond.code yX12_find cX12_find 4 (Option.some Jvm.ClassFile.FieldType.int) :: bt) B.pre w (List.mem_cons_of_mem _ h), hKs, hT, by rw [hz]; exact hb0, B.notSynchronized, B.returns⟩
  have hH : HQ E K z w s s.heap [] := ⟨hP, va_S.rf, hz⟩
  obtain ⟨hx, hb, hml, hown, hts, hKs, hT, hb0, hlocks, hret⟩ := id C
  have hl := lv_entry [rv E (some o), .int a_1] (n := 4) (by simp [lg_len_nil, lg_len_i, lg_len_j, lg_len_q, lg_len_f, lg_len_d, lg_len_r])
  rw [lg_entry_eq]
  generalize (lg_sl [rv E (some o), .int a_1] ++ List.replicate (4 - (lg_sl [rv E (some o), .int a_1]).length) Slot.unset).toArray = ls at hl ⊢
  replace hl : lv_has ls 4 [(0, rv E (some o)), (1, .int a_1)] := by simpa only [lv_args, cat_q, cat_i, cat_j, reduceIte, Nat.reduceEqDiff, Nat.reduceAdd, Nat.zero_add] using hl
  generalize s.heap = H at hH ⊢
  unfold f_X12_find at hf
  refine lv_iload_n hx hb dX12_find_0 rfl (lv_at hl 1 rfl) ?_
  refine lv_if_lt (tgt := 9) hx hb dX12_find_1 (by decide) (fun c1 => ?_) (fun c1 => ?_)
  · replace hf := (if_pos c1).symm.trans hf
    exact hx_throw hx hb hls (code := 2) hml hl.1 hown hts hKs hT hb0 hH (by decide) rfl m4_218 m1_27 hat_RX12_135 dX12_find_9 dX12_find_12 dX12_find_13 dX12_find_16 hout (Nat.le_of_ble_eq_true rfl) rc0 (Nat.le_of_ble_eq_true rfl) (Nat.le_of_ble_eq_true rfl) (Nat.le_of_ble_eq_true rfl) hlocks hf (Nat.le_of_ble_eq_true rfl) (Nat.le_of_ble_eq_true rfl)
  · replace hf := (if_neg c1).symm.trans hf
    refine lv_iload_n hx hb dX12_find_4 rfl (lv_at hl 1 rfl) ?_
    refine lv_iconst (v := 4) hx hb dX12_find_5 (by decide) ?_
    refine lv_icmp_lt (tgt := 17) hx hb dX12_find_6 (by decide) (fun c2 => ?_) (fun c2 => ?_)
    · replace hf := (if_pos c2).symm.trans hf
      refine hl_aload_n hx hb dX12_find_17 rfl (lv_at hl 0 rfl) ?_
      obtain ⟨q3, hq3, hf⟩ := bnd hf
      refine hcV_l hx hb hml hown hts hKs hT hb0 hH (As := []) (rest := []) (k_X12_bufferedName l E K H.size o w ho hq3) (gV m5_42 m5_44 ms_33 m1_1 m5_45) hd_X12_bufferedName ⟨Nat.le_of_ble_eq_true rfl, Nat.le_of_ble_eq_true rfl, rfl, rfl⟩ rfl ho rfl rfl rfl hl.1 rfl rc0 rfl dX12_find_18 ⟨Nat.le_of_ble_eq_true rfl, Nat.le_of_ble_eq_true rfl⟩ (fun H locs hH => ?_)
      refine lv_lstore_n (lv' := [(2, .long q3.1), (0, rv E (some o)), (1, .int a_1)]) hx hb dX12_find_21 rfl hl (by decide) rfl (fun ls hl => ?_)
      refine hl_aload_n hx hb dX12_find_22 rfl (lv_at hl 1 rfl) ?_
      refine lv_iconst (v := 0) hx hb dX12_find_23 (by decide) ?_
      obtain ⟨w4, hw4, hf⟩ := bnd hf
      replace hw4 := Option.some.inj hw4
      refine p12_1 (v := 0) hx hb hts hown hKs hH rfl ho m2_220 dX12_find_24 (fun H locs hH => ?_)
      rw [hw4] at hH
      refine lv_lload_n hx hb dX12_find_27 rfl (lv_at hl 0 rfl) ?_
      refine lv_lconst (v := 0) hx hb dX12_find_28 rfl ?_
      refine W.lcmp hx hb dX12_find_29 ?_
      refine lv_if_ne (tgt := 37) hx hb dX12_find_30 (by decide) (fun c5 => ?_) (fun c5 => ?_)
      · replace hf := (if_neg c5).symm.trans hf
        refine hl_aload_n hx hb dX12_find_37 rfl (lv_at hl 1 rfl) ?_
        refine g12_5 hx hb hts hown hKs hH rfl ho m2_224 dX12_find_38 ?_
        obtain ⟨a6, ha6, hf⟩ := bnd hf
        replace ha6 := chk_some ha6
        refine gn10_0 hx hb hts hown hKs hH ha6.1 ha6.2 m2_122 dX12_find_41 ?_
        obtain ⟨a7, ha7, hf⟩ := bnd hf
        replace ha7 := chk_some ha7
        refine gn9_0 hx hb hts hown hKs hH ha7.1 ha7.2 m1_151 dX12_find_44 ?_
        refine lv_iload_n hx hb dX12_find_47 rfl (lv_at hl 2 rfl) ?_
        obtain ⟨a8, ha8, hf⟩ := bnd hf
        replace ha8 := cha_some ha8
        obtain ⟨j9, hj9, hf⟩ := bnd hf
        refine hw_aald26 hx hb hKs hH ha8.1 ha8.2 hj9 dX12_find_48 ?_
        refine lv_lload_n hx hb dX12_find_49 rfl (lv_at hl 0 rfl) ?_
        obtain ⟨a10, ha10, hf⟩ := bnd hf
        replace ha10 := chk_some ha10
        obtain ⟨q11, hq11, hf⟩ := bnd hf
        refine hcV_i hx hb hml hown hts hKs hT hb0 hH (As := [.long q3.1]) (rest := []) (k_X4_indexOf l E K H.size a10 q3.1 w4 ha10.2 hq11) (gV m5_47 m3_129 m3_130 m1_4 m3_131) hd_X4_indexOf ⟨Nat.le_of_ble_eq_true rfl, Nat.le_of_ble_eq_true rfl, rfl, rfl⟩ ha10.1 ha10.2 rfl rfl rfl hl.1 rfl rc0 rfl dX12_find_50 ⟨Nat.le_of_ble_eq_true rfl, Nat.le_of_ble_eq_true rfl⟩ (fun H locs hH => ?_)
        exact hx_iret hx hb (Nat.le_of_ble_eq_true rfl) (Nat.le_of_ble_eq_true rfl) hret hf hH hlocks dX12_find_53
      · replace hf := (if_pos c5).symm.trans hf
        refine lv_iconst (v := (-1)) hx hb dX12_find_33 (by decide) ?_
        refine lv_goto (tgt := 53) hx hb dX12_find_34 (by decide) ?_
        exact hx_iret hx hb (Nat.le_of_ble_eq_true rfl) (Nat.le_of_ble_eq_true rfl) hret hf hH hlocks dX12_find_53
    · replace hf := (if_neg c2).symm.trans hf
      exact hx_throw hx hb hls (code := 2) hml hl.1 hown hts hKs hT hb0 hH (by decide) rfl m4_218 m1_27 hat_RX12_135 dX12_find_9 dX12_find_12 dX12_find_13 dX12_find_16 hout (Nat.le_of_ble_eq_true rfl) rc0 (Nat.le_of_ble_eq_true rfl) (Nat.le_of_ble_eq_true rfl) (Nat.le_of_ble_eq_true rfl) hlocks hf (Nat.le_of_ble_eq_true rfl) (Nat.le_of_ble_eq_true rfl)

theorem dX12_witness_0 : decode cX12_witness 0 = .ok (.aload_n 0, 1) := by decide +kernel
theorem dX12_witness_1 : decode cX12_witness 1 = .ok (.iconst 2, 1) := by decide +kernel
theorem dX12_witness_2 : decode cX12_witness 2 = .ok (.iload_n 1, 1) := by decide +kernel
theorem dX12_witness_3 : decode cX12_witness 3 = .ok (.invokevirtual 175, 3) := by decide +kernel
theorem dX12_witness_6 : decode cX12_witness 6 = .ok (.iload_n 2, 1) := by decide +kernel
theorem dX12_witness_7 : decode cX12_witness 7 = .ok (.tableswitch 91 0 4 #[33, 46, 56, 69, 82], 33) := by decide +kernel
theorem dX12_witness_40 : decode cX12_witness 40 = .ok (.aload_n 0, 1) := by decide +kernel
theorem dX12_witness_41 : decode cX12_witness 41 = .ok (.getfield 35, 3) := by decide +kernel
theorem dX12_witness_44 : decode cX12_witness 44 = .ok (.getfield 87, 3) := by decide +kernel
theorem dX12_witness_47 : decode cX12_witness 47 = .ok (.getfield 178, 3) := by decide +kernel
theorem dX12_witness_50 : decode cX12_witness 50 = .ok (.iload_n 1, 1) := by decide +kernel
theorem dX12_witness_51 : decode cX12_witness 51 = .ok (.iaload, 1) := by decide +kernel
theorem dX12_witness_52 : decode cX12_witness 52 = .ok (.ireturn, 1) := by decide +kernel
theorem dX12_witness_53 : decode cX12_witness 53 = .ok (.aload_n 0, 1) := by decide +kernel
theorem dX12_witness_54 : decode cX12_witness 54 = .ok (.getfield 35, 3) := by decide +kernel
theorem dX12_witness_57 : decode cX12_witness 57 = .ok (.getfield 181, 3) := by decide +kernel
theorem dX12_witness_60 : decode cX12_witness 60 = .ok (.iload_n 1, 1) := by decide +kernel
theorem dX12_witness_61 : decode cX12_witness 61 = .ok (.iaload, 1) := by decide +kernel
theorem dX12_witness_62 : decode cX12_witness 62 = .ok (.ireturn, 1) := by decide +kernel
theorem dX12_witness_63 : decode cX12_witness 63 = .ok (.aload_n 0, 1) := by decide +kernel
theorem dX12_witness_64 : decode cX12_witness 64 = .ok (.getfield 35, 3) := by decide +kernel
theorem dX12_witness_67 : decode cX12_witness 67 = .ok (.getfield 87, 3) := by decide +kernel
theorem dX12_witness_70 : decode cX12_witness 70 = .ok (.getfield 184, 3) := by decide +kernel
theorem dX12_witness_73 : decode cX12_witness 73 = .ok (.iload_n 1, 1) := by decide +kernel
theorem dX12_witness_74 : decode cX12_witness 74 = .ok (.iaload, 1) := by decide +kernel
theorem dX12_witness_75 : decode cX12_witness 75 = .ok (.ireturn, 1) := by decide +kernel
theorem dX12_witness_76 : decode cX12_witness 76 = .ok (.aload_n 0, 1) := by decide +kernel
theorem dX12_witness_77 : decode cX12_witness 77 = .ok (.getfield 35, 3) := by decide +kernel
theorem dX12_witness_80 : decode cX12_witness 80 = .ok (.getfield 87, 3) := by decide +kernel
theorem dX12_witness_83 : decode cX12_witness 83 = .ok (.getfield 187, 3) := by decide +kernel
theorem dX12_witness_86 : decode cX12_witness 86 = .ok (.iload_n 1, 1) := by decide +kernel
theorem dX12_witness_87 : decode cX12_witness 87 = .ok (.iaload, 1) := by decide +kernel
theorem dX12_witness_88 : decode cX12_witness 88 = .ok (.ireturn, 1) := by decide +kernel
theorem dX12_witness_89 : decode cX12_witness 89 = .ok (.aload_n 0, 1) := by decide +kernel
theorem dX12_witness_90 : decode cX12_witness 90 = .ok (.getfield 35, 3) := by decide +kernel
theorem dX12_witness_93 : decode cX12_witness 93 = .ok (.iload_n 1, 1) := by decide +kernel
theorem dX12_witness_94 : decode cX12_witness 94 = .ok (.invokevirtual 190, 3) := by decide +kernel
theorem dX12_witness_97 : decode cX12_witness 97 = .ok (.ireturn, 1) := by decide +kernel
theorem dX12_witness_98 : decode cX12_witness 98 = .ok (.new 193, 3) := by decide +kernel
theorem dX12_witness_101 : decode cX12_witness 101 = .ok (.dup, 1) := by decide +kernel
theorem dX12_witness_102 : decode cX12_witness 102 = .ok (.invokespecial 195, 3) := by decide +kernel
theorem dX12_witness_105 : decode cX12_witness 105 = .ok (.athrow, 1) := by decide +kernel
theorem hd_X12_witness : yX12_witness.cls = RX12 ∧ yX12_witness.cls ≠ "java/lang/invoke/MethodHandle" ∧ yX12_witness.cls ≠ "java/lang/invoke/VarHandle" ∧ (parseMethodDescriptor yX12_witness.desc).map (fun d => d.parameters.length) = some 2 := by decide +kernel
theorem hs_X12_witness : yX12_witness.cls ≠ "java/lang/invoke/MethodHandle" ∧ yX12_witness.cls ≠ "java/lang/invoke/VarHandle" ∧ (parseMethodDescriptor yX12_witness.desc).map (fun d => d.parameters.length) = some 2 := by decide +kernel
set_option maxHeartbeats 4000000 in
set_option maxRecDepth 100000 in
theorem k_X12_witness (l : Launch) (hls : l.stackTraces = false) (E : Ev) (K : Kd) (z : Nat) (o : Nat) (a_1 : Int32) (a_2 : Int32) (w : Wd) (ho : K o = some (10, 0)) {r : Int32 ⊕ Nat} {w' : Wd} (hf : f_X12_witness K o a_1 a_2 w = some (r, w')) : vx_Met l yX12_witness (Cond.code yX12_witness cX12_witness 3 (Option.some Jvm.ClassFile.FieldType.int) :: bt) ({ frames := 7, cells := 2, slots := 12, locals := 112 } : Room) (va_Pc [rv E (some o), .int a_1, .int a_2] (HB E K w z)) (XI E K z w' r) (XX E K w' r) 2 12 (hA E) := by
  refine vx_ofW (cc := cX12_witness) (maxL := 3) (ret := (Option.some Jvm.ClassFile.FieldType.int)) (by decide) rfl ?_
  intro p e s m args below meth c s₁ B hml hout hv
  obtain ⟨rfl, hz, hP, hKs, hT, hb0⟩ := hv
  have C : CX p l e s m _ meth c cX12_witness 3 RX12 (Option.some Jvm.ClassFile.FieldType.int) E := ⟨B.exec, B.bytes, hml, findClass_of_methodNamed B.named, fun w h => atoms_spec (ws := Cond.code yX12_witness cX12_witness 3 (Option.some Jvm.ClassFile.FieldType.int) :: bt) B.pre w (List.mem_cons_of_mem _ h), hKs, hT, by rw [hz]; exact hb0, B.notSynchronized, B.returns⟩
  have hH : HQ E K z w s s.heap [] := ⟨hP, va_S.rf, hz⟩
  obtain ⟨hx, hb, hml, hown, hts, hKs, hT, hb0, hlocks, hret⟩ := id C
  have hl := lv_entry [rv E (some o), .int a_1, .int a_2] (n := 3) (by simp [lg_len_nil, lg_len_i, lg_len_j, lg_len_q, lg_len_f, lg_len_d, lg_len_r])
  rw [lg_entry_eq]
  generalize (lg_sl [rv E (some o), .int a_1, .int a_2] ++ List.replicate (3 - (lg_sl [rv E (some o), .int a_1, .int a_2]).length) Slot.unset).toArray = ls at hl ⊢
  replace hl : lv_has ls 3 [(0, rv E (some o)), (1, .int a_1), (2, .int a_2)] := by simpa only [lv_args, cat_q, cat_i, cat_j, reduceIte, Nat.reduceEqDiff, Nat.reduceAdd, Nat.zero_add] using hl
  generalize s.heap = H at hH ⊢
  unfold f_X12_witness at hf
  refine hl_aload_n hx hb dX12_witness_0 rfl (lv_at hl 0 rfl) ?_
  refine lv_iconst (v := 2) hx hb dX12_witness_1 (by decide) ?_
  refine lv_iload_n hx hb dX12_witness_2 rfl (lv_at hl 1 rfl) ?_
  obtain ⟨q1, hq1, hf⟩ := bnd hf
  refine hxV_v hx hb hml hown hts hKs hT hb0 hH (As := [.int 2, .int a_1]) (rest := []) (k_X12_requireExisting l hls E K H.size o 2 a_1 w ho hq1) (gV m5_91 m5_93 ms_37 m1_1 m5_94) hd_X12_requireExisting ⟨Nat.le_of_ble_eq_true rfl, Nat.le_of_ble_eq_true rfl, rfl, rfl⟩ rfl ho rfl rfl rfl hl.1 rfl rc0 rfl dX12_witness_3 ⟨Nat.le_of_ble_eq_true rfl, Nat.le_of_ble_eq_true rfl⟩ ⟨Nat.le_of_ble_eq_true rfl, Nat.le_of_ble_eq_true rfl⟩ hout hlocks (fun x hx9 => (fun h9 => ⟨(congrArg Prod.fst h9).symm, (congrArg Prod.snd h9).symm⟩) (Option.some.inj ((xk_inr hx9).symm.trans hf))) (fun v2 hv2 H locs hH => ?_)
  replace hf := (xk_inl hv2).symm.trans hf
  refine lv_iload_n hx hb dX12_witness_6 rfl (lv_at hl 2 rfl) ?_
  by_cases c3 : (a_2 < 0 ∨ 4 < a_2)
  · replace hf := (if_pos c3).symm.trans hf
    refine hl_tabOut (tgt := 98) hx hb dX12_witness_7 c3 (by decide) (by decide) (by decide) ?_
    exact hx_throw hx hb hls (code := 1) hml hl.1 hown hts hKs hT hb0 hH (by decide) rfl m5_95 m1_28 hat_RX12_195 dX12_witness_98 dX12_witness_101 dX12_witness_102 dX12_witness_105 hout (Nat.le_of_ble_eq_true rfl) rc0 (Nat.le_of_ble_eq_true rfl) (Nat.le_of_ble_eq_true rfl) (Nat.le_of_ble_eq_true rfl) hlocks hf (Nat.le_of_ble_eq_true rfl) (Nat.le_of_ble_eq_true rfl)
  replace hf := (if_neg c3).symm.trans hf
  by_cases c4 : a_2 = 0
  · replace hf := (if_pos c4).symm.trans hf
    refine hl_tabIn (tgt := 40) hx hb dX12_witness_7 c4 (by decide) (by decide) rfl (by decide) ?_
    refine hl_aload_n hx hb dX12_witness_40 rfl (lv_at hl 0 rfl) ?_
    refine g12_5 hx hb hts hown hKs hH rfl ho m2_224 dX12_witness_41 ?_
    obtain ⟨a5, ha5, hf⟩ := bnd hf
    replace ha5 := chk_some ha5
    refine gn10_0 hx hb hts hown hKs hH ha5.1 ha5.2 m2_122 dX12_witness_44 ?_
    obtain ⟨a6, ha6, hf⟩ := bnd hf
    replace ha6 := chk_some ha6
    refine gn9_5 hx hb hts hown hKs hH ha6.1 ha6.2 m1_162 dX12_witness_47 ?_
    refine lv_iload_n hx hb dX12_witness_50 rfl (lv_at hl 1 rfl) ?_
    obtain ⟨a7, ha7, hf⟩ := bnd hf
    replace ha7 := cha_some ha7
    obtain ⟨j8, hj8, hf⟩ := bnd hf
    refine hw_iald hx hb hKs hH ha7.1 ha7.2 hj8 dX12_witness_51 ?_
    exact hx_iret hx hb (Nat.le_of_ble_eq_true rfl) (Nat.le_of_ble_eq_true rfl) hret hf hH hlocks dX12_witness_52
  replace hf := (if_neg c4).symm.trans hf
  by_cases c9 : a_2 = 1
  · replace hf := (if_pos c9).symm.trans hf
    refine hl_tabIn (tgt := 53) hx hb dX12_witness_7 c9 (by decide) (by decide) rfl (by decide) ?_
    refine hl_aload_n hx hb dX12_witness_53 rfl (lv_at hl 0 rfl) ?_
    refine g12_5 hx hb hts hown hKs hH rfl ho m2_224 dX12_witness_54 ?_
    obtain ⟨a10, ha10, hf⟩ := bnd hf
    replace ha10 := chk_some ha10
    refine gn10_3 hx hb hts hown hKs hH ha10.1 ha10.2 m2_129 dX12_witness_57 ?_
    refine lv_iload_n hx hb dX12_witness_60 rfl (lv_at hl 1 rfl) ?_
    obtain ⟨a11, ha11, hf⟩ := bnd hf
    replace ha11 := cha_some ha11
    obtain ⟨j12, hj12, hf⟩ := bnd hf
    refine hw_iald hx hb hKs hH ha11.1 ha11.2 hj12 dX12_witness_61 ?_
    exact hx_iret hx hb (Nat.le_of_ble_eq_true rfl) (Nat.le_of_ble_eq_true rfl) hret hf hH hlocks dX12_witness_62
  replace hf := (if_neg c9).symm.trans hf
  by_cases c13 : a_2 = 2
  · replace hf := (if_pos c13).symm.trans hf
    refine hl_tabIn (tgt := 63) hx hb dX12_witness_7 c13 (by decide) (by decide) rfl (by decide) ?_
    refine hl_aload_n hx hb dX12_witness_63 rfl (lv_at hl 0 rfl) ?_
    refine g12_5 hx hb hts hown hKs hH rfl ho m2_224 dX12_witness_64 ?_
    obtain ⟨a14, ha14, hf⟩ := bnd hf
    replace ha14 := chk_some ha14
    refine gn10_0 hx hb hts hown hKs hH ha14.1 ha14.2 m2_122 dX12_witness_67 ?_
    obtain ⟨a15, ha15, hf⟩ := bnd hf
    replace ha15 := chk_some ha15
    refine gn9_7 hx hb hts hown hKs hH ha15.1 ha15.2 m1_169 dX12_witness_70 ?_
    refine lv_iload_n hx hb dX12_witness_73 rfl (lv_at hl 1 rfl) ?_
    obtain ⟨a16, ha16, hf⟩ := bnd hf
    replace ha16 := cha_some ha16
    obtain ⟨j17, hj17, hf⟩ := bnd hf
    refine hw_iald hx hb hKs hH ha16.1 ha16.2 hj17 dX12_witness_74 ?_
    exact hx_iret hx hb (Nat.le_of_ble_eq_true rfl) (Nat.le_of_ble_eq_true rfl) hret hf hH hlocks dX12_witness_75
  replace hf := (if_neg c13).symm.trans hf
  by_cases c18 : a_2 = 3
  · replace hf := (if_pos c18).symm.trans hf
    refine hl_tabIn (tgt := 76) hx hb dX12_witness_7 c18 (by decide) (by decide) rfl (by decide) ?_
    refine hl_aload_n hx hb dX12_witness_76 rfl (lv_at hl 0 rfl) ?_
    refine g12_5 hx hb hts hown hKs hH rfl ho m2_224 dX12_witness_77 ?_
    obtain ⟨a19, ha19, hf⟩ := bnd hf
    replace ha19 := chk_some ha19
    refine gn10_0 hx hb hts hown hKs hH ha19.1 ha19.2 m2_122 dX12_witness_80 ?_
    obtain ⟨a20, ha20, hf⟩ := bnd hf
    replace ha20 := chk_some ha20
    refine gn9_8 hx hb hts hown hKs hH ha20.1 ha20.2 m1_173 dX12_witness_83 ?_
    refine lv_iload_n hx hb dX12_witness_86 rfl (lv_at hl 1 rfl) ?_
    obtain ⟨a21, ha21, hf⟩ := bnd hf
    replace ha21 := cha_some ha21
    obtain ⟨j22, hj22, hf⟩ := bnd hf
    refine hw_iald hx hb hKs hH ha21.1 ha21.2 hj22 dX12_witness_87 ?_
    exact hx_iret hx hb (Nat.le_of_ble_eq_true rfl) (Nat.le_of_ble_eq_true rfl) hret hf hH hlocks dX12_witness_88
  replace hf := (if_neg c18).symm.trans hf
  by_cases c23 : a_2 = 4
  · replace hf := (if_pos c23).symm.trans hf
    refine hl_tabIn (tgt := 89) hx hb dX12_witness_7 c23 (by decide) (by decide) rfl (by decide) ?_
    refine hl_aload_n hx hb dX12_witness_89 rfl (lv_at hl 0 rfl) ?_
    refine g12_5 hx hb hts hown hKs hH rfl ho m2_224 dX12_witness_90 ?_
    refine lv_iload_n hx hb dX12_witness_93 rfl (lv_at hl 1 rfl) ?_
    obtain ⟨a24, ha24, hf⟩ := bnd hf
    replace ha24 := chk_some ha24
    obtain ⟨q25, hq25, hf⟩ := bnd hf
    refine hcV_i hx hb hml hown hts hKs hT hb0 hH (As := [.int a_1]) (rest := []) (k_X10_countNeeding l E K H.size a24 a_1 q1.2 ha24.2 hq25) (gV m5_110 m5_111 m5_112 m1_12 m5_113) hd_X10_countNeeding ⟨Nat.le_of_ble_eq_true rfl, Nat.le_of_ble_eq_true rfl, rfl, rfl⟩ ha24.1 ha24.2 rfl rfl rfl hl.1 rfl rc0 rfl dX12_witness_94 ⟨Nat.le_of_ble_eq_true rfl, Nat.le_of_ble_eq_true rfl⟩ (fun H locs hH => ?_)
    exact hx_iret hx hb (Nat.le_of_ble_eq_true rfl) (Nat.le_of_ble_eq_true rfl) hret hf hH hlocks dX12_witness_97
  replace hf := (if_neg c23).symm.trans hf
  cases hf

theorem dX12_isOff_0 : decode cX12_isOff 0 = .ok (.aload_n 0, 1) := by decide +kernel
theorem dX12_isOff_1 : decode cX12_isOff 1 = .ok (.iconst 1, 1) := by decide +kernel
theorem dX12_isOff_2 : decode cX12_isOff 2 = .ok (.iload_n 1, 1) := by decide +kernel
theorem dX12_isOff_3 : decode cX12_isOff 3 = .ok (.invokevirtual 175, 3) := by decide +kernel
theorem dX12_isOff_6 : decode cX12_isOff 6 = .ok (.aload_n 0, 1) := by decide +kernel
theorem dX12_isOff_7 : decode cX12_isOff 7 = .ok (.iload_n 2, 1) := by decide +kernel
theorem dX12_isOff_8 : decode cX12_isOff 8 = .ok (.invokevirtual 154, 3) := by decide +kernel
theorem dX12_isOff_11 : decode cX12_isOff 11 = .ok (.aload_n 0, 1) := by decide +kernel
theorem dX12_isOff_12 : decode cX12_isOff 12 = .ok (.getfield 35, 3) := by decide +kernel
theorem dX12_isOff_15 : decode cX12_isOff 15 = .ok (.getfield 87, 3) := by decide +kernel
theorem dX12_isOff_18 : decode cX12_isOff 18 = .ok (.iload_n 1, 1) := by decide +kernel
theorem dX12_isOff_19 : decode cX12_isOff 19 = .ok (.iload_n 2, 1) := by decide +kernel
theorem dX12_isOff_20 : decode cX12_isOff 20 = .ok (.invokevirtual 196, 3) := by decide +kernel
theorem dX12_isOff_23 : decode cX12_isOff 23 = .ok (.ireturn, 1) := by decide +kernel
theorem hd_X12_isOff : yX12_isOff.cls = RX12 ∧ yX12_isOff.cls ≠ "java/lang/invoke/MethodHandle" ∧ yX12_isOff.cls ≠ "java/lang/invoke/VarHandle" ∧ (parseMethodDescriptor yX12_isOff.desc).map (fun d => d.parameters.length) = some 2 := by decide +kernel
theorem hs_X12_isOff : yX12_isOff.cls ≠ "java/lang/invoke/MethodHandle" ∧ yX12_isOff.cls ≠ "java/lang/invoke/VarHandle" ∧ (parseMethodDescriptor yX12_isOff.desc).map (fun d => d.parameters.length) = some 2 := by decide +kernel
set_option maxHeartbeats 4000000 in
set_option maxRecDepth 100000 in
theorem k_X12_isOff (l : Launch) (hls : l.stackTraces = false) (E : Ev) (K : Kd) (z : Nat) (o : Nat) (a_1 : Int32) (a_2 : Int32) (w : Wd) (ho : K o = some (10, 0)) {r : Bool ⊕ Nat} {w' : Wd} (hf : f_X12_isOff K o a_1 a_2 w = some (r, w')) : vx_Met l yX12_isOff (Cond.code yX12_isOff cX12_isOff 3 (Option.some Jvm.ClassFile.FieldType.boolean) :: bt) ({ frames := 7, cells := 2, slots := 12, locals := 112 } : Room) (va_Pc [rv E (some o), .int a_1, .int a_2] (HB E K w z)) (XZ E K z w' r) (XX E K w' r) 2 12 (hA E) := by
  refine vx_ofW (cc := cX12_isOff) (maxL := 3) (ret := (Option.some Jvm.ClassFile.FieldType.boolean)) (by decide) rfl ?_
  intro p e s m args below meth c s₁ B hml hout hv
  obtain ⟨rfl, hz, hP, hKs, hT, hb0⟩ := hv
  have C : CX p l e s m _ meth c cX12_isOff 3 RX12 (Option.some Jvm.ClassFile.FieldType.boolean) E := ⟨B.exec, B.bytes, hml, findClass_of_methodNamed B.named, fun w h => atoms_spec (ws := Cond.code yX12_isOff cX12_isOff 3 (Option.some Jvm.ClassFile.FieldType.boolean) :: bt) B.pre w (List.mem_cons_of_mem _ h), hKs, hT, by rw [hz]; exact hb0, B.notSynchronized, B.returns⟩
  have hH : HQ E K z w s s.heap [] := ⟨hP, va_S.rf, hz⟩
  obtain ⟨hx, hb, hml, hown, hts, hKs, hT, hb0, hlocks, hret⟩ := id C
  have hl := lv_entry [rv E (some o), .int a_1, .int a_2] (n := 3) (by simp [lg_len_nil, lg_len_i, lg_len_j, lg_len_q, lg_len_f, lg_len_d, lg_len_r])
  rw [lg_entry_eq]
  generalize (lg_sl [rv E (some o), .int a_1, .int a_2] ++ List.replicate (3 - (lg_sl [rv E (some o), .int a_1, .int a_2]).length) Slot.unset).toArray = ls at hl ⊢
  replace hl : lv_has ls 3 [(0, rv E (some o)), (1, .int a_1), (2, .int a_2)] := by simpa only [lv_args, cat_q, cat_i, cat_j, reduceIte, Nat.reduceEqDiff, Nat.reduceAdd, Nat.zero_add] using hl
  generalize s.heap = H at hH ⊢
  unfold f_X12_isOff at hf
  refine hl_aload_n hx hb dX12_isOff_0 rfl (lv_at hl 0 rfl) ?_
  refine lv_iconst (v := 1) hx hb dX12_isOff_1 (by decide) ?_
  refine lv_iload_n hx hb dX12_isOff_2 rfl (lv_at hl 1 rfl) ?_
  obtain ⟨q1, hq1, hf⟩ := bnd hf
  refine hxV_v hx hb hml hown hts hKs hT hb0 hH (As := [.int 1, .int a_1]) (rest := []) (k_X12_requireExisting l hls E K H.size o 1 a_1 w ho hq1) (gV m5_91 m5_93 ms_37 m1_1 m5_94) hd_X12_requireExisting ⟨Nat.le_of_ble_eq_true rfl, Nat.le_of_ble_eq_true rfl, rfl, rfl⟩ rfl ho rfl rfl rfl hl.1 rfl rc0 rfl dX12_isOff_3 ⟨Nat.le_of_ble_eq_true rfl, Nat.le_of_ble_eq_true rfl⟩ ⟨Nat.le_of_ble_eq_true rfl, Nat.le_of_ble_eq_true rfl⟩ hout hlocks (fun x hx9 => (fun h9 => ⟨(congrArg Prod.fst h9).symm, (congrArg Prod.snd h9).symm⟩) (Option.some.inj ((xk_inr hx9).symm.trans hf))) (fun v2 hv2 H locs hH => ?_)
  replace hf := (xk_inl hv2).symm.trans hf
  refine hl_aload_n hx hb dX12_isOff_6 rfl (lv_at hl 0 rfl) ?_
  refine lv_iload_n hx hb dX12_isOff_7 rfl (lv_at hl 2 rfl) ?_
  obtain ⟨q3, hq3, hf⟩ := bnd hf
  refine hxV_v hx hb hml hown hts hKs hT hb0 hH (As := [.int a_2]) (rest := []) (k_X12_requireDay l hls E K H.size o a_2 q1.2 ho hq3) (gV m5_55 m5_57 ms_34 m1_1 m5_58) hd_X12_requireDay ⟨Nat.le_of_ble_eq_true rfl, Nat.le_of_ble_eq_true rfl, rfl, rfl⟩ rfl ho rfl rfl rfl hl.1 rfl rc0 rfl dX12_isOff_8 ⟨Nat.le_of_ble_eq_true rfl, Nat.le_of_ble_eq_true rfl⟩ ⟨Nat.le_of_ble_eq_true rfl, Nat.le_of_ble_eq_true rfl⟩ hout hlocks (fun x hx9 => (fun h9 => ⟨(congrArg Prod.fst h9).symm, (congrArg Prod.snd h9).symm⟩) (Option.some.inj ((xk_inr hx9).symm.trans hf))) (fun v4 hv4 H locs hH => ?_)
  replace hf := (xk_inl hv4).symm.trans hf
  refine hl_aload_n hx hb dX12_isOff_11 rfl (lv_at hl 0 rfl) ?_
  refine g12_5 hx hb hts hown hKs hH rfl ho m2_224 dX12_isOff_12 ?_
  obtain ⟨a5, ha5, hf⟩ := bnd hf
  replace ha5 := chk_some ha5
  refine gn10_0 hx hb hts hown hKs hH ha5.1 ha5.2 m2_122 dX12_isOff_15 ?_
  refine lv_iload_n hx hb dX12_isOff_18 rfl (lv_at hl 1 rfl) ?_
  refine lv_iload_n hx hb dX12_isOff_19 rfl (lv_at hl 2 rfl) ?_
  obtain ⟨a6, ha6, hf⟩ := bnd hf
  replace ha6 := chk_some ha6
  obtain ⟨q7, hq7, hf⟩ := bnd hf
  refine hcV_i hx hb hml hown hts hKs hT hb0 hH (As := [.int a_1, .int a_2]) (rest := []) (k_X9_isAway l E K H.size a6 a_1 a_2 q3.2 ha6.2 hq7) (gV m5_121 m4_153 m4_154 m1_2 m4_155) hd_X9_isAway ⟨Nat.le_of_ble_eq_true rfl, Nat.le_of_ble_eq_true rfl, rfl, rfl⟩ ha6.1 ha6.2 rfl rfl rfl hl.1 rfl rc0 rfl dX12_isOff_20 ⟨Nat.le_of_ble_eq_true rfl, Nat.le_of_ble_eq_true rfl⟩ (fun H locs hH => ?_)
  exact hx_zret hx hb (Nat.le_of_ble_eq_true rfl) (Nat.le_of_ble_eq_true rfl) hret rfl hf hH hlocks dX12_isOff_23

theorem dX12_isBarred_0 : decode cX12_isBarred 0 = .ok (.aload_n 0, 1) := by decide +kernel
theorem dX12_isBarred_1 : decode cX12_isBarred 1 = .ok (.iconst 1, 1) := by decide +kernel
theorem dX12_isBarred_2 : decode cX12_isBarred 2 = .ok (.iload_n 1, 1) := by decide +kernel
theorem dX12_isBarred_3 : decode cX12_isBarred 3 = .ok (.invokevirtual 175, 3) := by decide +kernel
theorem dX12_isBarred_6 : decode cX12_isBarred 6 = .ok (.aload_n 0, 1) := by decide +kernel
theorem dX12_isBarred_7 : decode cX12_isBarred 7 = .ok (.iconst 3, 1) := by decide +kernel
theorem dX12_isBarred_8 : decode cX12_isBarred 8 = .ok (.iload_n 2, 1) := by decide +kernel
theorem dX12_isBarred_9 : decode cX12_isBarred 9 = .ok (.invokevirtual 175, 3) := by decide +kernel
theorem dX12_isBarred_12 : decode cX12_isBarred 12 = .ok (.aload_n 0, 1) := by decide +kernel
theorem dX12_isBarred_13 : decode cX12_isBarred 13 = .ok (.getfield 35, 3) := by decide +kernel
theorem dX12_isBarred_16 : decode cX12_isBarred 16 = .ok (.iload_n 2, 1) := by decide +kernel
theorem dX12_isBarred_17 : decode cX12_isBarred 17 = .ok (.invokevirtual 200, 3) := by decide +kernel
theorem dX12_isBarred_20 : decode cX12_isBarred 20 = .ok (.iload_n 1, 1) := by decide +kernel
theorem dX12_isBarred_21 : decode cX12_isBarred 21 = .ok (.invokestatic 203, 3) := by decide +kernel
theorem dX12_isBarred_24 : decode cX12_isBarred 24 = .ok (.ireturn, 1) := by decide +kernel
theorem hd_X12_isBarred : yX12_isBarred.cls = RX12 ∧ yX12_isBarred.cls ≠ "java/lang/invoke/MethodHandle" ∧ yX12_isBarred.cls ≠ "java/lang/invoke/VarHandle" ∧ (parseMethodDescriptor yX12_isBarred.desc).map (fun d => d.parameters.length) = some 2 := by decide +kernel
theorem hs_X12_isBarred : yX12_isBarred.cls ≠ "java/lang/invoke/MethodHandle" ∧ yX12_isBarred.cls ≠ "java/lang/invoke/VarHandle" ∧ (parseMethodDescriptor yX12_isBarred.desc).map (fun d => d.parameters.length) = some 2 := by decide +kernel
set_option maxHeartbeats 4000000 in
set_option maxRecDepth 100000 in
theorem k_X12_isBarred (l : Launch) (hls : l.stackTraces = false) (E : Ev) (K : Kd) (z : Nat) (o : Nat) (a_1 : Int32) (a_2 : Int32) (w : Wd) (ho : K o = some (10, 0)) {r : Bool ⊕ Nat} {w' : Wd} (hf : f_X12_isBarred K o a_1 a_2 w = some (r, w')) : vx_Met l yX12_isBarred (Cond.code yX12_isBarred cX12_isBarred 3 (Option.some Jvm.ClassFile.FieldType.boolean) :: bt) ({ frames := 7, cells := 2, slots := 12, locals := 112 } : Room) (va_Pc [rv E (some o), .int a_1, .int a_2] (HB E K w z)) (XZ E K z w' r) (XX E K w' r) 2 12 (hA E) := by
  refine vx_ofW (cc := cX12_isBarred) (maxL := 3) (ret := (Option.some Jvm.ClassFile.FieldType.boolean)) (by decide) rfl ?_
  intro p e s m args below meth c s₁ B hml hout hv
  obtain ⟨rfl, hz, hP, hKs, hT, hb0⟩ := hv
  have C : CX p l e s m _ meth c cX12_isBarred 3 RX12 (Option.some Jvm.ClassFile.FieldType.boolean) E := ⟨B.exec, B.bytes, hml, findClass_of_methodNamed B.named, fun w h => atoms_spec (ws := Cond.code yX12_isBarred cX12_isBarred 3 (Option.some Jvm.ClassFile.FieldType.boolean) :: bt) B.pre w (List.mem_cons_of_mem _ h), hKs, hT, by rw [hz]; exact hb0, B.notSynchronized, B.returns⟩
  have hH : HQ E K z w s s.heap [] := ⟨hP, va_S.rf, hz⟩
  obtain ⟨hx, hb, hml, hown, hts, hKs, hT, hb0, hlocks, hret⟩ := id C
  have hl := lv_entry [rv E (some o), .int a_1, .int a_2] (n := 3) (by simp [lg_len_nil, lg_len_i, lg_len_j, lg_len_q, lg_len_f, lg_len_d, lg_len_r])
  rw [lg_entry_eq]
  generalize (lg_sl [rv E (some o), .int a_1, .int a_2] ++ List.replicate (3 - (lg_sl [rv E (some o), .int a_1, .int a_2]).length) Slot.unset).toArray = ls at hl ⊢
  replace hl : lv_has ls 3 [(0, rv E (some o)), (1, .int a_1), (2, .int a_2)] := by simpa only [lv_args, cat_q, cat_i, cat_j, reduceIte, Nat.reduceEqDiff, Nat.reduceAdd, Nat.zero_add] using hl
  generalize s.heap = H at hH ⊢
  unfold f_X12_isBarred at hf
  refine hl_aload_n hx hb dX12_isBarred_0 rfl (lv_at hl 0 rfl) ?_
  refine lv_iconst (v := 1) hx hb dX12_isBarred_1 (by decide) ?_
  refine lv_iload_n hx hb dX12_isBarred_2 rfl (lv_at hl 1 rfl) ?_
  obtain ⟨q1, hq1, hf⟩ := bnd hf
  refine hxV_v hx hb hml hown hts hKs hT hb0 hH (As := [.int 1, .int a_1]) (rest := []) (k_X12_requireExisting l hls E K H.size o 1 a_1 w ho hq1) (gV m5_91 m5_93 ms_37 m1_1 m5_94) hd_X12_requireExisting ⟨Nat.le_of_ble_eq_true rfl, Nat.le_of_ble_eq_true rfl, rfl, rfl⟩ rfl ho rfl rfl rfl hl.1 rfl rc0 rfl dX12_isBarred_3 ⟨Nat.le_of_ble_eq_true rfl, Nat.le_of_ble_eq_true rfl⟩ ⟨Nat.le_of_ble_eq_true rfl, Nat.le_of_ble_eq_true rfl⟩ hout hlocks (fun x hx9 => (fun h9 => ⟨(congrArg Prod.fst h9).symm, (congrArg Prod.snd h9).symm⟩) (Option.some.inj ((xk_inr hx9).symm.trans hf))) (fun v2 hv2 H locs hH => ?_)
  replace hf := (xk_inl hv2).symm.trans hf
  refine hl_aload_n hx hb dX12_isBarred_6 rfl (lv_at hl 0 rfl) ?_
  refine lv_iconst (v := 3) hx hb dX12_isBarred_7 (by decide) ?_
  refine lv_iload_n hx hb dX12_isBarred_8 rfl (lv_at hl 2 rfl) ?_
  obtain ⟨q3, hq3, hf⟩ := bnd hf
  refine hxV_v hx hb hml hown hts hKs hT hb0 hH (As := [.int 3, .int a_2]) (rest := []) (k_X12_requireExisting l hls E K H.size o 3 a_2 q1.2 ho hq3) (gV m5_91 m5_93 ms_37 m1_1 m5_94) hd_X12_requireExisting ⟨Nat.le_of_ble_eq_true rfl, Nat.le_of_ble_eq_true rfl, rfl, rfl⟩ rfl ho rfl rfl rfl hl.1 rfl rc0 rfl dX12_isBarred_9 ⟨Nat.le_of_ble_eq_true rfl, Nat.le_of_ble_eq_true rfl⟩ ⟨Nat.le_of_ble_eq_true rfl, Nat.le_of_ble_eq_true rfl⟩ hout hlocks (fun x hx9 => (fun h9 => ⟨(congrArg Prod.fst h9).symm, (congrArg Prod.snd h9).symm⟩) (Option.some.inj ((xk_inr hx9).symm.trans hf))) (fun v4 hv4 H locs hH => ?_)
  replace hf := (xk_inl hv4).symm.trans hf
  refine hl_aload_n hx hb dX12_isBarred_12 rfl (lv_at hl 0 rfl) ?_
  refine g12_5 hx hb hts hown hKs hH rfl ho m2_224 dX12_isBarred_13 ?_
  refine lv_iload_n hx hb dX12_isBarred_16 rfl (lv_at hl 2 rfl) ?_
  obtain ⟨a5, ha5, hf⟩ := bnd hf
  replace ha5 := chk_some ha5
  obtain ⟨q6, hq6, hf⟩ := bnd hf
  refine hcV_i hx hb hml hown hts hKs hT hb0 hH (As := [.int a_2]) (rest := []) (k_X10_barredOfficers l E K H.size a5 a_2 q3.2 ha5.2 hq6) (gV m5_129 m4_120 m4_121 m1_12 m4_122) hd_X10_barredOfficers ⟨Nat.le_of_ble_eq_true rfl, Nat.le_of_ble_eq_true rfl, rfl, rfl⟩ ha5.1 ha5.2 rfl rfl rfl hl.1 rfl rc0 rfl dX12_isBarred_17 ⟨Nat.le_of_ble_eq_true rfl, Nat.le_of_ble_eq_true rfl⟩ (fun H locs hH => ?_)
  refine lv_iload_n hx hb dX12_isBarred_20 rfl (lv_at hl 1 rfl) ?_
  obtain ⟨q7, hq7, hf⟩ := bnd hf
  refine hcS_i hx hb hml hown hts hKs hT hb0 hH (As := [.int (q6.1), .int a_1]) (rest := []) (k_X12_has l E K H.size q6.1 a_1 q6.2 hq7) (gS m5_130 m3_194 m1_1 m3_195) hs_X12_has ⟨Nat.le_of_ble_eq_true rfl, Nat.le_of_ble_eq_true rfl, rfl, rfl⟩ hl.1 rfl rc0 rfl dX12_isBarred_21 ⟨Nat.le_of_ble_eq_true rfl, Nat.le_of_ble_eq_true rfl⟩ (fun H locs hH => ?_)
  exact hx_zret hx hb (Nat.le_of_ble_eq_true rfl) (Nat.le_of_ble_eq_true rfl) hret rfl hf hH hlocks dX12_isBarred_24

theorem dX12_load_0 : decode cX12_load 0 = .ok (.aload_n 0, 1) := by decide +kernel
theorem dX12_load_1 : decode cX12_load 1 = .ok (.iconst 1, 1) := by decide +kernel
theorem dX12_load_2 : decode cX12_load 2 = .ok (.iload_n 1, 1) := by decide +kernel
theorem dX12_load_3 : decode cX12_load 3 = .ok (.invokevirtual 175, 3) := by decide +kernel
theorem dX12_load_6 : decode cX12_load 6 = .ok (.aload_n 0, 1) := by decide +kernel
theorem dX12_load_7 : decode cX12_load 7 = .ok (.getfield 35, 3) := by decide +kernel
theorem dX12_load_10 : decode cX12_load 10 = .ok (.iload_n 1, 1) := by decide +kernel
theorem dX12_load_11 : decode cX12_load 11 = .ok (.invokevirtual 206, 3) := by decide +kernel
theorem dX12_load_14 : decode cX12_load 14 = .ok (.ireturn, 1) := by decide +kernel
theorem hd_X12_load : yX12_load.cls = RX12 ∧ yX12_load.cls ≠ "java/lang/invoke/MethodHandle" ∧ yX12_load.cls ≠ "java/lang/invoke/VarHandle" ∧ (parseMethodDescriptor yX12_load.desc).map (fun d => d.parameters.length) = some 1 := by decide +kernel
theorem hs_X12_load : yX12_load.cls ≠ "java/lang/invoke/MethodHandle" ∧ yX12_load.cls ≠ "java/lang/invoke/VarHandle" ∧ (parseMethodDescriptor yX12_load.desc).map (fun d => d.parameters.length) = some 1 := by decide +kernel
set_option maxHeartbeats 4000000 in
set_option maxRecDepth 100000 in
theorem k_X12_load (l : Launch) (hls : l.stackTraces = false) (E : Ev) (K : Kd) (z : Nat) (o : Nat) (a_1 : Int32) (w : Wd) (ho : K o = some (10, 0)) {r : Int32 ⊕ Nat} {w' : Wd} (hf : f_X12_load K o a_1 w = some (r, w')) : vx_Met l yX12_load (Cond.code yX12_load cX12_load 2 (Option.some Jvm.ClassFile.FieldType.int) :: bt) ({ frames := 7, cells := 1, slots := 6, locals := 112 } : Room) (va_Pc [rv E (some o), .int a_1] (HB E K w z)) (XI E K z w' r) (XX E K w' r) 1 6 (hA E) := by
  refine vx_ofW (cc := cX12_load) (maxL := 2) (ret := (Option.some Jvm.ClassFile.FieldType.int)) (by decide) rfl ?_
  intro p e s m args below meth c s₁ B hml hout hv
  obtain ⟨rfl, hz, hP, hKs, hT, hb0⟩ := hv
  have C : CX p l e s m _ meth c cX12_load 2 RX12 (Option.some Jvm.ClassFile.FieldType.int) E := ⟨B.exec, B.bytes, hml, findClass_of_methodNamed B.named, fun w h => atoms_spec (ws := Cond.code yX12_load cX12_load 2 (Option.some Jvm.ClassFile.FieldType.int) :: bt) B.pre w (List.mem_cons_of_mem _ h), hKs, hT, by rw [hz]; exact hb0, B.notSynchronized, B.returns⟩
  have hH : HQ E K z w s s.heap [] := ⟨hP, va_S.rf, hz⟩
  obtain ⟨hx, hb, hml, hown, hts, hKs, hT, hb0, hlocks, hret⟩ := id C
  have hl := lv_entry [rv E (some o), .int a_1] (n := 2) (by simp [lg_len_nil, lg_len_i, lg_len_j, lg_len_q, lg_len_f, lg_len_d, lg_len_r])
  rw [lg_entry_eq]
  generalize (lg_sl [rv E (some o), .int a_1] ++ List.replicate (2 - (lg_sl [rv E (some o), .int a_1]).length) Slot.unset).toArray = ls at hl ⊢
  replace hl : lv_has ls 2 [(0, rv E (some o)), (1, .int a_1)] := by simpa only [lv_args, cat_q, cat_i, cat_j, reduceIte, Nat.reduceEqDiff, Nat.reduceAdd, Nat.zero_add] using hl
  generalize s.heap = H at hH ⊢
  unfold f_X12_load at hf
  refine hl_aload_n hx hb dX12_load_0 rfl (lv_at hl 0 rfl) ?_
  refine lv_iconst (v := 1) hx hb dX12_load_1 (by decide) ?_
  refine lv_iload_n hx hb dX12_load_2 rfl (lv_at hl 1 rfl) ?_
  obtain ⟨q1, hq1, hf⟩ := bnd hf
  refine hxV_v hx hb hml hown hts hKs hT hb0 hH (As := [.int 1, .int a_1]) (rest := []) (k_X12_requireExisting l hls E K H.size o 1 a_1 w ho hq1) (gV m5_91 m5_93 ms_37 m1_1 m5_94) hd_X12_requireExisting ⟨Nat.le_of_ble_eq_true rfl, Nat.le_of_ble_eq_true rfl, rfl, rfl⟩ rfl ho rfl rfl rfl hl.1 rfl rc0 rfl dX12_load_3 ⟨Nat.le_of_ble_eq_true rfl, Nat.le_of_ble_eq_true rfl⟩ ⟨Nat.le_of_ble_eq_true rfl, Nat.le_of_ble_eq_true rfl⟩ hout hlocks (fun x hx9 => (fun h9 => ⟨(congrArg Prod.fst h9).symm, (congrArg Prod.snd h9).symm⟩) (Option.some.inj ((xk_inr hx9).symm.trans hf))) (fun v2 hv2 H locs hH => ?_)
  replace hf := (xk_inl hv2).symm.trans hf
  refine hl_aload_n hx hb dX12_load_6 rfl (lv_at hl 0 rfl) ?_
  refine g12_5 hx hb hts hown hKs hH rfl ho m2_224 dX12_load_7 ?_
  refine lv_iload_n hx hb dX12_load_10 rfl (lv_at hl 1 rfl) ?_
  obtain ⟨a3, ha3, hf⟩ := bnd hf
  replace ha3 := chk_some ha3
  obtain ⟨q4, hq4, hf⟩ := bnd hf
  refine hcV_i hx hb hml hown hts hKs hT hb0 hH (As := [.int a_1]) (rest := []) (k_X10_loadOf l E K H.size a3 a_1 q1.2 ha3.2 hq4) (gV m5_138 m4_126 m4_127 m1_12 m4_128) hd_X10_loadOf ⟨Nat.le_of_ble_eq_true rfl, Nat.le_of_ble_eq_true rfl, rfl, rfl⟩ ha3.1 ha3.2 rfl rfl rfl hl.1 rfl rc0 rfl dX12_load_11 ⟨Nat.le_of_ble_eq_true rfl, Nat.le_of_ble_eq_true rfl⟩ (fun H locs hH => ?_)
  exact hx_iret hx hb (Nat.le_of_ble_eq_true rfl) (Nat.le_of_ble_eq_true rfl) hret hf hH hlocks dX12_load_14

theorem dX12_matter_0 : decode cX12_matter 0 = .ok (.aload_n 0, 1) := by decide +kernel
theorem dX12_matter_1 : decode cX12_matter 1 = .ok (.iconst 3, 1) := by decide +kernel
theorem dX12_matter_2 : decode cX12_matter 2 = .ok (.iload_n 1, 1) := by decide +kernel
theorem dX12_matter_3 : decode cX12_matter 3 = .ok (.invokevirtual 175, 3) := by decide +kernel
theorem dX12_matter_6 : decode cX12_matter 6 = .ok (.aload_n 0, 1) := by decide +kernel
theorem dX12_matter_7 : decode cX12_matter 7 = .ok (.getfield 35, 3) := by decide +kernel
theorem dX12_matter_10 : decode cX12_matter 10 = .ok (.getfield 87, 3) := by decide +kernel
theorem dX12_matter_13 : decode cX12_matter 13 = .ok (.getfield 209, 3) := by decide +kernel
theorem dX12_matter_16 : decode cX12_matter 16 = .ok (.iload_n 1, 1) := by decide +kernel
theorem dX12_matter_17 : decode cX12_matter 17 = .ok (.aaload, 1) := by decide +kernel
theorem dX12_matter_18 : decode cX12_matter 18 = .ok (.astore_n 3, 1) := by decide +kernel
theorem dX12_matter_19 : decode cX12_matter 19 = .ok (.aload_n 0, 1) := by decide +kernel
theorem dX12_matter_20 : decode cX12_matter 20 = .ok (.getfield 35, 3) := by decide +kernel
theorem dX12_matter_23 : decode cX12_matter 23 = .ok (.getfield 213, 3) := by decide +kernel
theorem dX12_matter_26 : decode cX12_matter 26 = .ok (.iload_n 1, 1) := by decide +kernel
theorem dX12_matter_27 : decode cX12_matter 27 = .ok (.aaload, 1) := by decide +kernel
theorem dX12_matter_28 : decode cX12_matter 28 = .ok (.astore 4, 2) := by decide +kernel
theorem dX12_matter_30 : decode cX12_matter 30 = .ok (.iload_n 2, 1) := by decide +kernel
theorem dX12_matter_31 : decode cX12_matter 31 = .ok (.tableswitch 124 0 9 #[53, 58, 63, 68, 74, 83, 89, 102, 108, 116], 53) := by decide +kernel
theorem dX12_matter_84 : decode cX12_matter 84 = .ok (.aload_n 3, 1) := by decide +kernel
theorem dX12_matter_85 : decode cX12_matter 85 = .ok (.getfield 217, 3) := by decide +kernel
theorem dX12_matter_88 : decode cX12_matter 88 = .ok (.ireturn, 1) := by decide +kernel
theorem dX12_matter_89 : decode cX12_matter 89 = .ok (.aload_n 3, 1) := by decide +kernel
theorem dX12_matter_90 : decode cX12_matter 90 = .ok (.getfield 222, 3) := by decide +kernel
theorem dX12_matter_93 : decode cX12_matter 93 = .ok (.ireturn, 1) := by decide +kernel
theorem dX12_matter_94 : decode cX12_matter 94 = .ok (.aload_n 3, 1) := by decide +kernel
theorem dX12_matter_95 : decode cX12_matter 95 = .ok (.getfield 225, 3) := by decide +kernel
theorem dX12_matter_98 : decode cX12_matter 98 = .ok (.ireturn, 1) := by decide +kernel
theorem dX12_matter_99 : decode cX12_matter 99 = .ok (.aload 4, 2) := by decide +kernel
theorem dX12_matter_101 : decode cX12_matter 101 = .ok (.getfield 228, 3) := by decide +kernel
theorem dX12_matter_104 : decode cX12_matter 104 = .ok (.ireturn, 1) := by decide +kernel
theorem dX12_matter_105 : decode cX12_matter 105 = .ok (.aload_n 0, 1) := by decide +kernel
theorem dX12_matter_106 : decode cX12_matter 106 = .ok (.getfield 35, 3) := by decide +kernel
theorem dX12_matter_109 : decode cX12_matter 109 = .ok (.iload_n 1, 1) := by decide +kernel
theorem dX12_matter_110 : decode cX12_matter 110 = .ok (.invokevirtual 233, 3) := by decide +kernel
theorem dX12_matter_113 : decode cX12_matter 113 = .ok (.ireturn, 1) := by decide +kernel
theorem dX12_matter_114 : decode cX12_matter 114 = .ok (.aload 4, 2) := by decide +kernel
theorem dX12_matter_116 : decode cX12_matter 116 = .ok (.getfield 236, 3) := by decide +kernel
theorem dX12_matter_119 : decode cX12_matter 119 = .ok (.ireturn, 1) := by decide +kernel
theorem dX12_matter_120 : decode cX12_matter 120 = .ok (.aload_n 3, 1) := by decide +kernel
theorem dX12_matter_121 : decode cX12_matter 121 = .ok (.getfield 239, 3) := by decide +kernel
theorem dX12_matter_124 : decode cX12_matter 124 = .ok (.ifCond .eq 7, 3) := by decide +kernel
theorem dX12_matter_127 : decode cX12_matter 127 = .ok (.iconst 1, 1) := by decide +kernel
theorem dX12_matter_128 : decode cX12_matter 128 = .ok (.goto 4, 3) := by decide +kernel
theorem dX12_matter_131 : decode cX12_matter 131 = .ok (.iconst 0, 1) := by decide +kernel
theorem dX12_matter_132 : decode cX12_matter 132 = .ok (.ireturn, 1) := by decide +kernel
theorem dX12_matter_133 : decode cX12_matter 133 = .ok (.aload 4, 2) := by decide +kernel
theorem dX12_matter_135 : decode cX12_matter 135 = .ok (.getfield 242, 3) := by decide +kernel
theorem dX12_matter_138 : decode cX12_matter 138 = .ok (.ireturn, 1) := by decide +kernel
theorem dX12_matter_139 : decode cX12_matter 139 = .ok (.aload_n 3, 1) := by decide +kernel
theorem dX12_matter_140 : decode cX12_matter 140 = .ok (.getfield 245, 3) := by decide +kernel
theorem dX12_matter_143 : decode cX12_matter 143 = .ok (.invokestatic 248, 3) := by decide +kernel
theorem dX12_matter_146 : decode cX12_matter 146 = .ok (.ireturn, 1) := by decide +kernel
theorem dX12_matter_147 : decode cX12_matter 147 = .ok (.aload_n 3, 1) := by decide +kernel
theorem dX12_matter_148 : decode cX12_matter 148 = .ok (.getfield 253, 3) := by decide +kernel
theorem dX12_matter_151 : decode cX12_matter 151 = .ok (.invokestatic 248, 3) := by decide +kernel
theorem dX12_matter_154 : decode cX12_matter 154 = .ok (.ireturn, 1) := by decide +kernel
theorem dX12_matter_155 : decode cX12_matter 155 = .ok (.new 193, 3) := by decide +kernel
theorem dX12_matter_158 : decode cX12_matter 158 = .ok (.dup, 1) := by decide +kernel
theorem dX12_matter_159 : decode cX12_matter 159 = .ok (.invokespecial 195, 3) := by decide +kernel
theorem dX12_matter_162 : decode cX12_matter 162 = .ok (.athrow, 1) := by decide +kernel
theorem hd_X12_matter : yX12_matter.cls = RX12 ∧ yX12_matter.cls ≠ "java/lang/invoke/MethodHandle" ∧ yX12_matter.cls ≠ "java/lang/invoke/VarHandle" ∧ (parseMethodDescriptor yX12_matter.desc).map (fun d => d.parameters.length) = some 2 := by decide +kernel
theorem hs_X12_matter : yX12_matter.cls ≠ "java/lang/invoke/MethodHandle" ∧ yX12_matter.cls ≠ "java/lang/invoke/VarHandle" ∧ (parseMethodDescriptor yX12_matter.desc).map (fun d => d.parameters.length) = some 2 := by decide +kernel
set_option maxHeartbeats 4000000 in
set_option maxRecDepth 100000 in
theorem k_X12_matter (l : Launch) (hls : l.stackTraces = false) (E : Ev) (K : Kd) (z : Nat) (o : Nat) (a_1 : Int32) (a_2 : Int32) (w : Wd) (ho : K o = some (10, 0)) {r : Int32 ⊕ Nat} {w' : Wd} (hf : f_X12_matter K o a_1 a_2 w = some (r, w')) : vx_Met l yX12_matter (Cond.code yX12_matter cX12_matter 5 (Option.some Jvm.ClassFile.FieldType.int) :: bt) ({ frames := 7, cells := 2, slots := 12, locals := 112 } : Room) (va_Pc [rv E (some o), .int a_1, .int a_2] (HB E K w z)) (XI E K z w' r) (XX E K w' r) 2 12 (hA E) := by
  refine vx_ofW (cc := cX12_matter) (maxL := 5) (ret := (Option.some Jvm.ClassFile.FieldType.int)) (by decide) rfl ?_
  intro p e s m args below meth c s₁ B hml hout hv
  obtain ⟨rfl, hz, hP, hKs, hT, hb0⟩ := hv
  have C : CX p l e s m _ meth c cX12_matter 5 RX12 (Option.some Jvm.ClassFile.FieldType.int) E := ⟨B.exec, B.bytes, hml, findClass_of_methodNamed B.named, fun w h => atoms_spec (ws := Cond.code yX12_matter cX12_matter 5 (Option.some Jvm.ClassFile.FieldType.int) :: bt) B.pre w (List.mem_cons_of_mem _ h), hKs, hT, by rw [hz]; exact hb0, B.notSynchronized, B.returns⟩
  have hH : HQ E K z w s s.heap [] := ⟨hP, va_S.rf, hz⟩
  obtain ⟨hx, hb, hml, hown, hts, hKs, hT, hb0, hlocks, hret⟩ := id C
  have hl := lv_entry [rv E (some o), .int a_1, .int a_2] (n := 5) (by simp [lg_len_nil, lg_len_i, lg_len_j, lg_len_q, lg_len_f, lg_len_d, lg_len_r])
  rw [lg_entry_eq]
  generalize (lg_sl [rv E (some o), .int a_1, .int a_2] ++ List.replicate (5 - (lg_sl [rv E (some o), .int a_1, .int a_2]).length) Slot.unset).toArray = ls at hl ⊢
  replace hl : lv_has ls 5 [(0, rv E (some o)), (1, .int a_1), (2, .int a_2)] := by simpa only [lv_args, cat_q, cat_i, cat_j, reduceIte, Nat.reduceEqDiff, Nat.reduceAdd, Nat.zero_add] using hl
  generalize s.heap = H at hH ⊢
  unfold f_X12_matter at hf
  refine hl_aload_n hx hb dX12_matter_0 rfl (lv_at hl 0 rfl) ?_
  refine lv_iconst (v := 3) hx hb dX12_matter_1 (by decide) ?_
  refine lv_iload_n hx hb dX12_matter_2 rfl (lv_at hl 1 rfl) ?_
  obtain ⟨q1, hq1, hf⟩ := bnd hf
  refine hxV_v hx hb hml hown hts hKs hT hb0 hH (As := [.int 3, .int a_1]) (rest := []) (k_X12_requireExisting l hls E K H.size o 3 a_1 w ho hq1) (gV m5_91 m5_93 ms_37 m1_1 m5_94) hd_X12_requireExisting ⟨Nat.le_of_ble_eq_true rfl, Nat.le_of_ble_eq_true rfl, rfl, rfl⟩ rfl ho rfl rfl rfl hl.1 rfl rc0 rfl dX12_matter_3 ⟨Nat.le_of_ble_eq_true rfl, Nat.le_of_ble_eq_true rfl⟩ ⟨Nat.le_of_ble_eq_true rfl, Nat.le_of_ble_eq_true rfl⟩ hout hlocks (fun x hx9 => (fun h9 => ⟨(congrArg Prod.fst h9).symm, (congrArg Prod.snd h9).symm⟩) (Option.some.inj ((xk_inr hx9).symm.trans hf))) (fun v2 hv2 H locs hH => ?_)
  replace hf := (xk_inl hv2).symm.trans hf
  refine hl_aload_n hx hb dX12_matter_6 rfl (lv_at hl 0 rfl) ?_
  refine g12_5 hx hb hts hown hKs hH rfl ho m2_224 dX12_matter_7 ?_
  obtain ⟨a3, ha3, hf⟩ := bnd hf
  replace ha3 := chk_some ha3
  refine gn10_0 hx hb hts hown hKs hH ha3.1 ha3.2 m2_122 dX12_matter_10 ?_
  obtain ⟨a4, ha4, hf⟩ := bnd hf
  replace ha4 := chk_some ha4
  refine gn9_9 hx hb hts hown hKs hH ha4.1 ha4.2 m1_180 dX12_matter_13 ?_
  refine lv_iload_n hx hb dX12_matter_16 rfl (lv_at hl 1 rfl) ?_
  obtain ⟨a5, ha5, hf⟩ := bnd hf
  replace ha5 := cha_some ha5
  obtain ⟨j6, hj6, hf⟩ := bnd hf
  refine hw_aald25 hx hb hKs hH ha5.1 ha5.2 hj6 dX12_matter_17 ?_
  refine hl_astore_n (lv' := [(3, rv E (aR q1.2 a5.1 j6)), (0, rv E (some o)), (1, .int a_1), (2, .int a_2)]) hx hb dX12_matter_18 rfl hl (by decide) rfl (fun ls hl => ?_)
  refine hl_aload_n hx hb dX12_matter_19 rfl (lv_at hl 1 rfl) ?_
  refine g12_5 hx hb hts hown hKs hH rfl ho m2_224 dX12_matter_20 ?_
  refine gn10_5 hx hb hts hown hKs hH ha3.1 ha3.2 m2_135 dX12_matter_23 ?_
  refine lv_iload_n hx hb dX12_matter_26 rfl (lv_at hl 2 rfl) ?_
  obtain ⟨a7, ha7, hf⟩ := bnd hf
  replace ha7 := cha_some ha7
  obtain ⟨j8, hj8, hf⟩ := bnd hf
  refine hw_aald27 hx hb hKs hH ha7.1 ha7.2 hj8 dX12_matter_27 ?_
  refine hl_astore (lv' := [(4, rv E (aR q1.2 a7.1 j8)), (3, rv E (aR q1.2 a5.1 j6)), (0, rv E (some o)), (1, .int a_1), (2, .int a_2)]) hx hb dX12_matter_28 hl (by decide) (by simp [List.filter_cons, cat_q, cat_i, cat_j]) (fun ls hl => ?_)
  refine lv_iload_n hx hb dX12_matter_30 rfl (lv_at hl 4 rfl) ?_
  by_cases c9 : (a_2 < 0 ∨ 9 < a_2)
  · replace hf := (if_pos c9).symm.trans hf
    refine hl_tabOut (tgt := 155) hx hb dX12_matter_31 c9 (by decide) (by decide) (by decide) ?_
    exact hx_throw hx hb hls (code := 1) hml hl.1 hown hts hKs hT hb0 hH (by decide) rfl m5_95 m1_28 hat_RX12_195 dX12_matter_155 dX12_matter_158 dX12_matter_159 dX12_matter_162 hout (Nat.le_of_ble_eq_true rfl) rc0 (Nat.le_of_ble_eq_true rfl) (Nat.le_of_ble_eq_true rfl) (Nat.le_of_ble_eq_true rfl) hlocks hf (Nat.le_of_ble_eq_true rfl) (Nat.le_of_ble_eq_true rfl)
  replace hf := (if_neg c9).symm.trans hf
  by_cases c10 : a_2 = 0
  · replace hf := (if_pos c10).symm.trans hf
    refine hl_tabIn (tgt := 84) hx hb dX12_matter_31 c10 (by decide) (by decide) rfl (by decide) ?_
    refine hl_aload_n hx hb dX12_matter_84 rfl (lv_at hl 1 rfl) ?_
    obtain ⟨a11, ha11, hf⟩ := bnd hf
    replace ha11 := chk_some ha11
    refine gn3_0 hx hb hts hown hKs hH ha11.1 ha11.2 m1_91 dX12_matter_85 ?_
    exact hx_iret hx hb (Nat.le_of_ble_eq_true rfl) (Nat.le_of_ble_eq_true rfl) hret hf hH hlocks dX12_matter_88
  replace hf := (if_neg c10).symm.trans hf
  by_cases c12 : a_2 = 1
  · replace hf := (if_pos c12).symm.trans hf
    refine hl_tabIn (tgt := 89) hx hb dX12_matter_31 c12 (by decide) (by decide) rfl (by decide) ?_
    refine hl_aload_n hx hb dX12_matter_89 rfl (lv_at hl 1 rfl) ?_
    obtain ⟨a13, ha13, hf⟩ := bnd hf
    replace ha13 := chk_some ha13
    refine gn3_1 hx hb hts hown hKs hH ha13.1 ha13.2 m1_96 dX12_matter_90 ?_
    exact hx_iret hx hb (Nat.le_of_ble_eq_true rfl) (Nat.le_of_ble_eq_true rfl) hret hf hH hlocks dX12_matter_93
  replace hf := (if_neg c12).symm.trans hf
  by_cases c14 : a_2 = 2
  · replace hf := (if_pos c14).symm.trans hf
    refine hl_tabIn (tgt := 94) hx hb dX12_matter_31 c14 (by decide) (by decide) rfl (by decide) ?_
    refine hl_aload_n hx hb dX12_matter_94 rfl (lv_at hl 1 rfl) ?_
    obtain ⟨a15, ha15, hf⟩ := bnd hf
    replace ha15 := chk_some ha15
    refine gn3_2 hx hb hts hown hKs hH ha15.1 ha15.2 m1_100 dX12_matter_95 ?_
    exact hx_iret hx hb (Nat.le_of_ble_eq_true rfl) (Nat.le_of_ble_eq_true rfl) hret hf hH hlocks dX12_matter_98
  replace hf := (if_neg c14).symm.trans hf
  by_cases c16 : a_2 = 3
  · replace hf := (if_pos c16).symm.trans hf
    refine hl_tabIn (tgt := 99) hx hb dX12_matter_31 c16 (by decide) (by decide) rfl (by decide) ?_
    refine hl_aload hx hb dX12_matter_99 (lv_at hl 0 rfl) ?_
    obtain ⟨a17, ha17, hf⟩ := bnd hf
    replace ha17 := chk_some ha17
    refine gn7_1 hx hb hts hown hKs hH ha17.1 ha17.2 m2_74 dX12_matter_101 ?_
    exact hx_iret hx hb (Nat.le_of_ble_eq_true rfl) (Nat.le_of_ble_eq_true rfl) hret hf hH hlocks dX12_matter_104
  replace hf := (if_neg c16).symm.trans hf
  by_cases c18 : a_2 = 4
  · replace hf := (if_pos c18).symm.trans hf
    refine hl_tabIn (tgt := 105) hx hb dX12_matter_31 c18 (by decide) (by decide) rfl (by decide) ?_
    refine hl_aload_n hx hb dX12_matter_105 rfl (lv_at hl 2 rfl) ?_
    refine g12_5 hx hb hts hown hKs hH rfl ho m2_224 dX12_matter_106 ?_
    refine lv_iload_n hx hb dX12_matter_109 rfl (lv_at hl 3 rfl) ?_
    obtain ⟨q19, hq19, hf⟩ := bnd hf
    refine hcV_i hx hb hml hown hts hKs hT hb0 hH (As := [.int a_1]) (rest := []) (k_X10_limitDay l E K H.size a3 a_1 q1.2 ha3.2 hq19) (gV m5_146 m4_67 m4_68 m1_12 m4_69) hd_X10_limitDay ⟨Nat.le_of_ble_eq_true rfl, Nat.le_of_ble_eq_true rfl, rfl, rfl⟩ ha3.1 ha3.2 rfl rfl rfl hl.1 rfl rc0 rfl dX12_matter_110 ⟨Nat.le_of_ble_eq_true rfl, Nat.le_of_ble_eq_true rfl⟩ (fun H locs hH => ?_)
    exact hx_iret hx hb (Nat.le_of_ble_eq_true rfl) (Nat.le_of_ble_eq_true rfl) hret hf hH hlocks dX12_matter_113
  replace hf := (if_neg c18).symm.trans hf
  by_cases c20 : a_2 = 5
  · replace hf := (if_pos c20).symm.trans hf
    refine hl_tabIn (tgt := 114) hx hb dX12_matter_31 c20 (by decide) (by decide) rfl (by decide) ?_
    refine hl_aload hx hb dX12_matter_114 (lv_at hl 0 rfl) ?_
    obtain ⟨a21, ha21, hf⟩ := bnd hf
    replace ha21 := chk_some ha21
    refine gn7_0 hx hb hts hown hKs hH ha21.1 ha21.2 m2_71 dX12_matter_116 ?_
    exact hx_iret hx hb (Nat.le_of_ble_eq_true rfl) (Nat.le_of_ble_eq_true rfl) hret hf hH hlocks dX12_matter_119
  replace hf := (if_neg c20).symm.trans hf
  by_cases c22 : a_2 = 6
  · replace hf := (if_pos c22).symm.trans hf
    refine hl_tabIn (tgt := 120) hx hb dX12_matter_31 c22 (by decide) (by decide) rfl (by decide) ?_
    refine hl_aload_n hx hb dX12_matter_120 rfl (lv_at hl 1 rfl) ?_
    obtain ⟨a23, ha23, hf⟩ := bnd hf
    replace ha23 := chk_some ha23
    refine gn3_3 hx hb hts hown hKs hH ha23.1 ha23.2 m1_104 dX12_matter_121 ?_
    refine lv_if_eq (tgt := 131) hx hb dX12_matter_124 (by decide) (fun c24 => ?_) (fun c24 => ?_)
    · replace hf := (if_pos c24).symm.trans hf
      refine lv_iconst (v := 0) hx hb dX12_matter_131 (by decide) ?_
      exact hx_iret hx hb (Nat.le_of_ble_eq_true rfl) (Nat.le_of_ble_eq_true rfl) hret hf hH hlocks dX12_matter_132
    · replace hf := (if_neg c24).symm.trans hf
      refine lv_iconst (v := 1) hx hb dX12_matter_127 (by decide) ?_
      refine lv_goto (tgt := 132) hx hb dX12_matter_128 (by decide) ?_
      exact hx_iret hx hb (Nat.le_of_ble_eq_true rfl) (Nat.le_of_ble_eq_true rfl) hret hf hH hlocks dX12_matter_132
  replace hf := (if_neg c22).symm.trans hf
  by_cases c25 : a_2 = 7
  · replace hf := (if_pos c25).symm.trans hf
    refine hl_tabIn (tgt := 133) hx hb dX12_matter_31 c25 (by decide) (by decide) rfl (by decide) ?_
    refine hl_aload hx hb dX12_matter_133 (lv_at hl 0 rfl) ?_
    obtain ⟨a26, ha26, hf⟩ := bnd hf
    replace ha26 := chk_some ha26
    refine gn7_6 hx hb hts hown hKs hH ha26.1 ha26.2 m2_90 dX12_matter_135 ?_
    exact hx_iret hx hb (Nat.le_of_ble_eq_true rfl) (Nat.le_of_ble_eq_true rfl) hret hf hH hlocks dX12_matter_138
  replace hf := (if_neg c25).symm.trans hf
  by_cases c27 : a_2 = 8
  · replace hf := (if_pos c27).symm.trans hf
    refine hl_tabIn (tgt := 139) hx hb dX12_matter_31 c27 (by decide) (by decide) rfl (by decide) ?_
    refine hl_aload_n hx hb dX12_matter_139 rfl (lv_at hl 1 rfl) ?_
    obtain ⟨a28, ha28, hf⟩ := bnd hf
    replace ha28 := chk_some ha28
    refine gn3_4 hx hb hts hown hKs hH ha28.1 ha28.2 m1_109 dX12_matter_140 ?_
    obtain ⟨q29, hq29, hf⟩ := bnd hf
    refine hcS_i hx hb hml hown hts hKs hT hb0 hH (As := [.int ((wI q1.2 304 a28))]) (rest := []) (k_J6_bitCount_0f7a4 l E K H.size (wI q1.2 304 a28) q1.2 hq29) (gS m5_147 m4_8 m1_23 m4_9) hs_J6_bitCount_0f7a4 ⟨Nat.le_of_ble_eq_true rfl, Nat.le_of_ble_eq_true rfl, rfl, rfl⟩ hl.1 rfl rc0 rfl dX12_matter_143 ⟨Nat.le_of_ble_eq_true rfl, Nat.le_of_ble_eq_true rfl⟩ (fun H locs hH => ?_)
    exact hx_iret hx hb (Nat.le_of_ble_eq_true rfl) (Nat.le_of_ble_eq_true rfl) hret hf hH hlocks dX12_matter_146
  replace hf := (if_neg c27).symm.trans hf
  by_cases c30 : a_2 = 9
  · replace hf := (if_pos c30).symm.trans hf
    refine hl_tabIn (tgt := 147) hx hb dX12_matter_31 c30 (by decide) (by decide) rfl (by decide) ?_
    refine hl_aload_n hx hb dX12_matter_147 rfl (lv_at hl 1 rfl) ?_
    obtain ⟨a31, ha31, hf⟩ := bnd hf
    replace ha31 := chk_some ha31
    refine gn3_5 hx hb hts hown hKs hH ha31.1 ha31.2 m1_115 dX12_matter_148 ?_
    obtain ⟨q32, hq32, hf⟩ := bnd hf
    refine hcS_i hx hb hml hown hts hKs hT hb0 hH (As := [.int ((wI q1.2 305 a31))]) (rest := []) (k_J6_bitCount_0f7a4 l E K H.size (wI q1.2 305 a31) q1.2 hq32) (gS m5_147 m4_8 m1_23 m4_9) hs_J6_bitCount_0f7a4 ⟨Nat.le_of_ble_eq_true rfl, Nat.le_of_ble_eq_true rfl, rfl, rfl⟩ hl.1 rfl rc0 rfl dX12_matter_151 ⟨Nat.le_of_ble_eq_true rfl, Nat.le_of_ble_eq_true rfl⟩ (fun H locs hH => ?_)
    exact hx_iret hx hb (Nat.le_of_ble_eq_true rfl) (Nat.le_of_ble_eq_true rfl) hret hf hH hlocks dX12_matter_154
  replace hf := (if_neg c30).symm.trans hf
  cases hf

theorem dX12_hearing_0 : decode cX12_hearing 0 = .ok (.aload_n 0, 1) := by decide +kernel
theorem dX12_hearing_1 : decode cX12_hearing 1 = .ok (.iconst 3, 1) := by decide +kernel
theorem dX12_hearing_2 : decode cX12_hearing 2 = .ok (.iload_n 1, 1) := by decide +kernel
theorem dX12_hearing_3 : decode cX12_hearing 3 = .ok (.invokevirtual 175, 3) := by decide +kernel
theorem dX12_hearing_6 : decode cX12_hearing 6 = .ok (.aload_n 0, 1) := by decide +kernel
theorem dX12_hearing_7 : decode cX12_hearing 7 = .ok (.getfield 35, 3) := by decide +kernel
theorem dX12_hearing_10 : decode cX12_hearing 10 = .ok (.getfield 213, 3) := by decide +kernel
theorem dX12_hearing_13 : decode cX12_hearing 13 = .ok (.iload_n 1, 1) := by decide +kernel
theorem dX12_hearing_14 : decode cX12_hearing 14 = .ok (.aaload, 1) := by decide +kernel
theorem dX12_hearing_15 : decode cX12_hearing 15 = .ok (.astore_n 3, 1) := by decide +kernel
theorem dX12_hearing_16 : decode cX12_hearing 16 = .ok (.iload_n 2, 1) := by decide +kernel
theorem dX12_hearing_17 : decode cX12_hearing 17 = .ok (.tableswitch 51 0 3 #[31, 36, 41, 46], 31) := by decide +kernel
theorem dX12_hearing_48 : decode cX12_hearing 48 = .ok (.aload_n 3, 1) := by decide +kernel
theorem dX12_hearing_49 : decode cX12_hearing 49 = .ok (.getfield 256, 3) := by decide +kernel
theorem dX12_hearing_52 : decode cX12_hearing 52 = .ok (.ireturn, 1) := by decide +kernel
theorem dX12_hearing_53 : decode cX12_hearing 53 = .ok (.aload_n 3, 1) := by decide +kernel
theorem dX12_hearing_54 : decode cX12_hearing 54 = .ok (.getfield 257, 3) := by decide +kernel
theorem dX12_hearing_57 : decode cX12_hearing 57 = .ok (.ireturn, 1) := by decide +kernel
theorem dX12_hearing_58 : decode cX12_hearing 58 = .ok (.aload_n 3, 1) := by decide +kernel
theorem dX12_hearing_59 : decode cX12_hearing 59 = .ok (.getfield 260, 3) := by decide +kernel
theorem dX12_hearing_62 : decode cX12_hearing 62 = .ok (.ireturn, 1) := by decide +kernel
theorem dX12_hearing_63 : decode cX12_hearing 63 = .ok (.aload_n 3, 1) := by decide +kernel
theorem dX12_hearing_64 : decode cX12_hearing 64 = .ok (.getfield 263, 3) := by decide +kernel
theorem dX12_hearing_67 : decode cX12_hearing 67 = .ok (.ireturn, 1) := by decide +kernel
theorem dX12_hearing_68 : decode cX12_hearing 68 = .ok (.new 193, 3) := by decide +kernel
theorem dX12_hearing_71 : decode cX12_hearing 71 = .ok (.dup, 1) := by decide +kernel
theorem dX12_hearing_72 : decode cX12_hearing 72 = .ok (.invokespecial 195, 3) := by decide +kernel
theorem dX12_hearing_75 : decode cX12_hearing 75 = .ok (.athrow, 1) := by decide +kernel
theorem hd_X12_hearing : yX12_hearing.cls = RX12 ∧ yX12_hearing.cls ≠ "java/lang/invoke/MethodHandle" ∧ yX12_hearing.cls ≠ "java/lang/invoke/VarHandle" ∧ (parseMethodDescriptor yX12_hearing.desc).map (fun d => d.parameters.length) = some 2 := by decide +kernel
theorem hs_X12_hearing : yX12_hearing.cls ≠ "java/lang/invoke/MethodHandle" ∧ yX12_hearing.cls ≠ "java/lang/invoke/VarHandle" ∧ (parseMethodDescriptor yX12_hearing.desc).map (fun d => d.parameters.length) = some 2 := by decide +kernel
set_option maxHeartbeats 4000000 in
set_option maxRecDepth 100000 in
theorem k_X12_hearing (l : Launch) (hls : l.stackTraces = false) (E : Ev) (K : Kd) (z : Nat) (o : Nat) (a_1 : Int32) (a_2 : Int32) (w : Wd) (ho : K o = some (10, 0)) {r : Int32 ⊕ Nat} {w' : Wd} (hf : f_X12_hearing K o a_1 a_2 w = some (r, w')) : vx_Met l yX12_hearing (Cond.code yX12_hearing cX12_hearing 4 (Option.some Jvm.ClassFile.FieldType.int) :: bt) ({ frames := 7, cells := 2, slots := 12, locals := 112 } : Room) (va_Pc [rv E (some o), .int a_1, .int a_2] (HB E K w z)) (XI E K z w' r) (XX E K w' r) 2 12 (hA E) := by
  refine vx_ofW (cc := cX12_hearing) (maxL := 4) (ret := (Option.some Jvm.ClassFile.FieldType.int)) (by decide) rfl ?_
  intro p e s m args below meth c s₁ B hml hout hv
  obtain ⟨rfl, hz, hP, hKs, hT, hb0⟩ := hv
  have C : CX p l e s m _ meth c cX12_hearing 4 RX12 (Option.some Jvm.ClassFile.FieldType.int) E := ⟨B.exec, B.bytes, hml, findClass_of_methodNamed B.named, fun w h => atoms_spec (ws := Cond.code yX12_hearing cX12_hearing 4 (Option.some Jvm.ClassFile.FieldType.int) :: bt) B.pre w (List.mem_cons_of_mem _ h), hKs, hT, by rw [hz]; exact hb0, B.notSynchronized, B.returns⟩
  have hH : HQ E K z w s s.heap [] := ⟨hP, va_S.rf, hz⟩
  obtain ⟨hx, hb, hml, hown, hts, hKs, hT, hb0, hlocks, hret⟩ := id C
  have hl := lv_entry [rv E (some o), .int a_1, .int a_2] (n := 4) (by simp [lg_len_nil, lg_len_i, lg_len_j, lg_len_q, lg_len_f, lg_len_d, lg_len_r])
  rw [lg_entry_eq]
  generalize (lg_sl [rv E (some o), .int a_1, .int a_2] ++ List.replicate (4 - (lg_sl [rv E (some o), .int a_1, .int a_2]).length) Slot.unset).toArray = ls at hl ⊢
  replace hl : lv_has ls 4 [(0, rv E (some o)), (1, .int a_1), (2, .int a_2)] := by simpa only [lv_args, cat_q, cat_i, cat_j, reduceIte, Nat.reduceEqDiff, Nat.reduceAdd, Nat.zero_add] using hl
  generalize s.heap = H at hH ⊢
  unfold f_X12_hearing at hf
  refine hl_aload_n hx hb dX12_hearing_0 rfl (lv_at hl 0 rfl) ?_
  refine lv_iconst (v := 3) hx hb dX12_hearing_1 (by decide) ?_
  refine lv_iload_n hx hb dX12_hearing_2 rfl (lv_at hl 1 rfl) ?_
  obtain ⟨q1, hq1, hf⟩ := bnd hf
  refine hxV_v hx hb hml hown hts hKs hT hb0 hH (As := [.int 3, .int a_1]) (rest := []) (k_X12_requireExisting l hls E K H.size o 3 a_1 w ho hq1) (gV m5_91 m5_93 ms_37 m1_1 m5_94) hd_X12_requireExisting ⟨Nat.le_of_ble_eq_true rfl, Nat.le_of_ble_eq_true rfl, rfl, rfl⟩ rfl ho rfl rfl rfl hl.1 rfl rc0 rfl dX12_hearing_3 ⟨Nat.le_of_ble_eq_true rfl, Nat.le_of_ble_eq_true rfl⟩ ⟨Nat.le_of_ble_eq_true rfl, Nat.le_of_ble_eq_true rfl⟩ hout hlocks (fun x hx9 => (fun h9 => ⟨(congrArg Prod.fst h9).symm, (congrArg Prod.snd h9).symm⟩) (Option.some.inj ((xk_inr hx9).symm.trans hf))) (fun v2 hv2 H locs hH => ?_)
  replace hf := (xk_inl hv2).symm.trans hf
  refine hl_aload_n hx hb dX12_hearing_6 rfl (lv_at hl 0 rfl) ?_
  refine g12_5 hx hb hts hown hKs hH rfl ho m2_224 dX12_hearing_7 ?_
  obtain ⟨a3, ha3, hf⟩ := bnd hf
  replace ha3 := chk_some ha3
  refine gn10_5 hx hb hts hown hKs hH ha3.1 ha3.2 m2_135 dX12_hearing_10 ?_
  refine lv_iload_n hx hb dX12_hearing_13 rfl (lv_at hl 1 rfl) ?_
  obtain ⟨a4, ha4, hf⟩ := bnd hf
  replace ha4 := cha_some ha4
  obtain ⟨j5, hj5, hf⟩ := bnd hf
  refine hw_aald27 hx hb hKs hH ha4.1 ha4.2 hj5 dX12_hearing_14 ?_
  refine hl_astore_n (lv' := [(3, rv E (aR q1.2 a4.1 j5)), (0, rv E (some o)), (1, .int a_1), (2, .int a_2)]) hx hb dX12_hearing_15 rfl hl (by decide) rfl (fun ls hl => ?_)
  refine lv_iload_n hx hb dX12_hearing_16 rfl (lv_at hl 3 rfl) ?_
  by_cases c6 : (a_2 < 0 ∨ 3 < a_2)
  · replace hf := (if_pos c6).symm.trans hf
    refine hl_tabOut (tgt := 68) hx hb dX12_hearing_17 c6 (by decide) (by decide) (by decide) ?_
    exact hx_throw hx hb hls (code := 1) hml hl.1 hown hts hKs hT hb0 hH (by decide) rfl m5_95 m1_28 hat_RX12_195 dX12_hearing_68 dX12_hearing_71 dX12_hearing_72 dX12_hearing_75 hout (Nat.le_of_ble_eq_true rfl) rc0 (Nat.le_of_ble_eq_true rfl) (Nat.le_of_ble_eq_true rfl) (Nat.le_of_ble_eq_true rfl) hlocks hf (Nat.le_of_ble_eq_true rfl) (Nat.le_of_ble_eq_true rfl)
  replace hf := (if_neg c6).symm.trans hf
  by_cases c7 : a_2 = 0
  · replace hf := (if_pos c7).symm.trans hf
    refine hl_tabIn (tgt := 48) hx hb dX12_hearing_17 c7 (by decide) (by decide) rfl (by decide) ?_
    refine hl_aload_n hx hb dX12_hearing_48 rfl (lv_at hl 0 rfl) ?_
    obtain ⟨a8, ha8, hf⟩ := bnd hf
    replace ha8 := chk_some ha8
    refine gn7_2 hx hb hts hown hKs hH ha8.1 ha8.2 m2_77 dX12_hearing_49 ?_
    exact hx_iret hx hb (Nat.le_of_ble_eq_true rfl) (Nat.le_of_ble_eq_true rfl) hret hf hH hlocks dX12_hearing_52
  replace hf := (if_neg c7).symm.trans hf
  by_cases c9 : a_2 = 1
  · replace hf := (if_pos c9).symm.trans hf
    refine hl_tabIn (tgt := 53) hx hb dX12_hearing_17 c9 (by decide) (by decide) rfl (by decide) ?_
    refine hl_aload_n hx hb dX12_hearing_53 rfl (lv_at hl 0 rfl) ?_
    obtain ⟨a10, ha10, hf⟩ := bnd hf
    replace ha10 := chk_some ha10
    refine gn7_3 hx hb hts hown hKs hH ha10.1 ha10.2 m2_80 dX12_hearing_54 ?_
    exact hx_iret hx hb (Nat.le_of_ble_eq_true rfl) (Nat.le_of_ble_eq_true rfl) hret hf hH hlocks dX12_hearing_57
  replace hf := (if_neg c9).symm.trans hf
  by_cases c11 : a_2 = 2
  · replace hf := (if_pos c11).symm.trans hf
    refine hl_tabIn (tgt := 58) hx hb dX12_hearing_17 c11 (by decide) (by decide) rfl (by decide) ?_
    refine hl_aload_n hx hb dX12_hearing_58 rfl (lv_at hl 0 rfl) ?_
    obtain ⟨a12, ha12, hf⟩ := bnd hf
    replace ha12 := chk_some ha12
    refine gn7_4 hx hb hts hown hKs hH ha12.1 ha12.2 m2_84 dX12_hearing_59 ?_
    exact hx_iret hx hb (Nat.le_of_ble_eq_true rfl) (Nat.le_of_ble_eq_true rfl) hret hf hH hlocks dX12_hearing_62
  replace hf := (if_neg c11).symm.trans hf
  by_cases c13 : a_2 = 3
  · replace hf := (if_pos c13).symm.trans hf
    refine hl_tabIn (tgt := 63) hx hb dX12_hearing_17 c13 (by decide) (by decide) rfl (by decide) ?_
    refine hl_aload_n hx hb dX12_hearing_63 rfl (lv_at hl 0 rfl) ?_
    obtain ⟨a14, ha14, hf⟩ := bnd hf
    replace ha14 := chk_some ha14
    refine gn7_5 hx hb hts hown hKs hH ha14.1 ha14.2 m2_88 dX12_hearing_64 ?_
    exact hx_iret hx hb (Nat.le_of_ble_eq_true rfl) (Nat.le_of_ble_eq_true rfl) hret hf hH hlocks dX12_hearing_67
  replace hf := (if_neg c13).symm.trans hf
  cases hf

theorem dX12_adjournment_0 : decode cX12_adjournment 0 = .ok (.aload_n 0, 1) := by decide +kernel
theorem dX12_adjournment_1 : decode cX12_adjournment 1 = .ok (.iconst 3, 1) := by decide +kernel
theorem dX12_adjournment_2 : decode cX12_adjournment 2 = .ok (.iload_n 1, 1) := by decide +kernel
theorem dX12_adjournment_3 : decode cX12_adjournment 3 = .ok (.invokevirtual 175, 3) := by decide +kernel
theorem dX12_adjournment_6 : decode cX12_adjournment 6 = .ok (.aload_n 0, 1) := by decide +kernel
theorem dX12_adjournment_7 : decode cX12_adjournment 7 = .ok (.getfield 35, 3) := by decide +kernel
theorem dX12_adjournment_10 : decode cX12_adjournment 10 = .ok (.getfield 213, 3) := by decide +kernel
theorem dX12_adjournment_13 : decode cX12_adjournment 13 = .ok (.iload_n 1, 1) := by decide +kernel
theorem dX12_adjournment_14 : decode cX12_adjournment 14 = .ok (.aaload, 1) := by decide +kernel
theorem dX12_adjournment_15 : decode cX12_adjournment 15 = .ok (.astore 4, 2) := by decide +kernel
theorem dX12_adjournment_17 : decode cX12_adjournment 17 = .ok (.iload_n 2, 1) := by decide +kernel
theorem dX12_adjournment_18 : decode cX12_adjournment 18 = .ok (.ifCond .lt 21, 3) := by decide +kernel
theorem dX12_adjournment_21 : decode cX12_adjournment 21 = .ok (.iload_n 2, 1) := by decide +kernel
theorem dX12_adjournment_22 : decode cX12_adjournment 22 = .ok (.aload 4, 2) := by decide +kernel
theorem dX12_adjournment_24 : decode cX12_adjournment 24 = .ok (.getfield 242, 3) := by decide +kernel
theorem dX12_adjournment_27 : decode cX12_adjournment 27 = .ok (.if_icmp .ge 12, 3) := by decide +kernel
theorem dX12_adjournment_30 : decode cX12_adjournment 30 = .ok (.iload_n 3, 1) := by decide +kernel
theorem dX12_adjournment_31 : decode cX12_adjournment 31 = .ok (.ifCond .lt 8, 3) := by decide +kernel
theorem dX12_adjournment_34 : decode cX12_adjournment 34 = .ok (.iload_n 3, 1) := by decide +kernel
theorem dX12_adjournment_35 : decode cX12_adjournment 35 = .ok (.iconst 4, 1) := by decide +kernel
theorem dX12_adjournment_36 : decode cX12_adjournment 36 = .ok (.if_icmp .lt 11, 3) := by decide +kernel
theorem dX12_adjournment_39 : decode cX12_adjournment 39 = .ok (.new 193, 3) := by decide +kernel
theorem dX12_adjournment_42 : decode cX12_adjournment 42 = .ok (.dup, 1) := by decide +kernel
theorem dX12_adjournment_43 : decode cX12_adjournment 43 = .ok (.invokespecial 195, 3) := by decide +kernel
theorem dX12_adjournment_46 : decode cX12_adjournment 46 = .ok (.athrow, 1) := by decide +kernel
theorem dX12_adjournment_47 : decode cX12_adjournment 47 = .ok (.aload 4, 2) := by decide +kernel
theorem dX12_adjournment_49 : decode cX12_adjournment 49 = .ok (.getfield 266, 3) := by decide +kernel
theorem dX12_adjournment_52 : decode cX12_adjournment 52 = .ok (.iload_n 2, 1) := by decide +kernel
theorem dX12_adjournment_53 : decode cX12_adjournment 53 = .ok (.iconst 4, 1) := by decide +kernel
theorem dX12_adjournment_54 : decode cX12_adjournment 54 = .ok (.imul, 1) := by decide +kernel
theorem dX12_adjournment_55 : decode cX12_adjournment 55 = .ok (.iload_n 3, 1) := by decide +kernel
theorem dX12_adjournment_56 : decode cX12_adjournment 56 = .ok (.iadd, 1) := by decide +kernel
theorem dX12_adjournment_57 : decode cX12_adjournment 57 = .ok (.iaload, 1) := by decide +kernel
theorem dX12_adjournment_58 : decode cX12_adjournment 58 = .ok (.ireturn, 1) := by decide +kernel
theorem hd_X12_adjournment : yX12_adjournment.cls = RX12 ∧ yX12_adjournment.cls ≠ "java/lang/invoke/MethodHandle" ∧ yX12_adjournment.cls ≠ "java/lang/invoke/VarHandle" ∧ (parseMethodDescriptor yX12_adjournment.desc).map (fun d => d.parameters.length) = some 3 := by decide +kernel
theorem hs_X12_adjournment : yX12_adjournment.cls ≠ "java/lang/invoke/MethodHandle" ∧ yX12_adjournment.cls ≠ "java/lang/invoke/VarHandle" ∧ (parseMethodDescriptor yX12_adjournment.desc).map (fun d => d.parameters.length) = some 3 := by decide +kernel
set_option maxHeartbeats 4000000 in
set_option maxRecDepth 100000 in
theorem k_X12_adjournment (l : Launch) (hls : l.stackTraces = false) (E : Ev) (K : Kd) (z : Nat) (o : Nat) (a_1 : Int32) (a_2 : Int32) (a_3 : Int32) (w : Wd) (ho : K o = some (10, 0)) {r : Int32 ⊕ Nat} {w' : Wd} (hf : f_X12_adjournment K o a_1 a_2 a_3 w = some (r, w')) : vx_Met l yX12_adjournment (Cond.code yX12_adjournment cX12_adjournment 5 (Option.some Jvm.ClassFile.FieldType.int) :: bt) ({ frames := 7, cells := 2, slots := 12, locals := 112 } : Room) (va_Pc [rv E (some o), .int a_1, .int a_2, .int a_3] (HB E K w z)) (XI E K z w' r) (XX E K w' r) 2 12 (hA E) := by
  refine vx_ofW (cc := cX12_adjournment) (maxL := 5) (ret := (Option.some Jvm.ClassFile.FieldType.int)) (by decide) rfl ?_
  intro p e s m args below meth c s₁ B hml hout hv
  obtain ⟨rfl, hz, hP, hKs, hT, hb0⟩ := hv
  have C : CX p l e s m _ meth c cX12_adjournment 5 RX12 (Option.some Jvm.ClassFile.FieldType.int) E := ⟨B.exec, B.bytes, hml, findClass_of_methodNamed B.named, fun w h => atoms_spec (ws := Cond.code yX12_adjournment cX12_adjournment 5 (Option.some Jvm.ClassFile.FieldType.int) :: bt) B.pre w (List.mem_cons_of_mem _ h), hKs, hT, by rw [hz]; exact hb0, B.notSynchronized, B.returns⟩
  have hH : HQ E K z w s s.heap [] := ⟨hP, va_S.rf, hz⟩
  obtain ⟨hx, hb, hml, hown, hts, hKs, hT, hb0, hlocks, hret⟩ := id C
  have hl := lv_entry [rv E (some o), .int a_1, .int a_2, .int a_3] (n := 5) (by simp [lg_len_nil, lg_len_i, lg_len_j, lg_len_q, lg_len_f, lg_len_d, lg_len_r])
  rw [lg_entry_eq]
  generalize (lg_sl [rv E (some o), .int a_1, .int a_2, .int a_3] ++ List.replicate (5 - (lg_sl [rv E (some o), .int a_1, .int a_2, .int a_3]).length) Slot.unset).toArray = ls at hl ⊢
  replace hl : lv_has ls 5 [(0, rv E (some o)), (1, .int a_1), (2, .int a_2), (3, .int a_3)] := by simpa only [lv_args, cat_q, cat_i, cat_j, reduceIte, Nat.reduceEqDiff, Nat.reduceAdd, Nat.zero_add] using hl
  generalize s.heap = H at hH ⊢
  unfold f_X12_adjournment at hf
  refine hl_aload_n hx hb dX12_adjournment_0 rfl (lv_at hl 0 rfl) ?_
  refine lv_iconst (v := 3) hx hb dX12_adjournment_1 (by decide) ?_
  refine lv_iload_n hx hb dX12_adjournment_2 rfl (lv_at hl 1 rfl) ?_
  obtain ⟨q1, hq1, hf⟩ := bnd hf
  refine hxV_v hx hb hml hown hts hKs hT hb0 hH (As := [.int 3, .int a_1]) (rest := []) (k_X12_requireExisting l hls E K H.size o 3 a_1 w ho hq1) (gV m5_91 m5_93 ms_37 m1_1 m5_94) hd_X12_requireExisting ⟨Nat.le_of_ble_eq_true rfl, Nat.le_of_ble_eq_true rfl, rfl, rfl⟩ rfl ho rfl rfl rfl hl.1 rfl rc0 rfl dX12_adjournment_3 ⟨Nat.le_of_ble_eq_true rfl, Nat.le_of_ble_eq_true rfl⟩ ⟨Nat.le_of_ble_eq_true rfl, Nat.le_of_ble_eq_true rfl⟩ hout hlocks (fun x hx9 => (fun h9 => ⟨(congrArg Prod.fst h9).symm, (congrArg Prod.snd h9).symm⟩) (Option.some.inj ((xk_inr hx9).symm.trans hf))) (fun v2 hv2 H locs hH => ?_)
  replace hf := (xk_inl hv2).symm.trans hf
  refine hl_aload_n hx hb dX12_adjournment_6 rfl (lv_at hl 0 rfl) ?_
  refine g12_5 hx hb hts hown hKs hH rfl ho m2_224 dX12_adjournment_7 ?_
  obtain ⟨a3, ha3, hf⟩ := bnd hf
  replace ha3 := chk_some ha3
  refine gn10_5 hx hb hts hown hKs hH ha3.1 ha3.2 m2_135 dX12_adjournment_10 ?_
  refine lv_iload_n hx hb dX12_adjournment_13 rfl (lv_at hl 1 rfl) ?_
  obtain ⟨a4, ha4, hf⟩ := bnd hf
  replace ha4 := cha_some ha4
  obtain ⟨j5, hj5, hf⟩ := bnd hf
  refine hw_aald27 hx hb hKs hH ha4.1 ha4.2 hj5 dX12_adjournment_14 ?_
  refine hl_astore (lv' := [(4, rv E (aR q1.2 a4.1 j5)), (0, rv E (some o)), (1, .int a_1), (2, .int a_2), (3, .int a_3)]) hx hb dX12_adjournment_15 hl (by decide) rfl (fun ls hl => ?_)
  refine lv_iload_n hx hb dX12_adjournment_17 rfl (lv_at hl 3 rfl) ?_
  refine lv_if_lt (tgt := 39) hx hb dX12_adjournment_18 (by decide) (fun c6 => ?_) (fun c6 => ?_)
  · replace hf := (if_pos c6).symm.trans hf
    exact hx_throw hx hb hls (code := 1) hml hl.1 hown hts hKs hT hb0 hH (by decide) rfl m5_95 m1_28 hat_RX12_195 dX12_adjournment_39 dX12_adjournment_42 dX12_adjournment_43 dX12_adjournment_46 hout (Nat.le_of_ble_eq_true rfl) rc0 (Nat.le_of_ble_eq_true rfl) (Nat.le_of_ble_eq_true rfl) (Nat.le_of_ble_eq_true rfl) hlocks hf (Nat.le_of_ble_eq_true rfl) (Nat.le_of_ble_eq_true rfl)
  · replace hf := (if_neg c6).symm.trans hf
    refine lv_iload_n hx hb dX12_adjournment_21 rfl (lv_at hl 3 rfl) ?_
    refine hl_aload hx hb dX12_adjournment_22 (lv_at hl 0 rfl) ?_
    obtain ⟨a7, ha7, hf⟩ := bnd hf
    replace ha7 := chk_some ha7
    refine gn7_6 hx hb hts hown hKs hH ha7.1 ha7.2 m2_90 dX12_adjournment_24 ?_
    refine lv_icmp_ge (tgt := 39) hx hb dX12_adjournment_27 (by decide) (fun c8 => ?_) (fun c8 => ?_)
    · replace hf := (if_pos c8).symm.trans hf
      exact hx_throw hx hb hls (code := 1) hml hl.1 hown hts hKs hT hb0 hH (by decide) rfl m5_95 m1_28 hat_RX12_195 dX12_adjournment_39 dX12_adjournment_42 dX12_adjournment_43 dX12_adjournment_46 hout (Nat.le_of_ble_eq_true rfl) rc0 (Nat.le_of_ble_eq_true rfl) (Nat.le_of_ble_eq_true rfl) (Nat.le_of_ble_eq_true rfl) hlocks hf (Nat.le_of_ble_eq_true rfl) (Nat.le_of_ble_eq_true rfl)
    · replace hf := (if_neg c8).symm.trans hf
      refine lv_iload_n hx hb dX12_adjournment_30 rfl (lv_at hl 4 rfl) ?_
      refine lv_if_lt (tgt := 39) hx hb dX12_adjournment_31 (by decide) (fun c9 => ?_) (fun c9 => ?_)
      · replace hf := (if_pos c9).symm.trans hf
        exact hx_throw hx hb hls (code := 1) hml hl.1 hown hts hKs hT hb0 hH (by decide) rfl m5_95 m1_28 hat_RX12_195 dX12_adjournment_39 dX12_adjournment_42 dX12_adjournment_43 dX12_adjournment_46 hout (Nat.le_of_ble_eq_true rfl) rc0 (Nat.le_of_ble_eq_true rfl) (Nat.le_of_ble_eq_true rfl) (Nat.le_of_ble_eq_true rfl) hlocks hf (Nat.le_of_ble_eq_true rfl) (Nat.le_of_ble_eq_true rfl)
      · replace hf := (if_neg c9).symm.trans hf
        refine lv_iload_n hx hb dX12_adjournment_34 rfl (lv_at hl 4 rfl) ?_
        refine lv_iconst (v := 4) hx hb dX12_adjournment_35 (by decide) ?_
        refine lv_icmp_lt (tgt := 47) hx hb dX12_adjournment_36 (by decide) (fun c10 => ?_) (fun c10 => ?_)
        · replace hf := (if_pos c10).symm.trans hf
          refine hl_aload hx hb dX12_adjournment_47 (lv_at hl 0 rfl) ?_
          refine gn7_7 hx hb hts hown hKs hH ha7.1 ha7.2 m2_93 dX12_adjournment_49 ?_
          refine lv_iload_n hx hb dX12_adjournment_52 rfl (lv_at hl 3 rfl) ?_
          refine lv_iconst (v := 4) hx hb dX12_adjournment_53 (by decide) ?_
          refine lv_imul hx hb dX12_adjournment_54 ?_
          refine lv_iload_n hx hb dX12_adjournment_55 rfl (lv_at hl 4 rfl) ?_
          refine lv_iadd hx hb dX12_adjournment_56 ?_
          obtain ⟨a11, ha11, hf⟩ := bnd hf
          replace ha11 := cha_some ha11
          obtain ⟨j12, hj12, hf⟩ := bnd hf
          refine hw_iald hx hb hKs hH ha11.1 ha11.2 hj12 dX12_adjournment_57 ?_
          exact hx_iret hx hb (Nat.le_of_ble_eq_true rfl) (Nat.le_of_ble_eq_true rfl) hret hf hH hlocks dX12_adjournment_58
        · replace hf := (if_neg c10).symm.trans hf
          exact hx_throw hx hb hls (code := 1) hml hl.1 hown hts hKs hT hb0 hH (by decide) rfl m5_95 m1_28 hat_RX12_195 dX12_adjournment_39 dX12_adjournment_42 dX12_adjournment_43 dX12_adjournment_46 hout (Nat.le_of_ble_eq_true rfl) rc0 (Nat.le_of_ble_eq_true rfl) (Nat.le_of_ble_eq_true rfl) (Nat.le_of_ble_eq_true rfl) hlocks hf (Nat.le_of_ble_eq_true rfl) (Nat.le_of_ble_eq_true rfl)

theorem dX12_caseAt_0 : decode cX12_caseAt 0 = .ok (.aload_n 0, 1) := by decide +kernel
theorem dX12_caseAt_1 : decode cX12_caseAt 1 = .ok (.iconst 0, 1) := by decide +kernel
theorem dX12_caseAt_2 : decode cX12_caseAt 2 = .ok (.iload_n 1, 1) := by decide +kernel
theorem dX12_caseAt_3 : decode cX12_caseAt 3 = .ok (.invokevirtual 175, 3) := by decide +kernel
theorem dX12_caseAt_6 : decode cX12_caseAt 6 = .ok (.aload_n 0, 1) := by decide +kernel
theorem dX12_caseAt_7 : decode cX12_caseAt 7 = .ok (.iload_n 2, 1) := by decide +kernel
theorem dX12_caseAt_8 : decode cX12_caseAt 8 = .ok (.invokevirtual 154, 3) := by decide +kernel
theorem dX12_caseAt_11 : decode cX12_caseAt 11 = .ok (.aload_n 0, 1) := by decide +kernel
theorem dX12_caseAt_12 : decode cX12_caseAt 12 = .ok (.iload_n 3, 1) := by decide +kernel
theorem dX12_caseAt_13 : decode cX12_caseAt 13 = .ok (.invokevirtual 269, 3) := by decide +kernel
theorem dX12_caseAt_16 : decode cX12_caseAt 16 = .ok (.aload_n 0, 1) := by decide +kernel
theorem dX12_caseAt_17 : decode cX12_caseAt 17 = .ok (.getfield 35, 3) := by decide +kernel
theorem dX12_caseAt_20 : decode cX12_caseAt 20 = .ok (.iload_n 1, 1) := by decide +kernel
theorem dX12_caseAt_21 : decode cX12_caseAt 21 = .ok (.iload_n 2, 1) := by decide +kernel
theorem dX12_caseAt_22 : decode cX12_caseAt 22 = .ok (.iload_n 3, 1) := by decide +kernel
theorem dX12_caseAt_23 : decode cX12_caseAt 23 = .ok (.invokevirtual 272, 3) := by decide +kernel
theorem dX12_caseAt_26 : decode cX12_caseAt 26 = .ok (.ireturn, 1) := by decide +kernel
theorem hd_X12_caseAt : yX12_caseAt.cls = RX12 ∧ yX12_caseAt.cls ≠ "java/lang/invoke/MethodHandle" ∧ yX12_caseAt.cls ≠ "java/lang/invoke/VarHandle" ∧ (parseMethodDescriptor yX12_caseAt.desc).map (fun d => d.parameters.length) = some 3 := by decide +kernel
theorem hs_X12_caseAt : yX12_caseAt.cls ≠ "java/lang/invoke/MethodHandle" ∧ yX12_caseAt.cls ≠ "java/lang/invoke/VarHandle" ∧ (parseMethodDescriptor yX12_caseAt.desc).map (fun d => d.parameters.length) = some 3 := by decide +kernel
set_option maxHeartbeats 4000000 in
set_option maxRecDepth 100000 in
theorem k_X12_caseAt (l : Launch) (hls : l.stackTraces = false) (E : Ev) (K : Kd) (z : Nat) (o : Nat) (a_1 : Int32) (a_2 : Int32) (a_3 : Int32) (w : Wd) (ho : K o = some (10, 0)) {r : Int32 ⊕ Nat} {w' : Wd} (hf : f_X12_caseAt K o a_1 a_2 a_3 w = some (r, w')) : vx_Met l yX12_caseAt (Cond.code yX12_caseAt cX12_caseAt 4 (Option.some Jvm.ClassFile.FieldType.int) :: bt) ({ frames := 7, cells := 3, slots := 18, locals := 112 } : Room) (va_Pc [rv E (some o), .int a_1, .int a_2, .int a_3] (HB E K w z)) (XI E K z w' r) (XX E K w' r) 3 18 (hA E) := by
  refine vx_ofW (cc := cX12_caseAt) (maxL := 4) (ret := (Option.some Jvm.ClassFile.FieldType.int)) (by decide) rfl ?_
  intro p e s m args below meth c s₁ B hml hout hv
  obtain ⟨rfl, hz, hP, hKs, hT, hb0⟩ := hv
  have C : CX p l e s m _ meth c cX12_caseAt 4 RX12 (Option.some Jvm.ClassFile.FieldType.int) E := ⟨B.exec, B.bytes, hml, findClass_of_methodNamed B.named, fun w h => atoms_spec (ws := Cond.code yX12_caseAt cX12_caseAt 4 (Option.some Jvm.ClassFile.FieldType.int) :: bt) B.pre w (List.mem_cons_of_mem _ h), hKs, hT, by rw [hz]; exact hb0, B.notSynchronized, B.returns⟩
  have hH : HQ E K z w s s.heap [] := ⟨hP, va_S.rf, hz⟩
  obtain ⟨hx, hb, hml, hown, hts, hKs, hT, hb0, hlocks, hret⟩ := id C
  have hl := lv_entry [rv E (some o), .int a_1, .int a_2, .int a_3] (n := 4) (by simp [lg_len_nil, lg_len_i, lg_len_j, lg_len_q, lg_len_f, lg_len_d, lg_len_r])
  rw [lg_entry_eq]
  generalize (lg_sl [rv E (some o), .int a_1, .int a_2, .int a_3] ++ List.replicate (4 - (lg_sl [rv E (some o), .int a_1, .int a_2, .int a_3]).length) Slot.unset).toArray = ls at hl ⊢
  replace hl : lv_has ls 4 [(0, rv E (some o)), (1, .int a_1), (2, .int a_2), (3, .int a_3)] := by simpa only [lv_args, cat_q, cat_i, cat_j, reduceIte, Nat.reduceEqDiff, Nat.reduceAdd, Nat.zero_add] using hl
  generalize s.heap = H at hH ⊢
  unfold f_X12_caseAt at hf
  refine hl_aload_n hx hb dX12_caseAt_0 rfl (lv_at hl 0 rfl) ?_
  refine lv_iconst (v := 0) hx hb dX12_caseAt_1 (by decide) ?_
  refine lv_iload_n hx hb dX12_caseAt_2 rfl (lv_at hl 1 rfl) ?_
  obtain ⟨q1, hq1, hf⟩ := bnd hf
  refine hxV_v hx hb hml hown hts hKs hT hb0 hH (As := [.int 0, .int a_1]) (rest := []) (k_X12_requireExisting l hls E K H.size o 0 a_1 w ho hq1) (gV m5_91 m5_93 ms_37 m1_1 m5_94) hd_X12_requireExisting ⟨Nat.le_of_ble_eq_true rfl, Nat.le_of_ble_eq_true rfl, rfl, rfl⟩ rfl ho rfl rfl rfl hl.1 rfl rc0 rfl dX12_caseAt_3 ⟨Nat.le_of_ble_eq_true rfl, Nat.le_of_ble_eq_true rfl⟩ ⟨Nat.le_of_ble_eq_true rfl, Nat.le_of_ble_eq_true rfl⟩ hout hlocks (fun x hx9 => (fun h9 => ⟨(congrArg Prod.fst h9).symm, (congrArg Prod.snd h9).symm⟩) (Option.some.inj ((xk_inr hx9).symm.trans hf))) (fun v2 hv2 H locs hH => ?_)
  replace hf := (xk_inl hv2).symm.trans hf
  refine hl_aload_n hx hb dX12_caseAt_6 rfl (lv_at hl 0 rfl) ?_
  refine lv_iload_n hx hb dX12_caseAt_7 rfl (lv_at hl 2 rfl) ?_
  obtain ⟨q3, hq3, hf⟩ := bnd hf
  refine hxV_v hx hb hml hown hts hKs hT hb0 hH (As := [.int a_2]) (rest := []) (k_X12_requireDay l hls E K H.size o a_2 q1.2 ho hq3) (gV m5_55 m5_57 ms_34 m1_1 m5_58) hd_X12_requireDay ⟨Nat.le_of_ble_eq_true rfl, Nat.le_of_ble_eq_true rfl, rfl, rfl⟩ rfl ho rfl rfl rfl hl.1 rfl rc0 rfl dX12_caseAt_8 ⟨Nat.le_of_ble_eq_true rfl, Nat.le_of_ble_eq_true rfl⟩ ⟨Nat.le_of_ble_eq_true rfl, Nat.le_of_ble_eq_true rfl⟩ hout hlocks (fun x hx9 => (fun h9 => ⟨(congrArg Prod.fst h9).symm, (congrArg Prod.snd h9).symm⟩) (Option.some.inj ((xk_inr hx9).symm.trans hf))) (fun v4 hv4 H locs hH => ?_)
  replace hf := (xk_inl hv4).symm.trans hf
  refine hl_aload_n hx hb dX12_caseAt_11 rfl (lv_at hl 0 rfl) ?_
  refine lv_iload_n hx hb dX12_caseAt_12 rfl (lv_at hl 3 rfl) ?_
  obtain ⟨q5, hq5, hf⟩ := bnd hf
  refine hxV_v hx hb hml hown hts hKs hT hb0 hH (As := [.int a_3]) (rest := []) (k_X12_requireSlot l hls E K H.size o a_3 q3.2 ho hq5) (gV m5_169 m5_171 ms_38 m1_1 m5_172) hd_X12_requireSlot ⟨Nat.le_of_ble_eq_true rfl, Nat.le_of_ble_eq_true rfl, rfl, rfl⟩ rfl ho rfl rfl rfl hl.1 rfl rc0 rfl dX12_caseAt_13 ⟨Nat.le_of_ble_eq_true rfl, Nat.le_of_ble_eq_true rfl⟩ ⟨Nat.le_of_ble_eq_true rfl, Nat.le_of_ble_eq_true rfl⟩ hout hlocks (fun x hx9 => (fun h9 => ⟨(congrArg Prod.fst h9).symm, (congrArg Prod.snd h9).symm⟩) (Option.some.inj ((xk_inr hx9).symm.trans hf))) (fun v6 hv6 H locs hH => ?_)
  replace hf := (xk_inl hv6).symm.trans hf
  refine hl_aload_n hx hb dX12_caseAt_16 rfl (lv_at hl 0 rfl) ?_
  refine g12_5 hx hb hts hown hKs hH rfl ho m2_224 dX12_caseAt_17 ?_
  refine lv_iload_n hx hb dX12_caseAt_20 rfl (lv_at hl 1 rfl) ?_
  refine lv_iload_n hx hb dX12_caseAt_21 rfl (lv_at hl 2 rfl) ?_
  refine lv_iload_n hx hb dX12_caseAt_22 rfl (lv_at hl 3 rfl) ?_
  obtain ⟨a7, ha7, hf⟩ := bnd hf
  replace ha7 := chk_some ha7
  obtain ⟨q8, hq8, hf⟩ := bnd hf
  refine hcV_i hx hb hml hown hts hKs hT hb0 hH (As := [.int a_1, .int a_2, .int a_3]) (rest := []) (k_X10_caseTaking l E K H.size a7 a_1 a_2 a_3 q5.2 ha7.2 hq8) (gV m5_173 m5_174 m5_175 m1_12 m5_176) hd_X10_caseTaking ⟨Nat.le_of_ble_eq_true rfl, Nat.le_of_ble_eq_true rfl, rfl, rfl⟩ ha7.1 ha7.2 rfl rfl rfl hl.1 rfl rc0 rfl dX12_caseAt_23 ⟨Nat.le_of_ble_eq_true rfl, Nat.le_of_ble_eq_true rfl⟩ (fun H locs hH => ?_)
  exact hx_iret hx hb (Nat.le_of_ble_eq_true rfl) (Nat.le_of_ble_eq_true rfl) hret hf hH hlocks dX12_caseAt_26

theorem dX12_urgent_0 : decode cX12_urgent 0 = .ok (.aload_n 0, 1) := by decide +kernel
theorem dX12_urgent_1 : decode cX12_urgent 1 = .ok (.getfield 35, 3) := by decide +kernel
theorem dX12_urgent_4 : decode cX12_urgent 4 = .ok (.aload_n 0, 1) := by decide +kernel
theorem dX12_urgent_5 : decode cX12_urgent 5 = .ok (.getfield 63, 3) := by decide +kernel
theorem dX12_urgent_8 : decode cX12_urgent 8 = .ok (.invokevirtual 299, 3) := by decide +kernel
theorem dX12_urgent_11 : decode cX12_urgent 11 = .ok (.istore_n 2, 1) := by decide +kernel
theorem dX12_urgent_12 : decode cX12_urgent 12 = .ok (.iload_n 1, 1) := by decide +kernel
theorem dX12_urgent_13 : decode cX12_urgent 13 = .ok (.ifCond .lt 8, 3) := by decide +kernel
theorem dX12_urgent_16 : decode cX12_urgent 16 = .ok (.iload_n 1, 1) := by decide +kernel
theorem dX12_urgent_17 : decode cX12_urgent 17 = .ok (.iload_n 2, 1) := by decide +kernel
theorem dX12_urgent_18 : decode cX12_urgent 18 = .ok (.if_icmp .lt 11, 3) := by decide +kernel
theorem dX12_urgent_21 : decode cX12_urgent 21 = .ok (.new 303, 3) := by decide +kernel
theorem dX12_urgent_24 : decode cX12_urgent 24 = .ok (.dup, 1) := by decide +kernel
theorem dX12_urgent_25 : decode cX12_urgent 25 = .ok (.invokespecial 305, 3) := by decide +kernel
theorem dX12_urgent_28 : decode cX12_urgent 28 = .ok (.athrow, 1) := by decide +kernel
theorem dX12_urgent_29 : decode cX12_urgent 29 = .ok (.aload_n 0, 1) := by decide +kernel
theorem dX12_urgent_30 : decode cX12_urgent 30 = .ok (.getfield 63, 3) := by decide +kernel
theorem dX12_urgent_33 : decode cX12_urgent 33 = .ok (.iload_n 1, 1) := by decide +kernel
theorem dX12_urgent_34 : decode cX12_urgent 34 = .ok (.iaload, 1) := by decide +kernel
theorem dX12_urgent_35 : decode cX12_urgent 35 = .ok (.ireturn, 1) := by decide +kernel
theorem hd_X12_urgent : yX12_urgent.cls = RX12 ∧ yX12_urgent.cls ≠ "java/lang/invoke/MethodHandle" ∧ yX12_urgent.cls ≠ "java/lang/invoke/VarHandle" ∧ (parseMethodDescriptor yX12_urgent.desc).map (fun d => d.parameters.length) = some 1 := by decide +kernel
theorem hs_X12_urgent : yX12_urgent.cls ≠ "java/lang/invoke/MethodHandle" ∧ yX12_urgent.cls ≠ "java/lang/invoke/VarHandle" ∧ (parseMethodDescriptor yX12_urgent.desc).map (fun d => d.parameters.length) = some 1 := by decide +kernel
set_option maxHeartbeats 4000000 in
set_option maxRecDepth 100000 in
theorem k_X12_urgent (l : Launch) (hls : l.stackTraces = false) (E : Ev) (K : Kd) (z : Nat) (o : Nat) (a_1 : Int32) (w : Wd) (ho : K o = some (10, 0)) {r : Int32 ⊕ Nat} {w' : Wd} (hf : f_X12_urgent K o a_1 w = some (r, w')) : vx_Met l yX12_urgent (Cond.code yX12_urgent cX12_urgent 3 (Option.some Jvm.ClassFile.FieldType.int) :: bt) ({ frames := 6, cells := 1, slots := 6, locals := 111 } : Room) (va_Pc [rv E (some o), .int a_1] (HB E K w z)) (XI E K z w' r) (XX E K w' r) 1 6 (hA E) := by
  refine vx_ofW (cc := cX12_urgent) (maxL := 3) (ret := (Option.some Jvm.ClassFile.FieldType.int)) (by decide) rfl ?_
  intro p e s m args below meth c s₁ B hml hout hv
  obtain ⟨rfl, hz, hP, hKs, hT, hb0⟩ := hv
  have C : CX p l e s m _ meth c cX12_urgent 3 RX12 (Option.some Jvm.ClassFile.FieldType.int) E := ⟨B.exec, B.bytes, hml, findClass_of_methodNamed B.named, fun w h => atoms_spec (ws := Cond.code yX12_urgent cX12_urgent 3 (Option.some Jvm.ClassFile.FieldType.int) :: bt) B.pre w (List.mem_cons_of_mem _ h), hKs, hT, by rw [hz]; exact hb0, B.notSynchronized, B.returns⟩
  have hH : HQ E K z w s s.heap [] := ⟨hP, va_S.rf, hz⟩
  obtain ⟨hx, hb, hml, hown, hts, hKs, hT, hb0, hlocks, hret⟩ := id C
  have hl := lv_entry [rv E (some o), .int a_1] (n := 3) (by simp [lg_len_nil, lg_len_i, lg_len_j, lg_len_q, lg_len_f, lg_len_d, lg_len_r])
  rw [lg_entry_eq]
  generalize (lg_sl [rv E (some o), .int a_1] ++ List.replicate (3 - (lg_sl [rv E (some o), .int a_1]).length) Slot.unset).toArray = ls at hl ⊢
  replace hl : lv_has ls 3 [(0, rv E (some o)), (1, .int a_1)] := by simpa only [lv_args, cat_q, cat_i, cat_j, reduceIte, Nat.reduceEqDiff, Nat.reduceAdd, Nat.zero_add] using hl
  generalize s.heap = H at hH ⊢
  unfold f_X12_urgent at hf
  refine hl_aload_n hx hb dX12_urgent_0 rfl (lv_at hl 0 rfl) ?_
  refine g12_5 hx hb hts hown hKs hH rfl ho m2_224 dX12_urgent_1 ?_
  refine hl_aload_n hx hb dX12_urgent_4 rfl (lv_at hl 0 rfl) ?_
  refine g12_13 hx hb hts hown hKs hH rfl ho m2_232 dX12_urgent_5 ?_
  obtain ⟨a1, ha1, hf⟩ := bnd hf
  replace ha1 := chk_some ha1
  obtain ⟨q2, hq2, hf⟩ := bnd hf
  refine hcV_i hx hb hml hown hts hKs hT hb0 hH (As := [rv E (wR w 1213 o)]) (rest := []) (k_X10_sortWaiting l E K H.size a1 (wR w 1213 o) w ha1.2 hq2) (gV m6_1 m4_101 m4_102 m1_12 m4_103) hd_X10_sortWaiting ⟨Nat.le_of_ble_eq_true rfl, Nat.le_of_ble_eq_true rfl, rfl, rfl⟩ ha1.1 ha1.2 rfl rfl rfl hl.1 rfl rc0 rfl dX12_urgent_8 ⟨Nat.le_of_ble_eq_true rfl, Nat.le_of_ble_eq_true rfl⟩ (fun H locs hH => ?_)
  refine lv_istore_n (lv' := [(2, .int (q2.1)), (0, rv E (some o)), (1, .int a_1)]) hx hb dX12_urgent_11 rfl hl (by decide) rfl (fun ls hl => ?_)
  refine lv_iload_n hx hb dX12_urgent_12 rfl (lv_at hl 2 rfl) ?_
  refine lv_if_lt (tgt := 21) hx hb dX12_urgent_13 (by decide) (fun c3 => ?_) (fun c3 => ?_)
  · replace hf := (if_pos c3).symm.trans hf
    exact hx_throw hx hb hls (code := 4) hml hl.1 hown hts hKs hT hb0 hH (by decide) rfl m6_2 m1_30 hat_RX12_305 dX12_urgent_21 dX12_urgent_24 dX12_urgent_25 dX12_urgent_28 hout (Nat.le_of_ble_eq_true rfl) rc0 (Nat.le_of_ble_eq_true rfl) (Nat.le_of_ble_eq_true rfl) (Nat.le_of_ble_eq_true rfl) hlocks hf (Nat.le_of_ble_eq_true rfl) (Nat.le_of_ble_eq_true rfl)
  · replace hf := (if_neg c3).symm.trans hf
    refine lv_iload_n hx hb dX12_urgent_16 rfl (lv_at hl 2 rfl) ?_
    refine lv_iload_n hx hb dX12_urgent_17 rfl (lv_at hl 0 rfl) ?_
    refine lv_icmp_lt (tgt := 29) hx hb dX12_urgent_18 (by decide) (fun c4 => ?_) (fun c4 => ?_)
    · replace hf := (if_pos c4).symm.trans hf
      refine hl_aload_n hx hb dX12_urgent_29 rfl (lv_at hl 1 rfl) ?_
      refine g12_13 hx hb hts hown hKs hH rfl ho m2_232 dX12_urgent_30 ?_
      refine lv_iload_n hx hb dX12_urgent_33 rfl (lv_at hl 2 rfl) ?_
      obtain ⟨a5, ha5, hf⟩ := bnd hf
      replace ha5 := cha_some ha5
      obtain ⟨j6, hj6, hf⟩ := bnd hf
      refine hw_iald hx hb hKs hH ha5.1 ha5.2 hj6 dX12_urgent_34 ?_
      exact hx_iret hx hb (Nat.le_of_ble_eq_true rfl) (Nat.le_of_ble_eq_true rfl) hret hf hH hlocks dX12_urgent_35
    · replace hf := (if_neg c4).symm.trans hf
      exact hx_throw hx hb hls (code := 4) hml hl.1 hown hts hKs hT hb0 hH (by decide) rfl m6_2 m1_30 hat_RX12_305 dX12_urgent_21 dX12_urgent_24 dX12_urgent_25 dX12_urgent_28 hout (Nat.le_of_ble_eq_true rfl) rc0 (Nat.le_of_ble_eq_true rfl) (Nat.le_of_ble_eq_true rfl) (Nat.le_of_ble_eq_true rfl) hlocks hf (Nat.le_of_ble_eq_true rfl) (Nat.le_of_ble_eq_true rfl)

theorem dX12_slack_0 : decode cX12_slack 0 = .ok (.aload_n 0, 1) := by decide +kernel
theorem dX12_slack_1 : decode cX12_slack 1 = .ok (.iconst 3, 1) := by decide +kernel
theorem dX12_slack_2 : decode cX12_slack 2 = .ok (.iload_n 1, 1) := by decide +kernel
theorem dX12_slack_3 : decode cX12_slack 3 = .ok (.invokevirtual 175, 3) := by decide +kernel
theorem dX12_slack_6 : decode cX12_slack 6 = .ok (.aload_n 0, 1) := by decide +kernel
theorem dX12_slack_7 : decode cX12_slack 7 = .ok (.getfield 35, 3) := by decide +kernel
theorem dX12_slack_10 : decode cX12_slack 10 = .ok (.iload_n 1, 1) := by decide +kernel
theorem dX12_slack_11 : decode cX12_slack 11 = .ok (.invokevirtual 306, 3) := by decide +kernel
theorem dX12_slack_14 : decode cX12_slack 14 = .ok (.ireturn, 1) := by decide +kernel
theorem hd_X12_slack : yX12_slack.cls = RX12 ∧ yX12_slack.cls ≠ "java/lang/invoke/MethodHandle" ∧ yX12_slack.cls ≠ "java/lang/invoke/VarHandle" ∧ (parseMethodDescriptor yX12_slack.desc).map (fun d => d.parameters.length) = some 1 := by decide +kernel
theorem hs_X12_slack : yX12_slack.cls ≠ "java/lang/invoke/MethodHandle" ∧ yX12_slack.cls ≠ "java/lang/invoke/VarHandle" ∧ (parseMethodDescriptor yX12_slack.desc).map (fun d => d.parameters.length) = some 1 := by decide +kernel
set_option maxHeartbeats 4000000 in
set_option maxRecDepth 100000 in
theorem k_X12_slack (l : Launch) (hls : l.stackTraces = false) (E : Ev) (K : Kd) (z : Nat) (o : Nat) (a_1 : Int32) (w : Wd) (ho : K o = some (10, 0)) {r : Int32 ⊕ Nat} {w' : Wd} (hf : f_X12_slack K o a_1 w = some (r, w')) : vx_Met l yX12_slack (Cond.code yX12_slack cX12_slack 2 (Option.some Jvm.ClassFile.FieldType.int) :: bt) ({ frames := 7, cells := 1, slots := 6, locals := 112 } : Room) (va_Pc [rv E (some o), .int a_1] (HB E K w z)) (XI E K z w' r) (XX E K w' r) 1 6 (hA E) := by
  refine vx_ofW (cc := cX12_slack) (maxL := 2) (ret := (Option.some Jvm.ClassFile.FieldType.int)) (by decide) rfl ?_
  intro p e s m args below meth c s₁ B hml hout hv
  obtain ⟨rfl, hz, hP, hKs, hT, hb0⟩ := hv
  have C : CX p l e s m _ meth c cX12_slack 2 RX12 (Option.some Jvm.ClassFile.FieldType.int) E := ⟨B.exec, B.bytes, hml, findClass_of_methodNamed B.named, fun w h => atoms_spec (ws := Cond.code yX12_slack cX12_slack 2 (Option.some Jvm.ClassFile.FieldType.int) :: bt) B.pre w (List.mem_cons_of_mem _ h), hKs, hT, by rw [hz]; exact hb0, B.notSynchronized, B.returns⟩
  have hH : HQ E K z w s s.heap [] := ⟨hP, va_S.rf, hz⟩
  obtain ⟨hx, hb, hml, hown, hts, hKs, hT, hb0, hlocks, hret⟩ := id C
  have hl := lv_entry [rv E (some o), .int a_1] (n := 2) (by simp [lg_len_nil, lg_len_i, lg_len_j, lg_len_q, lg_len_f, lg_len_d, lg_len_r])
  rw [lg_entry_eq]
  generalize (lg_sl [rv E (some o), .int a_1] ++ List.replicate (2 - (lg_sl [rv E (some o), .int a_1]).length) Slot.unset).toArray = ls at hl ⊢
  replace hl : lv_has ls 2 [(0, rv E (some o)), (1, .int a_1)] := by simpa only [lv_args, cat_q, cat_i, cat_j, reduceIte, Nat.reduceEqDiff, Nat.reduceAdd, Nat.zero_add] using hl
  generalize s.heap = H at hH ⊢
  unfold f_X12_slack at hf
  refine hl_aload_n hx hb dX12_slack_0 rfl (lv_at hl 0 rfl) ?_
  refine lv_iconst (v := 3) hx hb dX12_slack_1 (by decide) ?_
  refine lv_iload_n hx hb dX12_slack_2 rfl (lv_at hl 1 rfl) ?_
  obtain ⟨q1, hq1, hf⟩ := bnd hf
  refine hxV_v hx hb hml hown hts hKs hT hb0 hH (As := [.int 3, .int a_1]) (rest := []) (k_X12_requireExisting l hls E K H.size o 3 a_1 w ho hq1) (gV m5_91 m5_93 ms_37 m1_1 m5_94) hd_X12_requireExisting ⟨Nat.le_of_ble_eq_true rfl, Nat.le_of_ble_eq_true rfl, rfl, rfl⟩ rfl ho rfl rfl rfl hl.1 rfl rc0 rfl dX12_slack_3 ⟨Nat.le_of_ble_eq_true rfl, Nat.le_of_ble_eq_true rfl⟩ ⟨Nat.le_of_ble_eq_true rfl, Nat.le_of_ble_eq_true rfl⟩ hout hlocks (fun x hx9 => (fun h9 => ⟨(congrArg Prod.fst h9).symm, (congrArg Prod.snd h9).symm⟩) (Option.some.inj ((xk_inr hx9).symm.trans hf))) (fun v2 hv2 H locs hH => ?_)
  replace hf := (xk_inl hv2).symm.trans hf
  refine hl_aload_n hx hb dX12_slack_6 rfl (lv_at hl 0 rfl) ?_
  refine g12_5 hx hb hts hown hKs hH rfl ho m2_224 dX12_slack_7 ?_
  refine lv_iload_n hx hb dX12_slack_10 rfl (lv_at hl 1 rfl) ?_
  obtain ⟨a3, ha3, hf⟩ := bnd hf
  replace ha3 := chk_some ha3
  obtain ⟨q4, hq4, hf⟩ := bnd hf
  refine hcV_i hx hb hml hown hts hKs hT hb0 hH (As := [.int a_1]) (rest := []) (k_X10_slackOf l E K H.size a3 a_1 q1.2 ha3.2 hq4) (gV m4_62 m4_63 m4_64 m1_12 m4_65) hd_X10_slackOf ⟨Nat.le_of_ble_eq_true rfl, Nat.le_of_ble_eq_true rfl, rfl, rfl⟩ ha3.1 ha3.2 rfl rfl rfl hl.1 rfl rc0 rfl dX12_slack_11 ⟨Nat.le_of_ble_eq_true rfl, Nat.le_of_ble_eq_true rfl⟩ (fun H locs hH => ?_)
  exact hx_iret hx hb (Nat.le_of_ble_eq_true rfl) (Nat.le_of_ble_eq_true rfl) hret hf hH hlocks dX12_slack_14

theorem dX12_eligible_0 : decode cX12_eligible 0 = .ok (.aload_n 0, 1) := by decide +kernel
theorem dX12_eligible_1 : decode cX12_eligible 1 = .ok (.iconst 3, 1) := by decide +kernel
theorem dX12_eligible_2 : decode cX12_eligible 2 = .ok (.iload_n 1, 1) := by decide +kernel
theorem dX12_eligible_3 : decode cX12_eligible 3 = .ok (.invokevirtual 175, 3) := by decide +kernel
theorem dX12_eligible_6 : decode cX12_eligible 6 = .ok (.aload_n 0, 1) := by decide +kernel
theorem dX12_eligible_7 : decode cX12_eligible 7 = .ok (.getfield 35, 3) := by decide +kernel
theorem dX12_eligible_10 : decode cX12_eligible 10 = .ok (.getfield 87, 3) := by decide +kernel
theorem dX12_eligible_13 : decode cX12_eligible 13 = .ok (.iconst 1, 1) := by decide +kernel
theorem dX12_eligible_14 : decode cX12_eligible 14 = .ok (.invokevirtual 105, 3) := by decide +kernel
theorem dX12_eligible_17 : decode cX12_eligible 17 = .ok (.invokestatic 309, 3) := by decide +kernel
theorem dX12_eligible_20 : decode cX12_eligible 20 = .ok (.aload_n 0, 1) := by decide +kernel
theorem dX12_eligible_21 : decode cX12_eligible 21 = .ok (.getfield 35, 3) := by decide +kernel
theorem dX12_eligible_24 : decode cX12_eligible 24 = .ok (.iload_n 1, 1) := by decide +kernel
theorem dX12_eligible_25 : decode cX12_eligible 25 = .ok (.invokevirtual 200, 3) := by decide +kernel
theorem dX12_eligible_28 : decode cX12_eligible 28 = .ok (.iconst (-1), 1) := by decide +kernel
theorem dX12_eligible_29 : decode cX12_eligible 29 = .ok (.ixor, 1) := by decide +kernel
theorem dX12_eligible_30 : decode cX12_eligible 30 = .ok (.iand, 1) := by decide +kernel
theorem dX12_eligible_31 : decode cX12_eligible 31 = .ok (.ireturn, 1) := by decide +kernel
theorem hd_X12_eligible : yX12_eligible.cls = RX12 ∧ yX12_eligible.cls ≠ "java/lang/invoke/MethodHandle" ∧ yX12_eligible.cls ≠ "java/lang/invoke/VarHandle" ∧ (parseMethodDescriptor yX12_eligible.desc).map (fun d => d.parameters.length) = some 1 := by decide +kernel
theorem hs_X12_eligible : yX12_eligible.cls ≠ "java/lang/invoke/MethodHandle" ∧ yX12_eligible.cls ≠ "java/lang/invoke/VarHandle" ∧ (parseMethodDescriptor yX12_eligible.desc).map (fun d => d.parameters.length) = some 1 := by decide +kernel
set_option maxHeartbeats 4000000 in
set_option maxRecDepth 100000 in
theorem k_X12_eligible (l : Launch) (hls : l.stackTraces = false) (E : Ev) (K : Kd) (z : Nat) (o : Nat) (a_1 : Int32) (w : Wd) (ho : K o = some (10, 0)) {r : Int32 ⊕ Nat} {w' : Wd} (hf : f_X12_eligible K o a_1 w = some (r, w')) : vx_Met l yX12_eligible (Cond.code yX12_eligible cX12_eligible 2 (Option.some Jvm.ClassFile.FieldType.int) :: bt) ({ frames := 7, cells := 1, slots := 6, locals := 112 } : Room) (va_Pc [rv E (some o), .int a_1] (HB E K w z)) (XI E K z w' r) (XX E K w' r) 1 6 (hA E) := by
  refine vx_ofW (cc := cX12_eligible) (maxL := 2) (ret := (Option.some Jvm.ClassFile.FieldType.int)) (by decide) rfl ?_
  intro p e s m args below meth c s₁ B hml hout hv
  obtain ⟨rfl, hz, hP, hKs, hT, hb0⟩ := hv
  have C : CX p l e s m _ meth c cX12_eligible 2 RX12 (Option.some Jvm.ClassFile.FieldType.int) E := ⟨B.exec, B.bytes, hml, findClass_of_methodNamed B.named, fun w h => atoms_spec (ws := Cond.code yX12_eligible cX12_eligible 2 (Option.some Jvm.ClassFile.FieldType.int) :: bt) B.pre w (List.mem_cons_of_mem _ h), hKs, hT, by rw [hz]; exact hb0, B.notSynchronized, B.returns⟩
  have hH : HQ E K z w s s.heap [] := ⟨hP, va_S.rf, hz⟩
  obtain ⟨hx, hb, hml, hown, hts, hKs, hT, hb0, hlocks, hret⟩ := id C
  have hl := lv_entry [rv E (some o), .int a_1] (n := 2) (by simp [lg_len_nil, lg_len_i, lg_len_j, lg_len_q, lg_len_f, lg_len_d, lg_len_r])
  rw [lg_entry_eq]
  generalize (lg_sl [rv E (some o), .int a_1] ++ List.replicate (2 - (lg_sl [rv E (some o), .int a_1]).length) Slot.unset).toArray = ls at hl ⊢
  replace hl : lv_has ls 2 [(0, rv E (some o)), (1, .int a_1)] := by simpa only [lv_args, cat_q, cat_i, cat_j, reduceIte, Nat.reduceEqDiff, Nat.reduceAdd, Nat.zero_add] using hl
  generalize s.heap = H at hH ⊢
  unfold f_X12_eligible at hf
  refine hl_aload_n hx hb dX12_eligible_0 rfl (lv_at hl 0 rfl) ?_
  refine lv_iconst (v := 3) hx hb dX12_eligible_1 (by decide) ?_
  refine lv_iload_n hx hb dX12_eligible_2 rfl (lv_at hl 1 rfl) ?_
  obtain ⟨q1, hq1, hf⟩ := bnd hf
  refine hxV_v hx hb hml hown hts hKs hT hb0 hH (As := [.int 3, .int a_1]) (rest := []) (k_X12_requireExisting l hls E K H.size o 3 a_1 w ho hq1) (gV m5_91 m5_93 ms_37 m1_1 m5_94) hd_X12_requireExisting ⟨Nat.le_of_ble_eq_true rfl, Nat.le_of_ble_eq_true rfl, rfl, rfl⟩ rfl ho rfl rfl rfl hl.1 rfl rc0 rfl dX12_eligible_3 ⟨Nat.le_of_ble_eq_true rfl, Nat.le_of_ble_eq_true rfl⟩ ⟨Nat.le_of_ble_eq_true rfl, Nat.le_of_ble_eq_true rfl⟩ hout hlocks (fun x hx9 => (fun h9 => ⟨(congrArg Prod.fst h9).symm, (congrArg Prod.snd h9).symm⟩) (Option.some.inj ((xk_inr hx9).symm.trans hf))) (fun v2 hv2 H locs hH => ?_)
  replace hf := (xk_inl hv2).symm.trans hf
  refine hl_aload_n hx hb dX12_eligible_6 rfl (lv_at hl 0 rfl) ?_
  refine g12_5 hx hb hts hown hKs hH rfl ho m2_224 dX12_eligible_7 ?_
  obtain ⟨a3, ha3, hf⟩ := bnd hf
  replace ha3 := chk_some ha3
  refine gn10_0 hx hb hts hown hKs hH ha3.1 ha3.2 m2_122 dX12_eligible_10 ?_
  refine lv_iconst (v := 1) hx hb dX12_eligible_13 (by decide) ?_
  obtain ⟨a4, ha4, hf⟩ := bnd hf
  replace ha4 := chk_some ha4
  obtain ⟨q5, hq5, hf⟩ := bnd hf
  refine hcV_i hx hb hml hown hts hKs hT hb0 hH (As := [.int 1]) (rest := []) (k_X9_size l E K H.size a4 1 q1.2 ha4.2 hq5) (gV m3_229 m3_151 m3_152 m1_2 m3_153) hd_X9_size ⟨Nat.le_of_ble_eq_true rfl, Nat.le_of_ble_eq_true rfl, rfl, rfl⟩ ha4.1 ha4.2 rfl rfl rfl hl.1 rfl rc0 rfl dX12_eligible_14 ⟨Nat.le_of_ble_eq_true rfl, Nat.le_of_ble_eq_true rfl⟩ (fun H locs hH => ?_)
  obtain ⟨q6, hq6, hf⟩ := bnd hf
  refine hcS_i hx hb hml hown hts hKs hT hb0 hH (As := [.int (q5.1)]) (rest := []) (k_X12_allOf l E K H.size q5.1 q5.2 hq6) (gS m6_31 m4_38 m1_1 m4_39) hs_X12_allOf ⟨Nat.le_of_ble_eq_true rfl, Nat.le_of_ble_eq_true rfl, rfl, rfl⟩ hl.1 rfl rc0 rfl dX12_eligible_17 ⟨Nat.le_of_ble_eq_true rfl, Nat.le_of_ble_eq_true rfl⟩ (fun H locs hH => ?_)
  refine hl_aload_n hx hb dX12_eligible_20 rfl (lv_at hl 0 rfl) ?_
  refine g12_5 hx hb hts hown hKs hH rfl ho m2_224 dX12_eligible_21 ?_
  refine lv_iload_n hx hb dX12_eligible_24 rfl (lv_at hl 1 rfl) ?_
  obtain ⟨a7, ha7, hf⟩ := bnd hf
  replace ha7 := chk_some ha7
  obtain ⟨q8, hq8, hf⟩ := bnd hf
  refine hcV_i hx hb hml hown hts hKs hT hb0 hH (As := [.int a_1]) (rest := [.int (q6.1)]) (k_X10_barredOfficers l E K H.size a7 a_1 q6.2 ha7.2 hq8) (gV m5_129 m4_120 m4_121 m1_12 m4_122) hd_X10_barredOfficers ⟨Nat.le_of_ble_eq_true rfl, Nat.le_of_ble_eq_true rfl, rfl, rfl⟩ ha7.1 ha7.2 rfl rfl rfl hl.1 rfl (rcI rc0) rfl dX12_eligible_25 ⟨Nat.le_of_ble_eq_true rfl, Nat.le_of_ble_eq_true rfl⟩ (fun H locs hH => ?_)
  refine lv_iconst (v := (-1)) hx hb dX12_eligible_28 (by decide) ?_
  refine lv_ixor hx hb dX12_eligible_29 ?_
  refine lv_iand hx hb dX12_eligible_30 ?_
  exact hx_iret hx hb (Nat.le_of_ble_eq_true rfl) (Nat.le_of_ble_eq_true rfl) hret hf hH hlocks dX12_eligible_31

theorem dX12_usage_0 : decode cX12_usage 0 = .ok (.aload_n 0, 1) := by decide +kernel
theorem dX12_usage_1 : decode cX12_usage 1 = .ok (.iconst 0, 1) := by decide +kernel
theorem dX12_usage_2 : decode cX12_usage 2 = .ok (.iload_n 1, 1) := by decide +kernel
theorem dX12_usage_3 : decode cX12_usage 3 = .ok (.invokevirtual 175, 3) := by decide +kernel
theorem dX12_usage_6 : decode cX12_usage 6 = .ok (.aload_n 0, 1) := by decide +kernel
theorem dX12_usage_7 : decode cX12_usage 7 = .ok (.iload_n 2, 1) := by decide +kernel
theorem dX12_usage_8 : decode cX12_usage 8 = .ok (.iload_n 3, 1) := by decide +kernel
theorem dX12_usage_9 : decode cX12_usage 9 = .ok (.invokevirtual 161, 3) := by decide +kernel
theorem dX12_usage_12 : decode cX12_usage 12 = .ok (.aload_n 0, 1) := by decide +kernel
theorem dX12_usage_13 : decode cX12_usage 13 = .ok (.getfield 35, 3) := by decide +kernel
theorem dX12_usage_16 : decode cX12_usage 16 = .ok (.getfield 87, 3) := by decide +kernel
theorem dX12_usage_19 : decode cX12_usage 19 = .ok (.getfield 316, 3) := by decide +kernel
theorem dX12_usage_22 : decode cX12_usage 22 = .ok (.iload_n 1, 1) := by decide +kernel
theorem dX12_usage_23 : decode cX12_usage 23 = .ok (.iaload, 1) := by decide +kernel
theorem dX12_usage_24 : decode cX12_usage 24 = .ok (.invokestatic 248, 3) := by decide +kernel
theorem dX12_usage_27 : decode cX12_usage 27 = .ok (.aload_n 0, 1) := by decide +kernel
theorem dX12_usage_28 : decode cX12_usage 28 = .ok (.getfield 35, 3) := by decide +kernel
theorem dX12_usage_31 : decode cX12_usage 31 = .ok (.iload_n 2, 1) := by decide +kernel
theorem dX12_usage_32 : decode cX12_usage 32 = .ok (.iload_n 3, 1) := by decide +kernel
theorem dX12_usage_33 : decode cX12_usage 33 = .ok (.invokevirtual 165, 3) := by decide +kernel
theorem dX12_usage_36 : decode cX12_usage 36 = .ok (.imul, 1) := by decide +kernel
theorem dX12_usage_37 : decode cX12_usage 37 = .ok (.istore 4, 2) := by decide +kernel
theorem dX12_usage_39 : decode cX12_usage 39 = .ok (.iload 4, 2) := by decide +kernel
theorem dX12_usage_41 : decode cX12_usage 41 = .ok (.ifCond .ne 7, 3) := by decide +kernel
theorem dX12_usage_44 : decode cX12_usage 44 = .ok (.fconst 0, 1) := by decide +kernel
theorem dX12_usage_45 : decode cX12_usage 45 = .ok (.goto 18, 3) := by decide +kernel
theorem dX12_usage_48 : decode cX12_usage 48 = .ok (.aload_n 0, 1) := by decide +kernel
theorem dX12_usage_49 : decode cX12_usage 49 = .ok (.getfield 35, 3) := by decide +kernel
theorem dX12_usage_52 : decode cX12_usage 52 = .ok (.iload_n 1, 1) := by decide +kernel
theorem dX12_usage_53 : decode cX12_usage 53 = .ok (.iload_n 2, 1) := by decide +kernel
theorem dX12_usage_54 : decode cX12_usage 54 = .ok (.iload_n 3, 1) := by decide +kernel
theorem dX12_usage_55 : decode cX12_usage 55 = .ok (.invokevirtual 319, 3) := by decide +kernel
theorem dX12_usage_58 : decode cX12_usage 58 = .ok (.i2f, 1) := by decide +kernel
theorem dX12_usage_59 : decode cX12_usage 59 = .ok (.iload 4, 2) := by decide +kernel
theorem dX12_usage_61 : decode cX12_usage 61 = .ok (.i2f, 1) := by decide +kernel
theorem dX12_usage_62 : decode cX12_usage 62 = .ok (.fdiv, 1) := by decide +kernel
theorem dX12_usage_63 : decode cX12_usage 63 = .ok (.freturn, 1) := by decide +kernel
theorem hd_X12_usage : yX12_usage.cls = RX12 ∧ yX12_usage.cls ≠ "java/lang/invoke/MethodHandle" ∧ yX12_usage.cls ≠ "java/lang/invoke/VarHandle" ∧ (parseMethodDescriptor yX12_usage.desc).map (fun d => d.parameters.length) = some 3 := by decide +kernel
theorem hs_X12_usage : yX12_usage.cls ≠ "java/lang/invoke/MethodHandle" ∧ yX12_usage.cls ≠ "java/lang/invoke/VarHandle" ∧ (parseMethodDescriptor yX12_usage.desc).map (fun d => d.parameters.length) = some 3 := by decide +kernel
set_option maxHeartbeats 4000000 in
set_option maxRecDepth 100000 in
theorem k_X12_usage (l : Launch) (hls : l.stackTraces = false) (E : Ev) (K : Kd) (z : Nat) (o : Nat) (a_1 : Int32) (a_2 : Int32) (a_3 : Int32) (w : Wd) (ho : K o = some (10, 0)) {r : UInt32 ⊕ Nat} {w' : Wd} (hf : f_X12_usage K o a_1 a_2 a_3 w = some (r, w')) : vx_Met l yX12_usage (Cond.code yX12_usage cX12_usage 5 (Option.some Jvm.ClassFile.FieldType.float) :: bt) ({ frames := 7, cells := 2, slots := 12, locals := 112 } : Room) (va_Pc [rv E (some o), .int a_1, .int a_2, .int a_3] (HB E K w z)) (XF E K z w' r) (XX E K w' r) 2 12 (hA E) := by
  refine vx_ofW (cc := cX12_usage) (maxL := 5) (ret := (Option.some Jvm.ClassFile.FieldType.float)) (by decide) rfl ?_
  intro p e s m args below meth c s₁ B hml hout hv
  obtain ⟨rfl, hz, hP, hKs, hT, hb0⟩ := hv
  have C : CX p l e s m _ meth c cX12_usage 5 RX12 (Option.some Jvm.ClassFile.FieldType.float) E := ⟨B.exec, B.bytes, hml, findClass_of_methodNamed B.named, fun w h => atoms_spec (ws := Cond.code yX12_usage cX12_usage 5 (Option.some Jvm.ClassFile.FieldType.float) :: bt) B.pre w (List.mem_cons_of_mem _ h), hKs, hT, by rw [hz]; exact hb0, B.notSynchronized, B.returns⟩
  have hH : HQ E K z w s s.heap [] := ⟨hP, va_S.rf, hz⟩
  obtain ⟨hx, hb, hml, hown, hts, hKs, hT, hb0, hlocks, hret⟩ := id C
  have hl := lv_entry [rv E (some o), .int a_1, .int a_2, .int a_3] (n := 5) (by simp [lg_len_nil, lg_len_i, lg_len_j, lg_len_q, lg_len_f, lg_len_d, lg_len_r])
  rw [lg_entry_eq]
  generalize (lg_sl [rv E (some o), .int a_1, .int a_2, .int a_3] ++ List.replicate (5 - (lg_sl [rv E (some o), .int a_1, .int a_2, .int a_3]).length) Slot.unset).toArray = ls at hl ⊢
  replace hl : lv_has ls 5 [(0, rv E (some o)), (1, .int a_1), (2, .int a_2), (3, .int a_3)] := by simpa only [lv_args, cat_q, cat_i, cat_j, reduceIte, Nat.reduceEqDiff, Nat.reduceAdd, Nat.zero_add] using hl
  generalize s.heap = H at hH ⊢
  unfold f_X12_usage at hf
  refine hl_aload_n hx hb dX12_usage_0 rfl (lv_at hl 0 rfl) ?_
  refine lv_iconst (v := 0) hx hb dX12_usage_1 (by decide) ?_
  refine lv_iload_n hx hb dX12_usage_2 rfl (lv_at hl 1 rfl) ?_
  obtain ⟨q1, hq1, hf⟩ := bnd hf
  refine hxV_v hx hb hml hown hts hKs hT hb0 hH (As := [.int 0, .int a_1]) (rest := []) (k_X12_requireExisting l hls E K H.size o 0 a_1 w ho hq1) (gV m5_91 m5_93 ms_37 m1_1 m5_94) hd_X12_requireExisting ⟨Nat.le_of_ble_eq_true rfl, Nat.le_of_ble_eq_true rfl, rfl, rfl⟩ rfl ho rfl rfl rfl hl.1 rfl rc0 rfl dX12_usage_3 ⟨Nat.le_of_ble_eq_true rfl, Nat.le_of_ble_eq_true rfl⟩ ⟨Nat.le_of_ble_eq_true rfl, Nat.le_of_ble_eq_true rfl⟩ hout hlocks (fun x hx9 => (fun h9 => ⟨(congrArg Prod.fst h9).symm, (congrArg Prod.snd h9).symm⟩) (Option.some.inj ((xk_inr hx9).symm.trans hf))) (fun v2 hv2 H locs hH => ?_)
  replace hf := (xk_inl hv2).symm.trans hf
  refine hl_aload_n hx hb dX12_usage_6 rfl (lv_at hl 0 rfl) ?_
  refine lv_iload_n hx hb dX12_usage_7 rfl (lv_at hl 2 rfl) ?_
  refine lv_iload_n hx hb dX12_usage_8 rfl (lv_at hl 3 rfl) ?_
  obtain ⟨q3, hq3, hf⟩ := bnd hf
  refine hxV_v hx hb hml hown hts hKs hT hb0 hH (As := [.int a_2, .int a_3]) (rest := []) (k_X12_requireSpan l hls E K H.size o a_2 a_3 q1.2 ho hq3) (gV m5_67 m5_69 ms_35 m1_1 m5_70) hd_X12_requireSpan ⟨Nat.le_of_ble_eq_true rfl, Nat.le_of_ble_eq_true rfl, rfl, rfl⟩ rfl ho rfl rfl rfl hl.1 rfl rc0 rfl dX12_usage_9 ⟨Nat.le_of_ble_eq_true rfl, Nat.le_of_ble_eq_true rfl⟩ ⟨Nat.le_of_ble_eq_true rfl, Nat.le_of_ble_eq_true rfl⟩ hout hlocks (fun x hx9 => (fun h9 => ⟨(congrArg Prod.fst h9).symm, (congrArg Prod.snd h9).symm⟩) (Option.some.inj ((xk_inr hx9).symm.trans hf))) (fun v4 hv4 H locs hH => ?_)
  replace hf := (xk_inl hv4).symm.trans hf
  refine hl_aload_n hx hb dX12_usage_12 rfl (lv_at hl 0 rfl) ?_
  refine g12_5 hx hb hts hown hKs hH rfl ho m2_224 dX12_usage_13 ?_
  obtain ⟨a5, ha5, hf⟩ := bnd hf
  replace ha5 := chk_some ha5
  refine gn10_0 hx hb hts hown hKs hH ha5.1 ha5.2 m2_122 dX12_usage_16 ?_
  obtain ⟨a6, ha6, hf⟩ := bnd hf
  replace ha6 := chk_some ha6
  refine gn9_1 hx hb hts hown hKs hH ha6.1 ha6.2 m1_156 dX12_usage_19 ?_
  refine lv_iload_n hx hb dX12_usage_22 rfl (lv_at hl 1 rfl) ?_
  obtain ⟨a7, ha7, hf⟩ := bnd hf
  replace ha7 := cha_some ha7
  obtain ⟨j8, hj8, hf⟩ := bnd hf
  refine hw_iald hx hb hKs hH ha7.1 ha7.2 hj8 dX12_usage_23 ?_
  obtain ⟨q9, hq9, hf⟩ := bnd hf
  refine hcS_i hx hb hml hown hts hKs hT hb0 hH (As := [.int ((aI q3.2 a7.1 j8))]) (rest := []) (k_J6_bitCount_0f7a4 l E K H.size (aI q3.2 a7.1 j8) q3.2 hq9) (gS m5_147 m4_8 m1_23 m4_9) hs_J6_bitCount_0f7a4 ⟨Nat.le_of_ble_eq_true rfl, Nat.le_of_ble_eq_true rfl, rfl, rfl⟩ hl.1 rfl rc0 rfl dX12_usage_24 ⟨Nat.le_of_ble_eq_true rfl, Nat.le_of_ble_eq_true rfl⟩ (fun H locs hH => ?_)
  refine hl_aload_n hx hb dX12_usage_27 rfl (lv_at hl 0 rfl) ?_
  refine g12_5 hx hb hts hown hKs hH rfl ho m2_224 dX12_usage_28 ?_
  refine lv_iload_n hx hb dX12_usage_31 rfl (lv_at hl 2 rfl) ?_
  refine lv_iload_n hx hb dX12_usage_32 rfl (lv_at hl 3 rfl) ?_
  obtain ⟨a10, ha10, hf⟩ := bnd hf
  replace ha10 := chk_some ha10
  obtain ⟨q11, hq11, hf⟩ := bnd hf
  refine hcV_i hx hb hml hown hts hKs hT hb0 hH (As := [.int a_2, .int a_3]) (rest := [.int (q9.1)]) (k_X10_countWorking l E K H.size a10 a_2 a_3 q9.2 ha10.2 hq11) (gV m5_71 m4_76 m4_77 m1_12 m4_78) hd_X10_countWorking ⟨Nat.le_of_ble_eq_true rfl, Nat.le_of_ble_eq_true rfl, rfl, rfl⟩ ha10.1 ha10.2 rfl rfl rfl hl.1 rfl (rcI rc0) rfl dX12_usage_33 ⟨Nat.le_of_ble_eq_true rfl, Nat.le_of_ble_eq_true rfl⟩ (fun H locs hH => ?_)
  refine lv_imul hx hb dX12_usage_36 ?_
  refine lv_istore (lv' := [(4, .int ((q9.1 * q11.1))), (0, rv E (some o)), (1, .int a_1), (2, .int a_2), (3, .int a_3)]) hx hb dX12_usage_37 hl (by decide) rfl (fun ls hl => ?_)
  refine lv_iload hx hb dX12_usage_39 (lv_at hl 0 rfl) ?_
  refine lv_if_ne (tgt := 48) hx hb dX12_usage_41 (by decide) (fun c12 => ?_) (fun c12 => ?_)
  · replace hf := (if_neg c12).symm.trans hf
    refine hl_aload_n hx hb dX12_usage_48 rfl (lv_at hl 1 rfl) ?_
    refine g12_5 hx hb hts hown hKs hH rfl ho m2_224 dX12_usage_49 ?_
    refine lv_iload_n hx hb dX12_usage_52 rfl (lv_at hl 2 rfl) ?_
    refine lv_iload_n hx hb dX12_usage_53 rfl (lv_at hl 3 rfl) ?_
    refine lv_iload_n hx hb dX12_usage_54 rfl (lv_at hl 4 rfl) ?_
    obtain ⟨a13, ha13, hf⟩ := bnd hf
    replace ha13 := chk_some ha13
    obtain ⟨q14, hq14, hf⟩ := bnd hf
    refine hcV_i hx hb hml hown hts hKs hT hb0 hH (As := [.int a_1, .int a_2, .int a_3]) (rest := []) (k_X10_countTaken l E K H.size a13 a_1 a_2 a_3 q11.2 ha13.2 hq14) (gV m6_39 m6_40 m6_41 m1_12 m6_42) hd_X10_countTaken ⟨Nat.le_of_ble_eq_true rfl, Nat.le_of_ble_eq_true rfl, rfl, rfl⟩ ha13.1 ha13.2 rfl rfl rfl hl.1 rfl rc0 rfl dX12_usage_55 ⟨Nat.le_of_ble_eq_true rfl, Nat.le_of_ble_eq_true rfl⟩ (fun H locs hH => ?_)
    refine lv_i2f hx hb dX12_usage_58 ?_
    refine lv_iload hx hb dX12_usage_59 (lv_at hl 0 rfl) ?_
    refine lv_i2f hx hb dX12_usage_61 ?_
    obtain ⟨_, hg15, hf⟩ := bnd hf
    refine lv_fdiv hx hb dX12_usage_62 (n32_ok (grd_some hg15)) ?_
    exact hx_fret hx hb (Nat.le_of_ble_eq_true rfl) (Nat.le_of_ble_eq_true rfl) hret hf hH hlocks dX12_usage_63
  · replace hf := (if_pos c12).symm.trans hf
    refine lv_fconst0 hx hb dX12_usage_44 ?_
    refine lv_goto (tgt := 63) hx hb dX12_usage_45 (by decide) ?_
    exact hx_fret hx hb (Nat.le_of_ble_eq_true rfl) (Nat.le_of_ble_eq_true rfl) hret hf hH hlocks dX12_usage_63

theorem dX12_pass_0 : decode cX12_pass 0 = .ok (.aload_n 0, 1) := by decide +kernel
theorem dX12_pass_1 : decode cX12_pass 1 = .ok (.iload_n 1, 1) := by decide +kernel
theorem dX12_pass_2 : decode cX12_pass 2 = .ok (.invokevirtual 322, 3) := by decide +kernel
theorem dX12_pass_5 : decode cX12_pass 5 = .ok (.aload_n 0, 1) := by decide +kernel
theorem dX12_pass_6 : decode cX12_pass 6 = .ok (.invokevirtual 325, 3) := by decide +kernel
theorem dX12_pass_9 : decode cX12_pass 9 = .ok (.aload_n 0, 1) := by decide +kernel
theorem dX12_pass_10 : decode cX12_pass 10 = .ok (.getfield 35, 3) := by decide +kernel
theorem dX12_pass_13 : decode cX12_pass 13 = .ok (.iload_n 1, 1) := by decide +kernel
theorem dX12_pass_14 : decode cX12_pass 14 = .ok (.invokevirtual 328, 3) := by decide +kernel
theorem dX12_pass_17 : decode cX12_pass 17 = .ok (.ireturn, 1) := by decide +kernel
theorem hd_X12_pass : yX12_pass.cls = RX12 ∧ yX12_pass.cls ≠ "java/lang/invoke/MethodHandle" ∧ yX12_pass.cls ≠ "java/lang/invoke/VarHandle" ∧ (parseMethodDescriptor yX12_pass.desc).map (fun d => d.parameters.length) = some 1 := by decide +kernel
theorem hs_X12_pass : yX12_pass.cls ≠ "java/lang/invoke/MethodHandle" ∧ yX12_pass.cls ≠ "java/lang/invoke/VarHandle" ∧ (parseMethodDescriptor yX12_pass.desc).map (fun d => d.parameters.length) = some 1 := by decide +kernel
set_option maxHeartbeats 4000000 in
set_option maxRecDepth 100000 in
theorem k_X12_pass (l : Launch) (hls : l.stackTraces = false) (E : Ev) (K : Kd) (z : Nat) (o : Nat) (a_1 : Int32) (w : Wd) (ho : K o = some (10, 0)) {r : Int32 ⊕ Nat} {w' : Wd} (hf : f_X12_pass K o a_1 w = some (r, w')) : vx_Met l yX12_pass (Cond.code yX12_pass cX12_pass 2 (Option.some Jvm.ClassFile.FieldType.int) :: bt) ({ frames := 7, cells := 1, slots := 6, locals := 125 } : Room) (va_Pc [rv E (some o), .int a_1] (HB E K w z)) (XI E K z w' r) (XX E K w' r) 1 6 (hA E) := by
  refine vx_ofW (cc := cX12_pass) (maxL := 2) (ret := (Option.some Jvm.ClassFile.FieldType.int)) (by decide) rfl ?_
  intro p e s m args below meth c s₁ B hml hout hv
  obtain ⟨rfl, hz, hP, hKs, hT, hb0⟩ := hv
  have C : CX p l e s m _ meth c cX12_pass 2 RX12 (Option.some Jvm.ClassFile.FieldType.int) E := ⟨B.exec, B.bytes, hml, findClass_of_methodNamed B.named, fun w h => atoms_spec (ws := Cond.code yX12_pass cX12_pass 2 (Option.some Jvm.ClassFile.FieldType.int) :: bt) B.pre w (List.mem_cons_of_mem _ h), hKs, hT, by rw [hz]; exact hb0, B.notSynchronized, B.returns⟩
  have hH : HQ E K z w s s.heap [] := ⟨hP, va_S.rf, hz⟩
  obtain ⟨hx, hb, hml, hown, hts, hKs, hT, hb0, hlocks, hret⟩ := id C
  have hl := lv_entry [rv E (some o), .int a_1] (n := 2) (by simp [lg_len_nil, lg_len_i, lg_len_j, lg_len_q, lg_len_f, lg_len_d, lg_len_r])
  rw [lg_entry_eq]
  generalize (lg_sl [rv E (some o), .int a_1] ++ List.replicate (2 - (lg_sl [rv E (some o), .int a_1]).length) Slot.unset).toArray = ls at hl ⊢
  replace hl : lv_has ls 2 [(0, rv E (some o)), (1, .int a_1)] := by simpa only [lv_args, cat_q, cat_i, cat_j, reduceIte, Nat.reduceEqDiff, Nat.reduceAdd, Nat.zero_add] using hl
  generalize s.heap = H at hH ⊢
  unfold f_X12_pass at hf
  refine hl_aload_n hx hb dX12_pass_0 rfl (lv_at hl 0 rfl) ?_
  refine lv_iload_n hx hb dX12_pass_1 rfl (lv_at hl 1 rfl) ?_
  obtain ⟨q1, hq1, hf⟩ := bnd hf
  refine hxV_v hx hb hml hown hts hKs hT hb0 hH (As := [.int a_1]) (rest := []) (k_X12_requirePassable l hls E K H.size o a_1 w ho hq1) (gV m6_50 m6_52 ms_41 m1_1 m6_53) hd_X12_requirePassable ⟨Nat.le_of_ble_eq_true rfl, Nat.le_of_ble_eq_true rfl, rfl, rfl⟩ rfl ho rfl rfl rfl hl.1 rfl rc0 rfl dX12_pass_2 ⟨Nat.le_of_ble_eq_true rfl, Nat.le_of_ble_eq_true rfl⟩ ⟨Nat.le_of_ble_eq_true rfl, Nat.le_of_ble_eq_true rfl⟩ hout hlocks (fun x hx9 => (fun h9 => ⟨(congrArg Prod.fst h9).symm, (congrArg Prod.snd h9).symm⟩) (Option.some.inj ((xk_inr hx9).symm.trans hf))) (fun v2 hv2 H locs hH => ?_)
  replace hf := (xk_inl hv2).symm.trans hf
  refine hl_aload_n hx hb dX12_pass_5 rfl (lv_at hl 0 rfl) ?_
  obtain ⟨q3, hq3, hf⟩ := bnd hf
  refine hcV_v hx hb hml hown hts hKs hT hb0 hH (As := []) (rest := []) (k_X12_remember l E K H.size o q1.2 ho hq3) (gV m4_83 m4_85 ms_24 m1_1 m4_86) hd_X12_remember ⟨Nat.le_of_ble_eq_true rfl, Nat.le_of_ble_eq_true rfl, rfl, rfl⟩ rfl ho rfl rfl rfl hl.1 rfl rc0 rfl dX12_pass_6 ⟨Nat.le_of_ble_eq_true rfl, Nat.le_of_ble_eq_true rfl⟩ (fun H locs hH => ?_)
  refine hl_aload_n hx hb dX12_pass_9 rfl (lv_at hl 0 rfl) ?_
  refine g12_5 hx hb hts hown hKs hH rfl ho m2_224 dX12_pass_10 ?_
  refine lv_iload_n hx hb dX12_pass_13 rfl (lv_at hl 1 rfl) ?_
  obtain ⟨a4, ha4, hf⟩ := bnd hf
  replace ha4 := chk_some ha4
  obtain ⟨q5, hq5, hf⟩ := bnd hf
  refine hcV_i hx hb hml hown hts hKs hT hb0 hH (As := [.int a_1]) (rest := []) (k_X10_passDays l E K H.size a4 a_1 q3 ha4.2 hq5) (gV m6_54 m6_55 m6_56 m1_12 m6_57) hd_X10_passDays ⟨Nat.le_of_ble_eq_true rfl, Nat.le_of_ble_eq_true rfl, rfl, rfl⟩ ha4.1 ha4.2 rfl rfl rfl hl.1 rfl rc0 rfl dX12_pass_14 ⟨Nat.le_of_ble_eq_true rfl, Nat.le_of_ble_eq_true rfl⟩ (fun H locs hH => ?_)
  exact hx_iret hx hb (Nat.le_of_ble_eq_true rfl) (Nat.le_of_ble_eq_true rfl) hret hf hH hlocks dX12_pass_17

theorem dX12_adjourn_0 : decode cX12_adjourn 0 = .ok (.aload_n 0, 1) := by decide +kernel
theorem dX12_adjourn_1 : decode cX12_adjourn 1 = .ok (.iconst 3, 1) := by decide +kernel
theorem dX12_adjourn_2 : decode cX12_adjourn 2 = .ok (.iload_n 1, 1) := by decide +kernel
theorem dX12_adjourn_3 : decode cX12_adjourn 3 = .ok (.invokevirtual 175, 3) := by decide +kernel
theorem dX12_adjourn_6 : decode cX12_adjourn 6 = .ok (.aload_n 0, 1) := by decide +kernel
theorem dX12_adjourn_7 : decode cX12_adjourn 7 = .ok (.iload_n 2, 1) := by decide +kernel
theorem dX12_adjourn_8 : decode cX12_adjourn 8 = .ok (.invokevirtual 169, 3) := by decide +kernel
theorem dX12_adjourn_11 : decode cX12_adjourn 11 = .ok (.aload_n 0, 1) := by decide +kernel
theorem dX12_adjourn_12 : decode cX12_adjourn 12 = .ok (.getfield 35, 3) := by decide +kernel
theorem dX12_adjourn_15 : decode cX12_adjourn 15 = .ok (.getfield 213, 3) := by decide +kernel
theorem dX12_adjourn_18 : decode cX12_adjourn 18 = .ok (.iload_n 1, 1) := by decide +kernel
theorem dX12_adjourn_19 : decode cX12_adjourn 19 = .ok (.aaload, 1) := by decide +kernel
theorem dX12_adjourn_20 : decode cX12_adjourn 20 = .ok (.astore_n 3, 1) := by decide +kernel
theorem dX12_adjourn_21 : decode cX12_adjourn 21 = .ok (.aload_n 3, 1) := by decide +kernel
theorem dX12_adjourn_22 : decode cX12_adjourn 22 = .ok (.getfield 236, 3) := by decide +kernel
theorem dX12_adjourn_25 : decode cX12_adjourn 25 = .ok (.iconst 1, 1) := by decide +kernel
theorem dX12_adjourn_26 : decode cX12_adjourn 26 = .ok (.if_icmp .ne 11, 3) := by decide +kernel
theorem dX12_adjourn_29 : decode cX12_adjourn 29 = .ok (.aload_n 3, 1) := by decide +kernel
theorem dX12_adjourn_30 : decode cX12_adjourn 30 = .ok (.getfield 242, 3) := by decide +kernel
theorem dX12_adjourn_33 : decode cX12_adjourn 33 = .ok (.iconst 5, 1) := by decide +kernel
theorem dX12_adjourn_34 : decode cX12_adjourn 34 = .ok (.if_icmp .lt 11, 3) := by decide +kernel
theorem dX12_adjourn_37 : decode cX12_adjourn 37 = .ok (.new 331, 3) := by decide +kernel
theorem dX12_adjourn_40 : decode cX12_adjourn 40 = .ok (.dup, 1) := by decide +kernel
theorem dX12_adjourn_41 : decode cX12_adjourn 41 = .ok (.invokespecial 333, 3) := by decide +kernel
theorem dX12_adjourn_44 : decode cX12_adjourn 44 = .ok (.athrow, 1) := by decide +kernel
theorem dX12_adjourn_45 : decode cX12_adjourn 45 = .ok (.aload_n 0, 1) := by decide +kernel
theorem dX12_adjourn_46 : decode cX12_adjourn 46 = .ok (.invokevirtual 325, 3) := by decide +kernel
theorem dX12_adjourn_49 : decode cX12_adjourn 49 = .ok (.aload_n 0, 1) := by decide +kernel
theorem dX12_adjourn_50 : decode cX12_adjourn 50 = .ok (.getfield 35, 3) := by decide +kernel
theorem dX12_adjourn_53 : decode cX12_adjourn 53 = .ok (.iload_n 1, 1) := by decide +kernel
theorem dX12_adjourn_54 : decode cX12_adjourn 54 = .ok (.iload_n 2, 1) := by decide +kernel
theorem dX12_adjourn_55 : decode cX12_adjourn 55 = .ok (.invokevirtual 345, 3) := by decide +kernel
theorem dX12_adjourn_58 : decode cX12_adjourn 58 = .ok (.aload_n 0, 1) := by decide +kernel
theorem dX12_adjourn_59 : decode cX12_adjourn 59 = .ok (.getfield 35, 3) := by decide +kernel
theorem dX12_adjourn_62 : decode cX12_adjourn 62 = .ok (.iload_n 1, 1) := by decide +kernel
theorem dX12_adjourn_63 : decode cX12_adjourn 63 = .ok (.invokevirtual 233, 3) := by decide +kernel
theorem dX12_adjourn_66 : decode cX12_adjourn 66 = .ok (.ireturn, 1) := by decide +kernel
theorem hd_X12_adjourn : yX12_adjourn.cls = RX12 ∧ yX12_adjourn.cls ≠ "java/lang/invoke/MethodHandle" ∧ yX12_adjourn.cls ≠ "java/lang/invoke/VarHandle" ∧ (parseMethodDescriptor yX12_adjourn.desc).map (fun d => d.parameters.length) = some 2 := by decide +kernel
theorem hs_X12_adjourn : yX12_adjourn.cls ≠ "java/lang/invoke/MethodHandle" ∧ yX12_adjourn.cls ≠ "java/lang/invoke/VarHandle" ∧ (parseMethodDescriptor yX12_adjourn.desc).map (fun d => d.parameters.length) = some 2 := by decide +kernel
set_option maxHeartbeats 4000000 in
set_option maxRecDepth 100000 in
theorem k_X12_adjourn (l : Launch) (hls : l.stackTraces = false) (E : Ev) (K : Kd) (z : Nat) (o : Nat) (a_1 : Int32) (a_2 : Int32) (w : Wd) (ho : K o = some (10, 0)) {r : Int32 ⊕ Nat} {w' : Wd} (hf : f_X12_adjourn K o a_1 a_2 w = some (r, w')) : vx_Met l yX12_adjourn (Cond.code yX12_adjourn cX12_adjourn 4 (Option.some Jvm.ClassFile.FieldType.int) :: bt) ({ frames := 7, cells := 3, slots := 18, locals := 125 } : Room) (va_Pc [rv E (some o), .int a_1, .int a_2] (HB E K w z)) (XI E K z w' r) (XX E K w' r) 3 18 (hA E) := by
  refine vx_ofW (cc := cX12_adjourn) (maxL := 4) (ret := (Option.some Jvm.ClassFile.FieldType.int)) (by decide) rfl ?_
  intro p e s m args below meth c s₁ B hml hout hv
  obtain ⟨rfl, hz, hP, hKs, hT, hb0⟩ := hv
  have C : CX p l e s m _ meth c cX12_adjourn 4 RX12 (Option.some Jvm.ClassFile.FieldType.int) E := ⟨B.exec, B.bytes, hml, findClass_of_methodNamed B.named, fun w h => atoms_spec (ws := Cond.code yX12_adjourn cX12_adjourn 4 (Option.some Jvm.ClassFile.FieldType.int) :: bt) B.pre w (List.mem_cons_of_mem _ h), hKs, hT, by rw [hz]; exact hb0, B.notSynchronized, B.returns⟩
  have hH : HQ E K z w s s.heap [] := ⟨hP, va_S.rf, hz⟩
  obtain ⟨hx, hb, hml, hown, hts, hKs, hT, hb0, hlocks, hret⟩ := id C
  have hl := lv_entry [rv E (some o), .int a_1, .int a_2] (n := 4) (by simp [lg_len_nil, lg_len_i, lg_len_j, lg_len_q, lg_len_f, lg_len_d, lg_len_r])
  rw [lg_entry_eq]
  generalize (lg_sl [rv E (some o), .int a_1, .int a_2] ++ List.replicate (4 - (lg_sl [rv E (some o), .int a_1, .int a_2]).length) Slot.unset).toArray = ls at hl ⊢
  replace hl : lv_has ls 4 [(0, rv E (some o)), (1, .int a_1), (2, .int a_2)] := by simpa only [lv_args, cat_q, cat_i, cat_j, reduceIte, Nat.reduceEqDiff, Nat.reduceAdd, Nat.zero_add] using hl
  generalize s.heap = H at hH ⊢
  unfold f_X12_adjourn at hf
  refine hl_aload_n hx hb dX12_adjourn_0 rfl (lv_at hl 0 rfl) ?_
  refine lv_iconst (v := 3) hx hb dX12_adjourn_1 (by decide) ?_
  refine lv_iload_n hx hb dX12_adjourn_2 rfl (lv_at hl 1 rfl) ?_
  obtain ⟨q1, hq1, hf⟩ := bnd hf
  refine hxV_v hx hb hml hown hts hKs hT hb0 hH (As := [.int 3, .int a_1]) (rest := []) (k_X12_requireExisting l hls E K H.size o 3 a_1 w ho hq1) (gV m5_91 m5_93 ms_37 m1_1 m5_94) hd_X12_requireExisting ⟨Nat.le_of_ble_eq_true rfl, Nat.le_of_ble_eq_true rfl, rfl, rfl⟩ rfl ho rfl rfl rfl hl.1 rfl rc0 rfl dX12_adjourn_3 ⟨Nat.le_of_ble_eq_true rfl, Nat.le_of_ble_eq_true rfl⟩ ⟨Nat.le_of_ble_eq_true rfl, Nat.le_of_ble_eq_true rfl⟩ hout hlocks (fun x hx9 => (fun h9 => ⟨(congrArg Prod.fst h9).symm, (congrArg Prod.snd h9).symm⟩) (Option.some.inj ((xk_inr hx9).symm.trans hf))) (fun v2 hv2 H locs hH => ?_)
  replace hf := (xk_inl hv2).symm.trans hf
  refine hl_aload_n hx hb dX12_adjourn_6 rfl (lv_at hl 0 rfl) ?_
  refine lv_iload_n hx hb dX12_adjourn_7 rfl (lv_at hl 2 rfl) ?_
  obtain ⟨q3, hq3, hf⟩ := bnd hf
  refine hxV_v hx hb hml hown hts hKs hT hb0 hH (As := [.int a_2]) (rest := []) (k_X12_requireReason l hls E K H.size o a_2 q1.2 ho hq3) (gV m5_79 m5_81 ms_36 m1_1 m5_82) hd_X12_requireReason ⟨Nat.le_of_ble_eq_true rfl, Nat.le_of_ble_eq_true rfl, rfl, rfl⟩ rfl ho rfl rfl rfl hl.1 rfl rc0 rfl dX12_adjourn_8 ⟨Nat.le_of_ble_eq_true rfl, Nat.le_of_ble_eq_true rfl⟩ ⟨Nat.le_of_ble_eq_true rfl, Nat.le_of_ble_eq_true rfl⟩ hout hlocks (fun x hx9 => (fun h9 => ⟨(congrArg Prod.fst h9).symm, (congrArg Prod.snd h9).symm⟩) (Option.some.inj ((xk_inr hx9).symm.trans hf))) (fun v4 hv4 H locs hH => ?_)
  replace hf := (xk_inl hv4).symm.trans hf
  refine hl_aload_n hx hb dX12_adjourn_11 rfl (lv_at hl 0 rfl) ?_
  refine g12_5 hx hb hts hown hKs hH rfl ho m2_224 dX12_adjourn_12 ?_
  obtain ⟨a5, ha5, hf⟩ := bnd hf
  replace ha5 := chk_some ha5
  refine gn10_5 hx hb hts hown hKs hH ha5.1 ha5.2 m2_135 dX12_adjourn_15 ?_
  refine lv_iload_n hx hb dX12_adjourn_18 rfl (lv_at hl 1 rfl) ?_
  obtain ⟨a6, ha6, hf⟩ := bnd hf
  replace ha6 := cha_some ha6
  obtain ⟨j7, hj7, hf⟩ := bnd hf
  refine hw_aald27 hx hb hKs hH ha6.1 ha6.2 hj7 dX12_adjourn_19 ?_
  refine hl_astore_n (lv' := [(3, rv E (aR q3.2 a6.1 j7)), (0, rv E (some o)), (1, .int a_1), (2, .int a_2)]) hx hb dX12_adjourn_20 rfl hl (by decide) rfl (fun ls hl => ?_)
  refine hl_aload_n hx hb dX12_adjourn_21 rfl (lv_at hl 0 rfl) ?_
  obtain ⟨a8, ha8, hf⟩ := bnd hf
  replace ha8 := chk_some ha8
  refine gn7_0 hx hb hts hown hKs hH ha8.1 ha8.2 m2_71 dX12_adjourn_22 ?_
  refine lv_iconst (v := 1) hx hb dX12_adjourn_25 (by decide) ?_
  refine lv_icmp_ne (tgt := 37) hx hb dX12_adjourn_26 (by decide) (fun c9 => ?_) (fun c9 => ?_)
  · replace hf := (if_neg c9).symm.trans hf
    exact hx_throw hx hb hls (code := 3) hml hl.1 hown hts hKs hT hb0 hH (by decide) rfl m5_195 m1_29 hat_RX12_333 dX12_adjourn_37 dX12_adjourn_40 dX12_adjourn_41 dX12_adjourn_44 hout (Nat.le_of_ble_eq_true rfl) rc0 (Nat.le_of_ble_eq_true rfl) (Nat.le_of_ble_eq_true rfl) (Nat.le_of_ble_eq_true rfl) hlocks hf (Nat.le_of_ble_eq_true rfl) (Nat.le_of_ble_eq_true rfl)
  · replace hf := (if_pos c9).symm.trans hf
    refine hl_aload_n hx hb dX12_adjourn_29 rfl (lv_at hl 0 rfl) ?_
    refine gn7_6 hx hb hts hown hKs hH ha8.1 ha8.2 m2_90 dX12_adjourn_30 ?_
    refine lv_iconst (v := 5) hx hb dX12_adjourn_33 (by decide) ?_
    refine lv_icmp_lt (tgt := 45) hx hb dX12_adjourn_34 (by decide) (fun c10 => ?_) (fun c10 => ?_)
    · replace hf := (if_pos c10).symm.trans hf
      refine hl_aload_n hx hb dX12_adjourn_45 rfl (lv_at hl 1 rfl) ?_
      obtain ⟨q11, hq11, hf⟩ := bnd hf
      refine hcV_v hx hb hml hown hts hKs hT hb0 hH (As := []) (rest := []) (k_X12_remember l E K H.size o q3.2 ho hq11) (gV m4_83 m4_85 ms_24 m1_1 m4_86) hd_X12_remember ⟨Nat.le_of_ble_eq_true rfl, Nat.le_of_ble_eq_true rfl, rfl, rfl⟩ rfl ho rfl rfl rfl hl.1 rfl rc0 rfl dX12_adjourn_46 ⟨Nat.le_of_ble_eq_true rfl, Nat.le_of_ble_eq_true rfl⟩ (fun H locs hH => ?_)
      refine hl_aload_n hx hb dX12_adjourn_49 rfl (lv_at hl 1 rfl) ?_
      refine g12_5 hx hb hts hown hKs hH rfl ho m2_224 dX12_adjourn_50 ?_
      refine lv_iload_n hx hb dX12_adjourn_53 rfl (lv_at hl 2 rfl) ?_
      refine lv_iload_n hx hb dX12_adjourn_54 rfl (lv_at hl 3 rfl) ?_
      obtain ⟨a12, ha12, hf⟩ := bnd hf
      replace ha12 := chk_some ha12
      obtain ⟨q13, hq13, hf⟩ := bnd hf
      refine hcV_v hx hb hml hown hts hKs hT hb0 hH (As := [.int a_1, .int a_2]) (rest := []) (k_X10_takeAway l E K H.size a12 a_1 a_2 q11 ha12.2 hq13) (gV m6_81 m6_82 m6_83 m1_12 m6_84) hd_X10_takeAway ⟨Nat.le_of_ble_eq_true rfl, Nat.le_of_ble_eq_true rfl, rfl, rfl⟩ ha12.1 ha12.2 rfl rfl rfl hl.1 rfl rc0 rfl dX12_adjourn_55 ⟨Nat.le_of_ble_eq_true rfl, Nat.le_of_ble_eq_true rfl⟩ (fun H locs hH => ?_)
      refine hl_aload_n hx hb dX12_adjourn_58 rfl (lv_at hl 1 rfl) ?_
      refine g12_5 hx hb hts hown hKs hH rfl ho m2_224 dX12_adjourn_59 ?_
      refine lv_iload_n hx hb dX12_adjourn_62 rfl (lv_at hl 2 rfl) ?_
      obtain ⟨a14, ha14, hf⟩ := bnd hf
      replace ha14 := chk_some ha14
      obtain ⟨q15, hq15, hf⟩ := bnd hf
      refine hcV_i hx hb hml hown hts hKs hT hb0 hH (As := [.int a_1]) (rest := []) (k_X10_limitDay l E K H.size a14 a_1 q13 ha14.2 hq15) (gV m5_146 m4_67 m4_68 m1_12 m4_69) hd_X10_limitDay ⟨Nat.le_of_ble_eq_true rfl, Nat.le_of_ble_eq_true rfl, rfl, rfl⟩ ha14.1 ha14.2 rfl rfl rfl hl.1 rfl rc0 rfl dX12_adjourn_63 ⟨Nat.le_of_ble_eq_true rfl, Nat.le_of_ble_eq_true rfl⟩ (fun H locs hH => ?_)
      exact hx_iret hx hb (Nat.le_of_ble_eq_true rfl) (Nat.le_of_ble_eq_true rfl) hret hf hH hlocks dX12_adjourn_66
    · replace hf := (if_neg c10).symm.trans hf
      exact hx_throw hx hb hls (code := 3) hml hl.1 hown hts hKs hT hb0 hH (by decide) rfl m5_195 m1_29 hat_RX12_333 dX12_adjourn_37 dX12_adjourn_40 dX12_adjourn_41 dX12_adjourn_44 hout (Nat.le_of_ble_eq_true rfl) rc0 (Nat.le_of_ble_eq_true rfl) (Nat.le_of_ble_eq_true rfl) (Nat.le_of_ble_eq_true rfl) hlocks hf (Nat.le_of_ble_eq_true rfl) (Nat.le_of_ble_eq_true rfl)
end
