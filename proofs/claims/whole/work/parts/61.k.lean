section
variable {p : Program} {l : Launch} {e : Env} {s : State} {m : MethodId} {args : Array Value} {below : List Frame} {meth : Method} {c : Code} {E : Ev} {K : Kd} {z : Nat}

theorem dX13_isWorking_0 : decode cX13_isWorking 0 = .ok (.iload_n 1, 1) := by decide +kernel
theorem dX13_isWorking_1 : decode cX13_isWorking 1 = .ok (.bipush 7, 2) := by decide +kernel
theorem dX13_isWorking_3 : decode cX13_isWorking 3 = .ok (.irem, 1) := by decide +kernel
theorem dX13_isWorking_4 : decode cX13_isWorking 4 = .ok (.iconst 5, 1) := by decide +kernel
theorem dX13_isWorking_5 : decode cX13_isWorking 5 = .ok (.if_icmp .ge 15, 3) := by decide +kernel
theorem dX13_isWorking_8 : decode cX13_isWorking 8 = .ok (.aload_n 0, 1) := by decide +kernel
theorem dX13_isWorking_9 : decode cX13_isWorking 9 = .ok (.iload_n 1, 1) := by decide +kernel
theorem dX13_isWorking_10 : decode cX13_isWorking 10 = .ok (.invokevirtual 114, 3) := by decide +kernel
theorem dX13_isWorking_13 : decode cX13_isWorking 13 = .ok (.ifCond .ne 7, 3) := by decide +kernel
theorem dX13_isWorking_16 : decode cX13_isWorking 16 = .ok (.iconst 1, 1) := by decide +kernel
theorem dX13_isWorking_17 : decode cX13_isWorking 17 = .ok (.goto 4, 3) := by decide +kernel
theorem dX13_isWorking_20 : decode cX13_isWorking 20 = .ok (.iconst 0, 1) := by decide +kernel
theorem dX13_isWorking_21 : decode cX13_isWorking 21 = .ok (.ireturn, 1) := by decide +kernel
theorem hd_X13_isWorking : yX13_isWorking.cls = RX13 ∧ yX13_isWorking.cls ≠ "java/lang/invoke/MethodHandle" ∧ yX13_isWorking.cls ≠ "java/lang/invoke/VarHandle" ∧ (parseMethodDescriptor yX13_isWorking.desc).map (fun d => d.parameters.length) = some 1 := by decide +kernel
theorem hs_X13_isWorking : yX13_isWorking.cls ≠ "java/lang/invoke/MethodHandle" ∧ yX13_isWorking.cls ≠ "java/lang/invoke/VarHandle" ∧ (parseMethodDescriptor yX13_isWorking.desc).map (fun d => d.parameters.length) = some 1 := by decide +kernel
set_option maxHeartbeats 4000000 in
set_option maxRecDepth 100000 in
theorem k_X13_isWorking (l : Launch) (E : Ev) (K : Kd) (z : Nat) (o : Nat) (a_1 : Int32) (w : Wd) (ho : K o = some (11, 0)) {r : Bool} {w' : Wd} (hf : f_X13_isWorking K o a_1 w = some (r, w')) : Met l yX13_isWorking (Cond.code yX13_isWorking cX13_isWorking 2 (Option.some Jvm.ClassFile.FieldType.boolean) :: bt) ({ frames := 1, cells := 0, slots := 0, locals := 22 } : Room) (va_Pc [rv E (some o), .int a_1] (HB E K w z)) (QI E K z w' (b2i r)) 0 0 (hA E) := by
  refine Met.ofW (cc := cX13_isWorking) (maxL := 2) (ret := (Option.some Jvm.ClassFile.FieldType.boolean)) (by decide) rfl ?_
  intro p e s m args below meth c s₁ B hml hv
  obtain ⟨rfl, hz, hP, hKs, hT, hb0⟩ := hv
  have C : CX p l e s m _ meth c cX13_isWorking 2 RX13 (Option.some Jvm.ClassFile.FieldType.boolean) E := ⟨B.exec, B.bytes, hml, findClass_of_methodNamed B.named, fun w h => atoms_spec (ws := Cond.code yX13_isWorking cX13_isWorking 2 (Option.some Jvm.ClassFile.FieldType.boolean) :: bt) B.pre w (List.mem_cons_of_mem _ h), hKs, hT, by rw [hz]; exact hb0, B.notSynchronized, B.returns⟩
  have hH : HQ E K z w s s.heap [] := ⟨hP, va_S.rf, hz⟩
  obtain ⟨hx, hb, hml, hown, hts, hKs, hT, hb0, hlocks, hret⟩ := id C
  have hl := lv_entry [rv E (some o), .int a_1] (n := 2) (by simp [lg_len_nil, lg_len_i, lg_len_j, lg_len_q, lg_len_f, lg_len_d, lg_len_r])
  rw [lg_entry_eq]
  generalize (lg_sl [rv E (some o), .int a_1] ++ List.replicate (2 - (lg_sl [rv E (some o), .int a_1]).length) Slot.unset).toArray = ls at hl ⊢
  replace hl : lv_has ls 2 [(0, rv E (some o)), (1, .int a_1)] := by simpa only [lv_args, cat_q, cat_i, cat_j, reduceIte, Nat.reduceEqDiff, Nat.reduceAdd, Nat.zero_add] using hl
  generalize s.heap = H at hH ⊢
  unfold f_X13_isWorking at hf
  refine lv_iload_n hx hb dX13_isWorking_0 rfl (lv_at hl 1 rfl) ?_
  refine lv_bipush (v := 7) hx hb dX13_isWorking_1 (by decide) ?_
  refine lv_irem hx hb dX13_isWorking_3 (by decide) ?_
  refine lv_iconst (v := 5) hx hb dX13_isWorking_4 (by decide) ?_
  refine lv_icmp_ge (tgt := 20) hx hb dX13_isWorking_5 (by decide) (fun c1 => ?_) (fun c1 => ?_)
  · replace hf := (if_pos c1).symm.trans hf
    refine lv_iconst (v := 0) hx hb dX13_isWorking_20 (by decide) ?_
    exact hw_zret hx hb hret rfl hf hH hlocks dX13_isWorking_21
  · replace hf := (if_neg c1).symm.trans hf
    refine hl_aload_n hx hb dX13_isWorking_8 rfl (lv_at hl 0 rfl) ?_
    refine lv_iload_n hx hb dX13_isWorking_9 rfl (lv_at hl 1 rfl) ?_
    obtain ⟨q2, hq2, hf⟩ := bnd hf
    refine hcV_i hx hb hml hown hts hKs hT hb0 hH (As := [.int a_1]) (rest := []) (k_X13_isHoliday l E K H.size o a_1 w ho hq2) (gV m7_95 m7_97 ms_49 m1_16 m7_98) hd_X13_isHoliday ⟨Nat.le_of_ble_eq_true rfl, Nat.le_of_ble_eq_true rfl, rfl, rfl⟩ rfl ho rfl rfl rfl hl.1 rfl rc0 rfl dX13_isWorking_10 ⟨Nat.zero_le _, Nat.zero_le _⟩ (fun H locs hH => ?_)
    refine lv_if_ne (tgt := 20) hx hb dX13_isWorking_13 (by decide) (fun c3 => ?_) (fun c3 => ?_)
    · replace hf := (if_neg c3).symm.trans hf
      refine lv_iconst (v := 0) hx hb dX13_isWorking_20 (by decide) ?_
      exact hw_zret hx hb hret rfl hf hH hlocks dX13_isWorking_21
    · replace hf := (if_pos c3).symm.trans hf
      refine lv_iconst (v := 1) hx hb dX13_isWorking_16 (by decide) ?_
      refine lv_goto (tgt := 21) hx hb dX13_isWorking_17 (by decide) ?_
      exact hw_zret hx hb hret rfl hf hH hlocks dX13_isWorking_21

theorem dX13_workingIn_0 : decode cX13_workingIn 0 = .ok (.iconst 0, 1) := by decide +kernel
theorem dX13_workingIn_1 : decode cX13_workingIn 1 = .ok (.istore_n 3, 1) := by decide +kernel
theorem dX13_workingIn_2 : decode cX13_workingIn 2 = .ok (.iload_n 1, 1) := by decide +kernel
theorem dX13_workingIn_3 : decode cX13_workingIn 3 = .ok (.istore 4, 2) := by decide +kernel
theorem dX13_workingIn_5 : decode cX13_workingIn 5 = .ok (.iload 4, 2) := by decide +kernel
theorem dX13_workingIn_7 : decode cX13_workingIn 7 = .ok (.iload_n 2, 1) := by decide +kernel
theorem dX13_workingIn_8 : decode cX13_workingIn 8 = .ok (.if_icmp .gt 22, 3) := by decide +kernel
theorem dX13_workingIn_11 : decode cX13_workingIn 11 = .ok (.aload_n 0, 1) := by decide +kernel
theorem dX13_workingIn_12 : decode cX13_workingIn 12 = .ok (.iload 4, 2) := by decide +kernel
theorem dX13_workingIn_14 : decode cX13_workingIn 14 = .ok (.invokevirtual 118, 3) := by decide +kernel
theorem dX13_workingIn_17 : decode cX13_workingIn 17 = .ok (.ifCond .eq 7, 3) := by decide +kernel
theorem dX13_workingIn_20 : decode cX13_workingIn 20 = .ok (.iload_n 3, 1) := by decide +kernel
theorem dX13_workingIn_21 : decode cX13_workingIn 21 = .ok (.iconst 1, 1) := by decide +kernel
theorem dX13_workingIn_22 : decode cX13_workingIn 22 = .ok (.iadd, 1) := by decide +kernel
theorem dX13_workingIn_23 : decode cX13_workingIn 23 = .ok (.istore_n 3, 1) := by decide +kernel
theorem dX13_workingIn_24 : decode cX13_workingIn 24 = .ok (.iinc 4 1, 3) := by decide +kernel
theorem dX13_workingIn_27 : decode cX13_workingIn 27 = .ok (.goto (-22), 3) := by decide +kernel
theorem dX13_workingIn_30 : decode cX13_workingIn 30 = .ok (.iload_n 3, 1) := by decide +kernel
theorem dX13_workingIn_31 : decode cX13_workingIn 31 = .ok (.ireturn, 1) := by decide +kernel
theorem hd_X13_workingIn : yX13_workingIn.cls = RX13 ∧ yX13_workingIn.cls ≠ "java/lang/invoke/MethodHandle" ∧ yX13_workingIn.cls ≠ "java/lang/invoke/VarHandle" ∧ (parseMethodDescriptor yX13_workingIn.desc).map (fun d => d.parameters.length) = some 2 := by decide +kernel
theorem hs_X13_workingIn : yX13_workingIn.cls ≠ "java/lang/invoke/MethodHandle" ∧ yX13_workingIn.cls ≠ "java/lang/invoke/VarHandle" ∧ (parseMethodDescriptor yX13_workingIn.desc).map (fun d => d.parameters.length) = some 2 := by decide +kernel
set_option maxHeartbeats 4000000 in
set_option maxRecDepth 100000 in
theorem l_X13_workingIn_L5 (C : CX p l e s m args meth c cX13_workingIn 5 RX13 (Option.some Jvm.ClassFile.FieldType.int) E) {o : Nat} (ho : K o = some (11, 0)) {r : Int32} {w' : Wd} (k : Int32 → Int32 → Int32 → Int32 → Wd → Option (Int32 × Wd)) (hk : ∀ (v1_5 : Int32) (v2_5 : Int32) (v3_5 : Int32) (v4_5 : Int32) (w : Wd) (H : Heap) (locs : List Loc) (ls : Array Slot), HQ E K z w s H locs → lv_has ls 5 [(1, .int v1_5), (2, .int v2_5), (3, .int v3_5), (4, .int v4_5), (0, rv E (some o))] → k v1_5 v2_5 v3_5 v4_5 w = some (r, w') → W p l e ({ frames := 2, cells := 0, slots := 0, locals := 43 } : Room) s m args below meth c H locs 0 0 (MQ below (QI E K z w' r) args s 0 0 (hA E)) (F0 m 30 ls [])) : ∀ (n : Nat) (v1_5 : Int32) (v2_5 : Int32) (v3_5 : Int32) (v4_5 : Int32) (w : Wd) (H : Heap) (locs : List Loc) (ls : Array Slot), HQ E K z w s H locs → lv_has ls 5 [(1, .int v1_5), (2, .int v2_5), (3, .int v3_5), (4, .int v4_5), (0, rv E (some o))] → f_X13_workingIn_L5 K o k n v1_5 v2_5 v3_5 v4_5 w = some (r, w') → W p l e ({ frames := 2, cells := 0, slots := 0, locals := 43 } : Room) s m args below meth c H locs 0 0 (MQ below (QI E K z w' r) args s 0 0 (hA E)) (F0 m 5 ls []) := by
  obtain ⟨hx, hb, hml, hown, hts, hKs, hT, hb0, hlocks, hret⟩ := id C
  intro n
  induction n with
  | zero =>
    intro v1_5 v2_5 v3_5 v4_5 w H locs ls hH hl hf
    cases hf
  | succ n ih =>
    intro v1_5 v2_5 v3_5 v4_5 w H locs ls hH hl hf
    rw [f_X13_workingIn_L5] at hf
    refine lv_iload hx hb dX13_workingIn_5 (lv_at hl 3 rfl) ?_
    refine lv_iload_n hx hb dX13_workingIn_7 rfl (lv_at hl 1 rfl) ?_
    refine lv_icmp_gt (tgt := 30) hx hb dX13_workingIn_8 (by decide) (fun c2 => ?_) (fun c2 => ?_)
    · replace hf := (if_pos c2).symm.trans hf
      exact hk v1_5 v2_5 v3_5 v4_5 _ _ _ _ hH (lv_sub hl [0, 1, 2, 3, 4] rfl) hf
    · replace hf := (if_neg c2).symm.trans hf
      refine hl_aload_n hx hb dX13_workingIn_11 rfl (lv_at hl 4 rfl) ?_
      refine lv_iload hx hb dX13_workingIn_12 (lv_at hl 3 rfl) ?_
      obtain ⟨q3, hq3, hf⟩ := bnd hf
      refine hcV_i hx hb hml hown hts hKs hT hb0 hH (As := [.int v4_5]) (rest := []) (k_X13_isWorking l E K H.size o v4_5 w ho hq3) (gV m7_91 m7_93 ms_48 m1_16 m7_94) hd_X13_isWorking ⟨Nat.le_of_ble_eq_true rfl, Nat.le_of_ble_eq_true rfl, rfl, rfl⟩ rfl ho rfl rfl rfl hl.1 rfl rc0 rfl dX13_workingIn_14 ⟨Nat.zero_le _, Nat.zero_le _⟩ (fun H locs hH => ?_)
      refine lv_if_eq (tgt := 24) hx hb dX13_workingIn_17 (by decide) (fun c4 => ?_) (fun c4 => ?_)
      · replace hf := (if_pos c4).symm.trans hf
        refine lv_iinc (v := (v4_5 + 1)) (lv' := [(4, .int ((v4_5 + 1))), (1, .int v1_5), (2, .int v2_5), (3, .int v3_5), (0, rv E (some o))]) hx hb dX13_workingIn_24 hl (k := 3) rfl rfl (by decide) rfl (fun ls hl => ?_)
        refine lv_goto (tgt := 5) hx hb dX13_workingIn_27 (by decide) ?_
        exact ih v1_5 v2_5 v3_5 (v4_5 + 1) _ _ _ _ hH (lv_sub hl [1, 2, 3, 0, 4] rfl) hf
      · replace hf := (if_neg c4).symm.trans hf
        refine lv_iload_n hx hb dX13_workingIn_20 rfl (lv_at hl 2 rfl) ?_
        refine lv_iconst (v := 1) hx hb dX13_workingIn_21 (by decide) ?_
        refine lv_iadd hx hb dX13_workingIn_22 ?_
        refine lv_istore_n (i := 3) (lv' := [(3, .int ((v3_5 + 1))), (1, .int v1_5), (2, .int v2_5), (4, .int v4_5), (0, rv E (some o))]) hx hb dX13_workingIn_23 rfl hl (by decide) rfl (fun ls hl => ?_)
        refine lv_iinc (v := (v4_5 + 1)) (lv' := [(4, .int ((v4_5 + 1))), (3, .int ((v3_5 + 1))), (1, .int v1_5), (2, .int v2_5), (0, rv E (some o))]) hx hb dX13_workingIn_24 hl (k := 3) rfl rfl (by decide) rfl (fun ls hl => ?_)
        refine lv_goto (tgt := 5) hx hb dX13_workingIn_27 (by decide) ?_
        exact ih v1_5 v2_5 (v3_5 + 1) (v4_5 + 1) _ _ _ _ hH (lv_sub hl [2, 3, 1, 0, 4] rfl) hf
set_option maxHeartbeats 4000000 in
set_option maxRecDepth 100000 in
theorem k_X13_workingIn (l : Launch) (E : Ev) (K : Kd) (z : Nat) (o : Nat) (a_1 : Int32) (a_2 : Int32) (w : Wd) (ho : K o = some (11, 0)) {r : Int32} {w' : Wd} (hf : f_X13_workingIn K o a_1 a_2 w = some (r, w')) : Met l yX13_workingIn (Cond.code yX13_workingIn cX13_workingIn 5 (Option.some Jvm.ClassFile.FieldType.int) :: bt) ({ frames := 2, cells := 0, slots := 0, locals := 43 } : Room) (va_Pc [rv E (some o), .int a_1, .int a_2] (HB E K w z)) (QI E K z w' r) 0 0 (hA E) := by
  refine Met.ofW (cc := cX13_workingIn) (maxL := 5) (ret := (Option.some Jvm.ClassFile.FieldType.int)) (by decide) rfl ?_
  intro p e s m args below meth c s₁ B hml hv
  obtain ⟨rfl, hz, hP, hKs, hT, hb0⟩ := hv
  have C : CX p l e s m _ meth c cX13_workingIn 5 RX13 (Option.some Jvm.ClassFile.FieldType.int) E := ⟨B.exec, B.bytes, hml, findClass_of_methodNamed B.named, fun w h => atoms_spec (ws := Cond.code yX13_workingIn cX13_workingIn 5 (Option.some Jvm.ClassFile.FieldType.int) :: bt) B.pre w (List.mem_cons_of_mem _ h), hKs, hT, by rw [hz]; exact hb0, B.notSynchronized, B.returns⟩
  have hH : HQ E K z w s s.heap [] := ⟨hP, va_S.rf, hz⟩
  obtain ⟨hx, hb, hml, hown, hts, hKs, hT, hb0, hlocks, hret⟩ := id C
  have hl := lv_entry [rv E (some o), .int a_1, .int a_2] (n := 5) (by simp [lg_len_nil, lg_len_i, lg_len_j, lg_len_q, lg_len_f, lg_len_d, lg_len_r])
  rw [lg_entry_eq]
  generalize (lg_sl [rv E (some o), .int a_1, .int a_2] ++ List.replicate (5 - (lg_sl [rv E (some o), .int a_1, .int a_2]).length) Slot.unset).toArray = ls at hl ⊢
  replace hl : lv_has ls 5 [(0, rv E (some o)), (1, .int a_1), (2, .int a_2)] := by simpa only [lv_args, cat_q, cat_i, cat_j, reduceIte, Nat.reduceEqDiff, Nat.reduceAdd, Nat.zero_add] using hl
  generalize s.heap = H at hH ⊢
  unfold f_X13_workingIn at hf
  refine lv_iconst (v := 0) hx hb dX13_workingIn_0 (by decide) ?_
  refine lv_istore_n (i := 3) (lv' := [(3, .int 0), (0, rv E (some o)), (1, .int a_1), (2, .int a_2)]) hx hb dX13_workingIn_1 rfl hl (by decide) rfl (fun ls hl => ?_)
  refine lv_iload_n hx hb dX13_workingIn_2 rfl (lv_at hl 2 rfl) ?_
  refine lv_istore (i := 4) (lv' := [(4, .int a_1), (3, .int 0), (0, rv E (some o)), (1, .int a_1), (2, .int a_2)]) hx hb dX13_workingIn_3 hl (by decide) rfl (fun ls hl => ?_)
  refine l_X13_workingIn_L5  C ho _ (fun v1_5 v2_5 v3_5 v4_5 w1 H locs ls hH hl hf => ?_) fu a_1 a_2 0 a_1 w _ _ _ hH (lv_sub hl [3, 4, 1, 0, 2] rfl) hf
  refine lv_iload_n hx hb dX13_workingIn_30 rfl (lv_at hl 2 rfl) ?_
  exact hw_iret hx hb hret hf hH hlocks dX13_workingIn_31

theorem dX13_isDay_0 : decode cX13_isDay 0 = .ok (.iload_n 0, 1) := by decide +kernel
theorem dX13_isDay_1 : decode cX13_isDay 1 = .ok (.i2l, 1) := by decide +kernel
theorem dX13_isDay_2 : decode cX13_isDay 2 = .ok (.lconst 0, 1) := by decide +kernel
theorem dX13_isDay_3 : decode cX13_isDay 3 = .ok (.ldc2_w 121, 3) := by decide +kernel
theorem dX13_isDay_6 : decode cX13_isDay 6 = .ok (.invokestatic 123, 3) := by decide +kernel
theorem dX13_isDay_9 : decode cX13_isDay 9 = .ok (.ireturn, 1) := by decide +kernel
theorem hs_X13_isDay : yX13_isDay.cls ≠ "java/lang/invoke/MethodHandle" ∧ yX13_isDay.cls ≠ "java/lang/invoke/VarHandle" ∧ (parseMethodDescriptor yX13_isDay.desc).map (fun d => d.parameters.length) = some 1 := by decide +kernel
set_option maxHeartbeats 4000000 in
set_option maxRecDepth 100000 in
theorem k_X13_isDay (l : Launch) (E : Ev) (K : Kd) (z : Nat) (a_0 : Int32) (w : Wd) {r : Bool} {w' : Wd} (hf : f_X13_isDay K a_0 w = some (r, w')) : Met l yX13_isDay (Cond.code yX13_isDay cX13_isDay 1 (Option.some Jvm.ClassFile.FieldType.boolean) :: bt) ({ frames := 1, cells := 0, slots := 0, locals := 25 } : Room) (va_Pc [.int a_0] (HB E K w z)) (QI E K z w' (b2i r)) 0 0 (hA E) := by
  refine Met.ofW (cc := cX13_isDay) (maxL := 1) (ret := (Option.some Jvm.ClassFile.FieldType.boolean)) (by decide) rfl ?_
  intro p e s m args below meth c s₁ B hml hv
  obtain ⟨rfl, hz, hP, hKs, hT, hb0⟩ := hv
  have C : CX p l e s m _ meth c cX13_isDay 1 RX13 (Option.some Jvm.ClassFile.FieldType.boolean) E := ⟨B.exec, B.bytes, hml, findClass_of_methodNamed B.named, fun w h => atoms_spec (ws := Cond.code yX13_isDay cX13_isDay 1 (Option.some Jvm.ClassFile.FieldType.boolean) :: bt) B.pre w (List.mem_cons_of_mem _ h), hKs, hT, by rw [hz]; exact hb0, B.notSynchronized, B.returns⟩
  have hH : HQ E K z w s s.heap [] := ⟨hP, va_S.rf, hz⟩
  obtain ⟨hx, hb, hml, hown, hts, hKs, hT, hb0, hlocks, hret⟩ := id C
  have hl := lv_entry [.int a_0] (n := 1) (by simp [lg_len_nil, lg_len_i, lg_len_j, lg_len_q, lg_len_f, lg_len_d, lg_len_r])
  rw [lg_entry_eq]
  generalize (lg_sl [.int a_0] ++ List.replicate (1 - (lg_sl [.int a_0]).length) Slot.unset).toArray = ls at hl ⊢
  replace hl : lv_has ls 1 [(0, .int a_0)] := by simpa only [lv_args, cat_q, cat_i, cat_j, reduceIte, Nat.reduceEqDiff, Nat.reduceAdd, Nat.zero_add] using hl
  generalize s.heap = H at hH ⊢
  unfold f_X13_isDay at hf
  refine lv_iload_n hx hb dX13_isDay_0 rfl (lv_at hl 0 rfl) ?_
  refine lv_i2l (v := (a_0.toInt64)) hx hb dX13_isDay_1 rfl ?_
  refine lv_lconst (v := 0) hx hb dX13_isDay_2 rfl ?_
  refine lv_ldc2 (v := 599) hx hb hown (hts _ m7_87) dX13_isDay_3 ?_
  obtain ⟨q1, hq1, hf⟩ := bnd hf
  refine hcS_i hx hb hml hown hts hKs hT hb0 hH (As := [.long (a_0.toInt64), .long 0, .long 599]) (rest := []) (k_X13_isIn l E K H.size (a_0.toInt64) 0 599 w hq1) (gS m7_88 m7_89 m1_16 m7_90) hs_X13_isIn ⟨Nat.le_of_ble_eq_true rfl, Nat.le_of_ble_eq_true rfl, rfl, rfl⟩ hl.1 rfl rc0 rfl dX13_isDay_6 ⟨Nat.zero_le _, Nat.zero_le _⟩ (fun H locs hH => ?_)
  exact hw_zret hx hb hret rfl hf hH hlocks dX13_isDay_9

theorem dX13_isSpan_0 : decode cX13_isSpan 0 = .ok (.iload_n 0, 1) := by decide +kernel
theorem dX13_isSpan_1 : decode cX13_isSpan 1 = .ok (.invokestatic 127, 3) := by decide +kernel
theorem dX13_isSpan_4 : decode cX13_isSpan 4 = .ok (.ifCond .eq 20, 3) := by decide +kernel
theorem dX13_isSpan_7 : decode cX13_isSpan 7 = .ok (.iload_n 1, 1) := by decide +kernel
theorem dX13_isSpan_8 : decode cX13_isSpan 8 = .ok (.i2l, 1) := by decide +kernel
theorem dX13_isSpan_9 : decode cX13_isSpan 9 = .ok (.iload_n 0, 1) := by decide +kernel
theorem dX13_isSpan_10 : decode cX13_isSpan 10 = .ok (.i2l, 1) := by decide +kernel
theorem dX13_isSpan_11 : decode cX13_isSpan 11 = .ok (.ldc2_w 121, 3) := by decide +kernel
theorem dX13_isSpan_14 : decode cX13_isSpan 14 = .ok (.invokestatic 123, 3) := by decide +kernel
theorem dX13_isSpan_17 : decode cX13_isSpan 17 = .ok (.ifCond .eq 7, 3) := by decide +kernel
theorem dX13_isSpan_20 : decode cX13_isSpan 20 = .ok (.iconst 1, 1) := by decide +kernel
theorem dX13_isSpan_21 : decode cX13_isSpan 21 = .ok (.goto 4, 3) := by decide +kernel
theorem dX13_isSpan_24 : decode cX13_isSpan 24 = .ok (.iconst 0, 1) := by decide +kernel
theorem dX13_isSpan_25 : decode cX13_isSpan 25 = .ok (.ireturn, 1) := by decide +kernel
theorem hs_X13_isSpan : yX13_isSpan.cls ≠ "java/lang/invoke/MethodHandle" ∧ yX13_isSpan.cls ≠ "java/lang/invoke/VarHandle" ∧ (parseMethodDescriptor yX13_isSpan.desc).map (fun d => d.parameters.length) = some 2 := by decide +kernel
set_option maxHeartbeats 4000000 in
set_option maxRecDepth 100000 in
theorem k_X13_isSpan (l : Launch) (E : Ev) (K : Kd) (z : Nat) (a_0 : Int32) (a_1 : Int32) (w : Wd) {r : Bool} {w' : Wd} (hf : f_X13_isSpan K a_0 a_1 w = some (r, w')) : Met l yX13_isSpan (Cond.code yX13_isSpan cX13_isSpan 2 (Option.some Jvm.ClassFile.FieldType.boolean) :: bt) ({ frames := 2, cells := 0, slots := 0, locals := 45 } : Room) (va_Pc [.int a_0, .int a_1] (HB E K w z)) (QI E K z w' (b2i r)) 0 0 (hA E) := by
  refine Met.ofW (cc := cX13_isSpan) (maxL := 2) (ret := (Option.some Jvm.ClassFile.FieldType.boolean)) (by decide) rfl ?_
  intro p e s m args below meth c s₁ B hml hv
  obtain ⟨rfl, hz, hP, hKs, hT, hb0⟩ := hv
  have C : CX p l e s m _ meth c cX13_isSpan 2 RX13 (Option.some Jvm.ClassFile.FieldType.boolean) E := ⟨B.exec, B.bytes, hml, findClass_of_methodNamed B.named, fun w h => atoms_spec (ws := Cond.code yX13_isSpan cX13_isSpan 2 (Option.some Jvm.ClassFile.FieldType.boolean) :: bt) B.pre w (List.mem_cons_of_mem _ h), hKs, hT, by rw [hz]; exact hb0, B.notSynchronized, B.returns⟩
  have hH : HQ E K z w s s.heap [] := ⟨hP, va_S.rf, hz⟩
  obtain ⟨hx, hb, hml, hown, hts, hKs, hT, hb0, hlocks, hret⟩ := id C
  have hl := lv_entry [.int a_0, .int a_1] (n := 2) (by simp [lg_len_nil, lg_len_i, lg_len_j, lg_len_q, lg_len_f, lg_len_d, lg_len_r])
  rw [lg_entry_eq]
  generalize (lg_sl [.int a_0, .int a_1] ++ List.replicate (2 - (lg_sl [.int a_0, .int a_1]).length) Slot.unset).toArray = ls at hl ⊢
  replace hl : lv_has ls 2 [(0, .int a_0), (1, .int a_1)] := by simpa only [lv_args, cat_q, cat_i, cat_j, reduceIte, Nat.reduceEqDiff, Nat.reduceAdd, Nat.zero_add] using hl
  generalize s.heap = H at hH ⊢
  unfold f_X13_isSpan at hf
  refine lv_iload_n hx hb dX13_isSpan_0 rfl (lv_at hl 0 rfl) ?_
  obtain ⟨q1, hq1, hf⟩ := bnd hf
  refine hcS_i hx hb hml hown hts hKs hT hb0 hH (As := [.int a_0]) (rest := []) (k_X13_isDay l E K H.size a_0 w hq1) (gS m7_84 m7_85 m1_16 m7_86) hs_X13_isDay ⟨Nat.le_of_ble_eq_true rfl, Nat.le_of_ble_eq_true rfl, rfl, rfl⟩ hl.1 rfl rc0 rfl dX13_isSpan_1 ⟨Nat.zero_le _, Nat.zero_le _⟩ (fun H locs hH => ?_)
  refine lv_if_eq (tgt := 24) hx hb dX13_isSpan_4 (by decide) (fun c2 => ?_) (fun c2 => ?_)
  · replace hf := (if_pos c2).symm.trans hf
    refine lv_iconst (v := 0) hx hb dX13_isSpan_24 (by decide) ?_
    exact hw_zret hx hb hret rfl hf hH hlocks dX13_isSpan_25
  · replace hf := (if_neg c2).symm.trans hf
    refine lv_iload_n hx hb dX13_isSpan_7 rfl (lv_at hl 1 rfl) ?_
    refine lv_i2l (v := (a_1.toInt64)) hx hb dX13_isSpan_8 rfl ?_
    refine lv_iload_n hx hb dX13_isSpan_9 rfl (lv_at hl 0 rfl) ?_
    refine lv_i2l (v := (a_0.toInt64)) hx hb dX13_isSpan_10 rfl ?_
    refine lv_ldc2 (v := 599) hx hb hown (hts _ m7_87) dX13_isSpan_11 ?_
    obtain ⟨q3, hq3, hf⟩ := bnd hf
    refine hcS_i hx hb hml hown hts hKs hT hb0 hH (As := [.long (a_1.toInt64), .long (a_0.toInt64), .long 599]) (rest := []) (k_X13_isIn l E K H.size (a_1.toInt64) (a_0.toInt64) 599 q1.2 hq3) (gS m7_88 m7_89 m1_16 m7_90) hs_X13_isIn ⟨Nat.le_of_ble_eq_true rfl, Nat.le_of_ble_eq_true rfl, rfl, rfl⟩ hl.1 rfl rc0 rfl dX13_isSpan_14 ⟨Nat.zero_le _, Nat.zero_le _⟩ (fun H locs hH => ?_)
    refine lv_if_eq (tgt := 24) hx hb dX13_isSpan_17 (by decide) (fun c4 => ?_) (fun c4 => ?_)
    · replace hf := (if_pos c4).symm.trans hf
      refine lv_iconst (v := 0) hx hb dX13_isSpan_24 (by decide) ?_
      exact hw_zret hx hb hret rfl hf hH hlocks dX13_isSpan_25
    · replace hf := (if_neg c4).symm.trans hf
      refine lv_iconst (v := 1) hx hb dX13_isSpan_20 (by decide) ?_
      refine lv_goto (tgt := 25) hx hb dX13_isSpan_21 (by decide) ?_
      exact hw_zret hx hb hret rfl hf hH hlocks dX13_isSpan_25

theorem dX13_isWorkingDay_0 : decode cX13_isWorkingDay 0 = .ok (.aload_n 0, 1) := by decide +kernel
theorem dX13_isWorkingDay_1 : decode cX13_isWorkingDay 1 = .ok (.iload_n 1, 1) := by decide +kernel
theorem dX13_isWorkingDay_2 : decode cX13_isWorkingDay 2 = .ok (.invokestatic 127, 3) := by decide +kernel
theorem dX13_isWorkingDay_5 : decode cX13_isWorkingDay 5 = .ok (.invokevirtual 110, 3) := by decide +kernel
theorem dX13_isWorkingDay_8 : decode cX13_isWorkingDay 8 = .ok (.ifCond .eq 15, 3) := by decide +kernel
theorem dX13_isWorkingDay_11 : decode cX13_isWorkingDay 11 = .ok (.aload_n 0, 1) := by decide +kernel
theorem dX13_isWorkingDay_12 : decode cX13_isWorkingDay 12 = .ok (.iload_n 1, 1) := by decide +kernel
theorem dX13_isWorkingDay_13 : decode cX13_isWorkingDay 13 = .ok (.invokevirtual 118, 3) := by decide +kernel
theorem dX13_isWorkingDay_16 : decode cX13_isWorkingDay 16 = .ok (.ifCond .eq 7, 3) := by decide +kernel
theorem dX13_isWorkingDay_19 : decode cX13_isWorkingDay 19 = .ok (.iconst 1, 1) := by decide +kernel
theorem dX13_isWorkingDay_20 : decode cX13_isWorkingDay 20 = .ok (.goto 4, 3) := by decide +kernel
theorem dX13_isWorkingDay_23 : decode cX13_isWorkingDay 23 = .ok (.iconst 0, 1) := by decide +kernel
theorem dX13_isWorkingDay_24 : decode cX13_isWorkingDay 24 = .ok (.ireturn, 1) := by decide +kernel
theorem hd_X13_isWorkingDay : yX13_isWorkingDay.cls = RX13 ∧ yX13_isWorkingDay.cls ≠ "java/lang/invoke/MethodHandle" ∧ yX13_isWorkingDay.cls ≠ "java/lang/invoke/VarHandle" ∧ (parseMethodDescriptor yX13_isWorkingDay.desc).map (fun d => d.parameters.length) = some 1 := by decide +kernel
theorem hs_X13_isWorkingDay : yX13_isWorkingDay.cls ≠ "java/lang/invoke/MethodHandle" ∧ yX13_isWorkingDay.cls ≠ "java/lang/invoke/VarHandle" ∧ (parseMethodDescriptor yX13_isWorkingDay.desc).map (fun d => d.parameters.length) = some 1 := by decide +kernel
set_option maxHeartbeats 4000000 in
set_option maxRecDepth 100000 in
theorem k_X13_isWorkingDay (l : Launch) (E : Ev) (K : Kd) (z : Nat) (o : Nat) (a_1 : Int32) (w : Wd) (ho : K o = some (11, 0)) {r : Bool} {w' : Wd} (hf : f_X13_isWorkingDay K o a_1 w = some (r, w')) : Met l yX13_isWorkingDay (Cond.code yX13_isWorkingDay cX13_isWorkingDay 2 (Option.some Jvm.ClassFile.FieldType.boolean) :: bt) ({ frames := 2, cells := 0, slots := 0, locals := 45 } : Room) (va_Pc [rv E (some o), .int a_1] (HB E K w z)) (QI E K z w' (b2i r)) 0 0 (hA E) := by
  refine Met.ofW (cc := cX13_isWorkingDay) (maxL := 2) (ret := (Option.some Jvm.ClassFile.FieldType.boolean)) (by decide) rfl ?_
  intro p e s m args below meth c s₁ B hml hv
  obtain ⟨rfl, hz, hP, hKs, hT, hb0⟩ := hv
  have C : CX p l e s m _ meth c cX13_isWorkingDay 2 RX13 (Option.some Jvm.ClassFile.FieldType.boolean) E := ⟨B.exec, B.bytes, hml, findClass_of_methodNamed B.named, fun w h => atoms_spec (ws := Cond.code yX13_isWorkingDay cX13_isWorkingDay 2 (Option.some Jvm.ClassFile.FieldType.boolean) :: bt) B.pre w (List.mem_cons_of_mem _ h), hKs, hT, by rw [hz]; exact hb0, B.notSynchronized, B.returns⟩
  have hH : HQ E K z w s s.heap [] := ⟨hP, va_S.rf, hz⟩
  obtain ⟨hx, hb, hml, hown, hts, hKs, hT, hb0, hlocks, hret⟩ := id C
  have hl := lv_entry [rv E (some o), .int a_1] (n := 2) (by simp [lg_len_nil, lg_len_i, lg_len_j, lg_len_q, lg_len_f, lg_len_d, lg_len_r])
  rw [lg_entry_eq]
  generalize (lg_sl [rv E (some o), .int a_1] ++ List.replicate (2 - (lg_sl [rv E (some o), .int a_1]).length) Slot.unset).toArray = ls at hl ⊢
  replace hl : lv_has ls 2 [(0, rv E (some o)), (1, .int a_1)] := by simpa only [lv_args, cat_q, cat_i, cat_j, reduceIte, Nat.reduceEqDiff, Nat.reduceAdd, Nat.zero_add] using hl
  generalize s.heap = H at hH ⊢
  unfold f_X13_isWorkingDay at hf
  refine hl_aload_n hx hb dX13_isWorkingDay_0 rfl (lv_at hl 0 rfl) ?_
  refine lv_iload_n hx hb dX13_isWorkingDay_1 rfl (lv_at hl 1 rfl) ?_
  obtain ⟨q1, hq1, hf⟩ := bnd hf
  refine hcS_i hx hb hml hown hts hKs hT hb0 hH (As := [.int a_1]) (rest := [rv E (some o)]) (k_X13_isDay l E K H.size a_1 w hq1) (gS m7_84 m7_85 m1_16 m7_86) hs_X13_isDay ⟨Nat.le_of_ble_eq_true rfl, Nat.le_of_ble_eq_true rfl, rfl, rfl⟩ hl.1 rfl (rcV rc0) rfl dX13_isWorkingDay_2 ⟨Nat.zero_le _, Nat.zero_le _⟩ (fun H locs hH => ?_)
  obtain ⟨q2, hq2, hf⟩ := bnd hf
  refine hcV_i hx hb hml hown hts hKs hT hb0 hH (As := [.int (b2i q1.1)]) (rest := []) (k_X13_is l E K H.size o q1.1 q1.2 ho hq2) (gV m7_68 m7_70 ms_47 m1_16 m7_71) hd_X13_is ⟨Nat.le_of_ble_eq_true rfl, Nat.le_of_ble_eq_true rfl, rfl, rfl⟩ rfl ho rfl rfl rfl hl.1 rfl rc0 rfl dX13_isWorkingDay_5 ⟨Nat.zero_le _, Nat.zero_le _⟩ (fun H locs hH => ?_)
  refine lv_if_eq (tgt := 23) hx hb dX13_isWorkingDay_8 (by decide) (fun c3 => ?_) (fun c3 => ?_)
  · replace hf := (if_pos c3).symm.trans hf
    refine lv_iconst (v := 0) hx hb dX13_isWorkingDay_23 (by decide) ?_
    exact hw_zret hx hb hret rfl hf hH hlocks dX13_isWorkingDay_24
  · replace hf := (if_neg c3).symm.trans hf
    refine hl_aload_n hx hb dX13_isWorkingDay_11 rfl (lv_at hl 0 rfl) ?_
    refine lv_iload_n hx hb dX13_isWorkingDay_12 rfl (lv_at hl 1 rfl) ?_
    obtain ⟨q4, hq4, hf⟩ := bnd hf
    refine hcV_i hx hb hml hown hts hKs hT hb0 hH (As := [.int a_1]) (rest := []) (k_X13_isWorking l E K H.size o a_1 q2.2 ho hq4) (gV m7_91 m7_93 ms_48 m1_16 m7_94) hd_X13_isWorking ⟨Nat.le_of_ble_eq_true rfl, Nat.le_of_ble_eq_true rfl, rfl, rfl⟩ rfl ho rfl rfl rfl hl.1 rfl rc0 rfl dX13_isWorkingDay_13 ⟨Nat.zero_le _, Nat.zero_le _⟩ (fun H locs hH => ?_)
    refine lv_if_eq (tgt := 23) hx hb dX13_isWorkingDay_16 (by decide) (fun c5 => ?_) (fun c5 => ?_)
    · replace hf := (if_pos c5).symm.trans hf
      refine lv_iconst (v := 0) hx hb dX13_isWorkingDay_23 (by decide) ?_
      exact hw_zret hx hb hret rfl hf hH hlocks dX13_isWorkingDay_24
    · replace hf := (if_neg c5).symm.trans hf
      refine lv_iconst (v := 1) hx hb dX13_isWorkingDay_19 (by decide) ?_
      refine lv_goto (tgt := 24) hx hb dX13_isWorkingDay_20 (by decide) ?_
      exact hw_zret hx hb hret rfl hf hH hlocks dX13_isWorkingDay_24

theorem dX13_workingDays_0 : decode cX13_workingDays 0 = .ok (.aload_n 0, 1) := by decide +kernel
theorem dX13_workingDays_1 : decode cX13_workingDays 1 = .ok (.iload_n 1, 1) := by decide +kernel
theorem dX13_workingDays_2 : decode cX13_workingDays 2 = .ok (.iload_n 2, 1) := by decide +kernel
theorem dX13_workingDays_3 : decode cX13_workingDays 3 = .ok (.invokestatic 130, 3) := by decide +kernel
theorem dX13_workingDays_6 : decode cX13_workingDays 6 = .ok (.invokevirtual 110, 3) := by decide +kernel
theorem dX13_workingDays_9 : decode cX13_workingDays 9 = .ok (.ifCond .eq 12, 3) := by decide +kernel
theorem dX13_workingDays_12 : decode cX13_workingDays 12 = .ok (.aload_n 0, 1) := by decide +kernel
theorem dX13_workingDays_13 : decode cX13_workingDays 13 = .ok (.iload_n 1, 1) := by decide +kernel
theorem dX13_workingDays_14 : decode cX13_workingDays 14 = .ok (.iload_n 2, 1) := by decide +kernel
theorem dX13_workingDays_15 : decode cX13_workingDays 15 = .ok (.invokevirtual 134, 3) := by decide +kernel
theorem dX13_workingDays_18 : decode cX13_workingDays 18 = .ok (.goto 4, 3) := by decide +kernel
theorem dX13_workingDays_21 : decode cX13_workingDays 21 = .ok (.iconst 0, 1) := by decide +kernel
theorem dX13_workingDays_22 : decode cX13_workingDays 22 = .ok (.ireturn, 1) := by decide +kernel
theorem hd_X13_workingDays : yX13_workingDays.cls = RX13 ∧ yX13_workingDays.cls ≠ "java/lang/invoke/MethodHandle" ∧ yX13_workingDays.cls ≠ "java/lang/invoke/VarHandle" ∧ (parseMethodDescriptor yX13_workingDays.desc).map (fun d => d.parameters.length) = some 2 := by decide +kernel
theorem hs_X13_workingDays : yX13_workingDays.cls ≠ "java/lang/invoke/MethodHandle" ∧ yX13_workingDays.cls ≠ "java/lang/invoke/VarHandle" ∧ (parseMethodDescriptor yX13_workingDays.desc).map (fun d => d.parameters.length) = some 2 := by decide +kernel
set_option maxHeartbeats 4000000 in
set_option maxRecDepth 100000 in
theorem k_X13_workingDays (l : Launch) (E : Ev) (K : Kd) (z : Nat) (o : Nat) (a_1 : Int32) (a_2 : Int32) (w : Wd) (ho : K o = some (11, 0)) {r : Int32} {w' : Wd} (hf : f_X13_workingDays K o a_1 a_2 w = some (r, w')) : Met l yX13_workingDays (Cond.code yX13_workingDays cX13_workingDays 3 (Option.some Jvm.ClassFile.FieldType.int) :: bt) ({ frames := 3, cells := 0, slots := 0, locals := 67 } : Room) (va_Pc [rv E (some o), .int a_1, .int a_2] (HB E K w z)) (QI E K z w' r) 0 0 (hA E) := by
  refine Met.ofW (cc := cX13_workingDays) (maxL := 3) (ret := (Option.some Jvm.ClassFile.FieldType.int)) (by decide) rfl ?_
  intro p e s m args below meth c s₁ B hml hv
  obtain ⟨rfl, hz, hP, hKs, hT, hb0⟩ := hv
  have C : CX p l e s m _ meth c cX13_workingDays 3 RX13 (Option.some Jvm.ClassFile.FieldType.int) E := ⟨B.exec, B.bytes, hml, findClass_of_methodNamed B.named, fun w h => atoms_spec (ws := Cond.code yX13_workingDays cX13_workingDays 3 (Option.some Jvm.ClassFile.FieldType.int) :: bt) B.pre w (List.mem_cons_of_mem _ h), hKs, hT, by rw [hz]; exact hb0, B.notSynchronized, B.returns⟩
  have hH : HQ E K z w s s.heap [] := ⟨hP, va_S.rf, hz⟩
  obtain ⟨hx, hb, hml, hown, hts, hKs, hT, hb0, hlocks, hret⟩ := id C
  have hl := lv_entry [rv E (some o), .int a_1, .int a_2] (n := 3) (by simp [lg_len_nil, lg_len_i, lg_len_j, lg_len_q, lg_len_f, lg_len_d, lg_len_r])
  rw [lg_entry_eq]
  generalize (lg_sl [rv E (some o), .int a_1, .int a_2] ++ List.replicate (3 - (lg_sl [rv E (some o), .int a_1, .int a_2]).length) Slot.unset).toArray = ls at hl ⊢
  replace hl : lv_has ls 3 [(0, rv E (some o)), (1, .int a_1), (2, .int a_2)] := by simpa only [lv_args, cat_q, cat_i, cat_j, reduceIte, Nat.reduceEqDiff, Nat.reduceAdd, Nat.zero_add] using hl
  generalize s.heap = H at hH ⊢
  unfold f_X13_workingDays at hf
  refine hl_aload_n hx hb dX13_workingDays_0 rfl (lv_at hl 0 rfl) ?_
  refine lv_iload_n hx hb dX13_workingDays_1 rfl (lv_at hl 1 rfl) ?_
  refine lv_iload_n hx hb dX13_workingDays_2 rfl (lv_at hl 2 rfl) ?_
  obtain ⟨q1, hq1, hf⟩ := bnd hf
  refine hcS_i hx hb hml hown hts hKs hT hb0 hH (As := [.int a_1, .int a_2]) (rest := [rv E (some o)]) (k_X13_isSpan l E K H.size a_1 a_2 w hq1) (gS m7_103 m7_104 m1_16 m7_105) hs_X13_isSpan ⟨Nat.le_of_ble_eq_true rfl, Nat.le_of_ble_eq_true rfl, rfl, rfl⟩ hl.1 rfl (rcV rc0) rfl dX13_workingDays_3 ⟨Nat.zero_le _, Nat.zero_le _⟩ (fun H locs hH => ?_)
  obtain ⟨q2, hq2, hf⟩ := bnd hf
  refine hcV_i hx hb hml hown hts hKs hT hb0 hH (As := [.int (b2i q1.1)]) (rest := []) (k_X13_is l E K H.size o q1.1 q1.2 ho hq2) (gV m7_68 m7_70 ms_47 m1_16 m7_71) hd_X13_is ⟨Nat.le_of_ble_eq_true rfl, Nat.le_of_ble_eq_true rfl, rfl, rfl⟩ rfl ho rfl rfl rfl hl.1 rfl rc0 rfl dX13_workingDays_6 ⟨Nat.zero_le _, Nat.zero_le _⟩ (fun H locs hH => ?_)
  refine lv_if_eq (tgt := 21) hx hb dX13_workingDays_9 (by decide) (fun c3 => ?_) (fun c3 => ?_)
  · replace hf := (if_pos c3).symm.trans hf
    refine lv_iconst (v := 0) hx hb dX13_workingDays_21 (by decide) ?_
    exact hw_iret hx hb hret hf hH hlocks dX13_workingDays_22
  · replace hf := (if_neg c3).symm.trans hf
    refine hl_aload_n hx hb dX13_workingDays_12 rfl (lv_at hl 0 rfl) ?_
    refine lv_iload_n hx hb dX13_workingDays_13 rfl (lv_at hl 1 rfl) ?_
    refine lv_iload_n hx hb dX13_workingDays_14 rfl (lv_at hl 2 rfl) ?_
    obtain ⟨q4, hq4, hf⟩ := bnd hf
    refine hcV_i hx hb hml hown hts hKs hT hb0 hH (As := [.int a_1, .int a_2]) (rest := []) (k_X13_workingIn l E K H.size o a_1 a_2 q2.2 ho hq4) (gV m7_106 m7_108 ms_50 m1_16 m7_109) hd_X13_workingIn ⟨Nat.le_of_ble_eq_true rfl, Nat.le_of_ble_eq_true rfl, rfl, rfl⟩ rfl ho rfl rfl rfl hl.1 rfl rc0 rfl dX13_workingDays_15 ⟨Nat.zero_le _, Nat.zero_le _⟩ (fun H locs hH => ?_)
    refine lv_goto (tgt := 22) hx hb dX13_workingDays_18 (by decide) ?_
    exact hw_iret hx hb hret hf hH hlocks dX13_workingDays_22

theorem dX13_at_0 : decode cX13_at 0 = .ok (.bipush 46, 2) := by decide +kernel
theorem dX13_at_2 : decode cX13_at 2 = .ok (.bipush 27, 2) := by decide +kernel
theorem dX13_at_4 : decode cX13_at 4 = .ok (.iload_n 1, 1) := by decide +kernel
theorem dX13_at_5 : decode cX13_at 5 = .ok (.imul, 1) := by decide +kernel
theorem dX13_at_6 : decode cX13_at 6 = .ok (.iadd, 1) := by decide +kernel
theorem dX13_at_7 : decode cX13_at 7 = .ok (.iload_n 2, 1) := by decide +kernel
theorem dX13_at_8 : decode cX13_at 8 = .ok (.iadd, 1) := by decide +kernel
theorem dX13_at_9 : decode cX13_at 9 = .ok (.ireturn, 1) := by decide +kernel
theorem hd_X13_at : yX13_at.cls = RX13 ∧ yX13_at.cls ≠ "java/lang/invoke/MethodHandle" ∧ yX13_at.cls ≠ "java/lang/invoke/VarHandle" ∧ (parseMethodDescriptor yX13_at.desc).map (fun d => d.parameters.length) = some 2 := by decide +kernel
theorem hs_X13_at : yX13_at.cls ≠ "java/lang/invoke/MethodHandle" ∧ yX13_at.cls ≠ "java/lang/invoke/VarHandle" ∧ (parseMethodDescriptor yX13_at.desc).map (fun d => d.parameters.length) = some 2 := by decide +kernel
set_option maxHeartbeats 4000000 in
set_option maxRecDepth 100000 in
theorem k_X13_at (l : Launch) (E : Ev) (K : Kd) (z : Nat) (o : Nat) (a_1 : Int32) (a_2 : Int32) (w : Wd) (ho : K o = some (11, 0)) {r : Int32} {w' : Wd} (hf : f_X13_at K o a_1 a_2 w = some (r, w')) : Met l yX13_at (Cond.code yX13_at cX13_at 3 (Option.some Jvm.ClassFile.FieldType.int) :: bt) ({ frames := 0, cells := 0, slots := 0, locals := 0 } : Room) (va_Pc [rv E (some o), .int a_1, .int a_2] (HB E K w z)) (QI E K z w' r) 0 0 (hA E) := by
  refine Met.ofW (cc := cX13_at) (maxL := 3) (ret := (Option.some Jvm.ClassFile.FieldType.int)) (by decide) rfl ?_
  intro p e s m args below meth c s₁ B hml hv
  obtain ⟨rfl, hz, hP, hKs, hT, hb0⟩ := hv
  have C : CX p l e s m _ meth c cX13_at 3 RX13 (Option.some Jvm.ClassFile.FieldType.int) E := ⟨B.exec, B.bytes, hml, findClass_of_methodNamed B.named, fun w h => atoms_spec (ws := Cond.code yX13_at cX13_at 3 (Option.some Jvm.ClassFile.FieldType.int) :: bt) B.pre w (List.mem_cons_of_mem _ h), hKs, hT, by rw [hz]; exact hb0, B.notSynchronized, B.returns⟩
  have hH : HQ E K z w s s.heap [] := ⟨hP, va_S.rf, hz⟩
  obtain ⟨hx, hb, hml, hown, hts, hKs, hT, hb0, hlocks, hret⟩ := id C
  have hl := lv_entry [rv E (some o), .int a_1, .int a_2] (n := 3) (by simp [lg_len_nil, lg_len_i, lg_len_j, lg_len_q, lg_len_f, lg_len_d, lg_len_r])
  rw [lg_entry_eq]
  generalize (lg_sl [rv E (some o), .int a_1, .int a_2] ++ List.replicate (3 - (lg_sl [rv E (some o), .int a_1, .int a_2]).length) Slot.unset).toArray = ls at hl ⊢
  replace hl : lv_has ls 3 [(0, rv E (some o)), (1, .int a_1), (2, .int a_2)] := by simpa only [lv_args, cat_q, cat_i, cat_j, reduceIte, Nat.reduceEqDiff, Nat.reduceAdd, Nat.zero_add] using hl
  generalize s.heap = H at hH ⊢
  unfold f_X13_at at hf
  refine lv_bipush (v := 46) hx hb dX13_at_0 (by decide) ?_
  refine lv_bipush (v := 27) hx hb dX13_at_2 (by decide) ?_
  refine lv_iload_n hx hb dX13_at_4 rfl (lv_at hl 1 rfl) ?_
  refine lv_imul hx hb dX13_at_5 ?_
  refine lv_iadd hx hb dX13_at_6 ?_
  refine lv_iload_n hx hb dX13_at_7 rfl (lv_at hl 2 rfl) ?_
  refine lv_iadd hx hb dX13_at_8 ?_
  exact hw_iret hx hb hret hf hH hlocks dX13_at_9

theorem dX13_of_0 : decode cX13_of 0 = .ok (.aload_n 0, 1) := by decide +kernel
theorem dX13_of_1 : decode cX13_of 1 = .ok (.getfield 16, 3) := by decide +kernel
theorem dX13_of_4 : decode cX13_of 4 = .ok (.aload_n 0, 1) := by decide +kernel
theorem dX13_of_5 : decode cX13_of 5 = .ok (.iload_n 1, 1) := by decide +kernel
theorem dX13_of_6 : decode cX13_of 6 = .ok (.iload_n 2, 1) := by decide +kernel
theorem dX13_of_7 : decode cX13_of 7 = .ok (.invokevirtual 138, 3) := by decide +kernel
theorem dX13_of_10 : decode cX13_of 10 = .ok (.iaload, 1) := by decide +kernel
theorem dX13_of_11 : decode cX13_of 11 = .ok (.ireturn, 1) := by decide +kernel
theorem hd_X13_of : yX13_of.cls = RX13 ∧ yX13_of.cls ≠ "java/lang/invoke/MethodHandle" ∧ yX13_of.cls ≠ "java/lang/invoke/VarHandle" ∧ (parseMethodDescriptor yX13_of.desc).map (fun d => d.parameters.length) = some 2 := by decide +kernel
theorem hs_X13_of : yX13_of.cls ≠ "java/lang/invoke/MethodHandle" ∧ yX13_of.cls ≠ "java/lang/invoke/VarHandle" ∧ (parseMethodDescriptor yX13_of.desc).map (fun d => d.parameters.length) = some 2 := by decide +kernel
set_option maxHeartbeats 4000000 in
set_option maxRecDepth 100000 in
theorem k_X13_of (l : Launch) (E : Ev) (K : Kd) (z : Nat) (o : Nat) (a_1 : Int32) (a_2 : Int32) (w : Wd) (ho : K o = some (11, 0)) {r : Int32} {w' : Wd} (hf : f_X13_of K o a_1 a_2 w = some (r, w')) : Met l yX13_of (Cond.code yX13_of cX13_of 3 (Option.some Jvm.ClassFile.FieldType.int) :: bt) ({ frames := 1, cells := 0, slots := 0, locals := 22 } : Room) (va_Pc [rv E (some o), .int a_1, .int a_2] (HB E K w z)) (QI E K z w' r) 0 0 (hA E) := by
  refine Met.ofW (cc := cX13_of) (maxL := 3) (ret := (Option.some Jvm.ClassFile.FieldType.int)) (by decide) rfl ?_
  intro p e s m args below meth c s₁ B hml hv
  obtain ⟨rfl, hz, hP, hKs, hT, hb0⟩ := hv
  have C : CX p l e s m _ meth c cX13_of 3 RX13 (Option.some Jvm.ClassFile.FieldType.int) E := ⟨B.exec, B.bytes, hml, findClass_of_methodNamed B.named, fun w h => atoms_spec (ws := Cond.code yX13_of cX13_of 3 (Option.some Jvm.ClassFile.FieldType.int) :: bt) B.pre w (List.mem_cons_of_mem _ h), hKs, hT, by rw [hz]; exact hb0, B.notSynchronized, B.returns⟩
  have hH : HQ E K z w s s.heap [] := ⟨hP, va_S.rf, hz⟩
  obtain ⟨hx, hb, hml, hown, hts, hKs, hT, hb0, hlocks, hret⟩ := id C
  have hl := lv_entry [rv E (some o), .int a_1, .int a_2] (n := 3) (by simp [lg_len_nil, lg_len_i, lg_len_j, lg_len_q, lg_len_f, lg_len_d, lg_len_r])
  rw [lg_entry_eq]
  generalize (lg_sl [rv E (some o), .int a_1, .int a_2] ++ List.replicate (3 - (lg_sl [rv E (some o), .int a_1, .int a_2]).length) Slot.unset).toArray = ls at hl ⊢
  replace hl : lv_has ls 3 [(0, rv E (some o)), (1, .int a_1), (2, .int a_2)] := by simpa only [lv_args, cat_q, cat_i, cat_j, reduceIte, Nat.reduceEqDiff, Nat.reduceAdd, Nat.zero_add] using hl
  generalize s.heap = H at hH ⊢
  unfold f_X13_of at hf
  refine hl_aload_n hx hb dX13_of_0 rfl (lv_at hl 0 rfl) ?_
  refine g13_3 hx hb hts hown hKs hH rfl ho m6_184 dX13_of_1 ?_
  refine hl_aload_n hx hb dX13_of_4 rfl (lv_at hl 0 rfl) ?_
  refine lv_iload_n hx hb dX13_of_5 rfl (lv_at hl 1 rfl) ?_
  refine lv_iload_n hx hb dX13_of_6 rfl (lv_at hl 2 rfl) ?_
  obtain ⟨q1, hq1, hf⟩ := bnd hf
  refine hcV_i hx hb hml hown hts hKs hT hb0 hH (As := [.int a_1, .int a_2]) (rest := [rv E (wR w 1303 o)]) (k_X13_at l E K H.size o a_1 a_2 w ho hq1) (gV m7_130 m7_132 ms_55 m1_16 m7_133) hd_X13_at ⟨Nat.le_of_ble_eq_true rfl, Nat.le_of_ble_eq_true rfl, rfl, rfl⟩ rfl ho rfl rfl rfl hl.1 rfl (rcV rc0) rfl dX13_of_7 ⟨Nat.zero_le _, Nat.zero_le _⟩ (fun H locs hH => ?_)
  obtain ⟨a2, ha2, hf⟩ := bnd hf
  replace ha2 := cha_some ha2
  obtain ⟨j3, hj3, hf⟩ := bnd hf
  refine hw_iald hx hb hKs hH ha2.1 ha2.2 hj3 dX13_of_10 ?_
  exact hw_iret hx hb hret hf hH hlocks dX13_of_11

theorem dX13_lays_0 : decode cX13_lays 0 = .ok (.aload_n 0, 1) := by decide +kernel
theorem dX13_lays_1 : decode cX13_lays 1 = .ok (.getfield 16, 3) := by decide +kernel
theorem dX13_lays_4 : decode cX13_lays 4 = .ok (.aload_n 0, 1) := by decide +kernel
theorem dX13_lays_5 : decode cX13_lays 5 = .ok (.iload_n 1, 1) := by decide +kernel
theorem dX13_lays_6 : decode cX13_lays 6 = .ok (.iload_n 2, 1) := by decide +kernel
theorem dX13_lays_7 : decode cX13_lays 7 = .ok (.invokevirtual 138, 3) := by decide +kernel
theorem dX13_lays_10 : decode cX13_lays 10 = .ok (.iload_n 3, 1) := by decide +kernel
theorem dX13_lays_11 : decode cX13_lays 11 = .ok (.iastore, 1) := by decide +kernel
theorem dX13_lays_12 : decode cX13_lays 12 = .ok (.return_, 1) := by decide +kernel
theorem hd_X13_lays : yX13_lays.cls = RX13 ∧ yX13_lays.cls ≠ "java/lang/invoke/MethodHandle" ∧ yX13_lays.cls ≠ "java/lang/invoke/VarHandle" ∧ (parseMethodDescriptor yX13_lays.desc).map (fun d => d.parameters.length) = some 3 := by decide +kernel
theorem hs_X13_lays : yX13_lays.cls ≠ "java/lang/invoke/MethodHandle" ∧ yX13_lays.cls ≠ "java/lang/invoke/VarHandle" ∧ (parseMethodDescriptor yX13_lays.desc).map (fun d => d.parameters.length) = some 3 := by decide +kernel
set_option maxHeartbeats 4000000 in
set_option maxRecDepth 100000 in
theorem k_X13_lays (l : Launch) (E : Ev) (K : Kd) (z : Nat) (o : Nat) (a_1 : Int32) (a_2 : Int32) (a_3 : Int32) (w : Wd) (ho : K o = some (11, 0)) {w' : Wd} (hf : f_X13_lays K o a_1 a_2 a_3 w = some w') : Met l yX13_lays (Cond.code yX13_lays cX13_lays 4 (Option.none : Option Jvm.ClassFile.FieldType) :: bt) ({ frames := 1, cells := 0, slots := 0, locals := 22 } : Room) (va_Pc [rv E (some o), .int a_1, .int a_2, .int a_3] (HB E K w z)) (QV E K z w') 0 0 (hA E) := by
  refine Met.ofW (cc := cX13_lays) (maxL := 4) (ret := (Option.none : Option Jvm.ClassFile.FieldType)) (by decide) rfl ?_
  intro p e s m args below meth c s₁ B hml hv
  obtain ⟨rfl, hz, hP, hKs, hT, hb0⟩ := hv
  have C : CX p l e s m _ meth c cX13_lays 4 RX13 (Option.none : Option Jvm.ClassFile.FieldType) E := ⟨B.exec, B.bytes, hml, findClass_of_methodNamed B.named, fun w h => atoms_spec (ws := Cond.code yX13_lays cX13_lays 4 (Option.none : Option Jvm.ClassFile.FieldType) :: bt) B.pre w (List.mem_cons_of_mem _ h), hKs, hT, by rw [hz]; exact hb0, B.notSynchronized, B.returns⟩
  have hH : HQ E K z w s s.heap [] := ⟨hP, va_S.rf, hz⟩
  obtain ⟨hx, hb, hml, hown, hts, hKs, hT, hb0, hlocks, hret⟩ := id C
  have hl := lv_entry [rv E (some o), .int a_1, .int a_2, .int a_3] (n := 4) (by simp [lg_len_nil, lg_len_i, lg_len_j, lg_len_q, lg_len_f, lg_len_d, lg_len_r])
  rw [lg_entry_eq]
  generalize (lg_sl [rv E (some o), .int a_1, .int a_2, .int a_3] ++ List.replicate (4 - (lg_sl [rv E (some o), .int a_1, .int a_2, .int a_3]).length) Slot.unset).toArray = ls at hl ⊢
  replace hl : lv_has ls 4 [(0, rv E (some o)), (1, .int a_1), (2, .int a_2), (3, .int a_3)] := by simpa only [lv_args, cat_q, cat_i, cat_j, reduceIte, Nat.reduceEqDiff, Nat.reduceAdd, Nat.zero_add] using hl
  generalize s.heap = H at hH ⊢
  unfold f_X13_lays at hf
  refine hl_aload_n hx hb dX13_lays_0 rfl (lv_at hl 0 rfl) ?_
  refine g13_3 hx hb hts hown hKs hH rfl ho m6_184 dX13_lays_1 ?_
  refine hl_aload_n hx hb dX13_lays_4 rfl (lv_at hl 0 rfl) ?_
  refine lv_iload_n hx hb dX13_lays_5 rfl (lv_at hl 1 rfl) ?_
  refine lv_iload_n hx hb dX13_lays_6 rfl (lv_at hl 2 rfl) ?_
  obtain ⟨q1, hq1, hf⟩ := bnd hf
  refine hcV_i hx hb hml hown hts hKs hT hb0 hH (As := [.int a_1, .int a_2]) (rest := [rv E (wR w 1303 o)]) (k_X13_at l E K H.size o a_1 a_2 w ho hq1) (gV m7_130 m7_132 ms_55 m1_16 m7_133) hd_X13_at ⟨Nat.le_of_ble_eq_true rfl, Nat.le_of_ble_eq_true rfl, rfl, rfl⟩ rfl ho rfl rfl rfl hl.1 rfl (rcV rc0) rfl dX13_lays_7 ⟨Nat.zero_le _, Nat.zero_le _⟩ (fun H locs hH => ?_)
  refine lv_iload_n hx hb dX13_lays_10 rfl (lv_at hl 3 rfl) ?_
  obtain ⟨a2, ha2, hf⟩ := bnd hf
  replace ha2 := cha_some ha2
  obtain ⟨j3, hj3, hf⟩ := bnd hf
  obtain ⟨w4, hw4, hf⟩ := bnd hf
  replace hw4 := Option.some.inj hw4
  refine hw_iast (x := a_3) hx hb hKs hH ha2.1 ha2.2 hj3 dX13_lays_11 (fun H locs hH => ?_)
  rw [hw4] at hH
  exact hw_vret hx hb hret hf hH hlocks dX13_lays_12

theorem dX13_isCase_0 : decode cX13_isCase 0 = .ok (.iload_n 1, 1) := by decide +kernel
theorem dX13_isCase_1 : decode cX13_isCase 1 = .ok (.i2l, 1) := by decide +kernel
theorem dX13_isCase_2 : decode cX13_isCase 2 = .ok (.lconst 0, 1) := by decide +kernel
theorem dX13_isCase_3 : decode cX13_isCase 3 = .ok (.aload_n 0, 1) := by decide +kernel
theorem dX13_isCase_4 : decode cX13_isCase 4 = .ok (.getfield 7, 3) := by decide +kernel
theorem dX13_isCase_7 : decode cX13_isCase 7 = .ok (.iconst 3, 1) := by decide +kernel
theorem dX13_isCase_8 : decode cX13_isCase 8 = .ok (.iaload, 1) := by decide +kernel
theorem dX13_isCase_9 : decode cX13_isCase 9 = .ok (.iconst 1, 1) := by decide +kernel
theorem dX13_isCase_10 : decode cX13_isCase 10 = .ok (.isub, 1) := by decide +kernel
theorem dX13_isCase_11 : decode cX13_isCase 11 = .ok (.i2l, 1) := by decide +kernel
theorem dX13_isCase_12 : decode cX13_isCase 12 = .ok (.invokestatic 123, 3) := by decide +kernel
theorem dX13_isCase_15 : decode cX13_isCase 15 = .ok (.ireturn, 1) := by decide +kernel
theorem hd_X13_isCase : yX13_isCase.cls = RX13 ∧ yX13_isCase.cls ≠ "java/lang/invoke/MethodHandle" ∧ yX13_isCase.cls ≠ "java/lang/invoke/VarHandle" ∧ (parseMethodDescriptor yX13_isCase.desc).map (fun d => d.parameters.length) = some 1 := by decide +kernel
theorem hs_X13_isCase : yX13_isCase.cls ≠ "java/lang/invoke/MethodHandle" ∧ yX13_isCase.cls ≠ "java/lang/invoke/VarHandle" ∧ (parseMethodDescriptor yX13_isCase.desc).map (fun d => d.parameters.length) = some 1 := by decide +kernel
set_option maxHeartbeats 4000000 in
set_option maxRecDepth 100000 in
theorem k_X13_isCase (l : Launch) (E : Ev) (K : Kd) (z : Nat) (o : Nat) (a_1 : Int32) (w : Wd) (ho : K o = some (11, 0)) {r : Bool} {w' : Wd} (hf : f_X13_isCase K o a_1 w = some (r, w')) : Met l yX13_isCase (Cond.code yX13_isCase cX13_isCase 2 (Option.some Jvm.ClassFile.FieldType.boolean) :: bt) ({ frames := 1, cells := 0, slots := 0, locals := 25 } : Room) (va_Pc [rv E (some o), .int a_1] (HB E K w z)) (QI E K z w' (b2i r)) 0 0 (hA E) := by
  refine Met.ofW (cc := cX13_isCase) (maxL := 2) (ret := (Option.some Jvm.ClassFile.FieldType.boolean)) (by decide) rfl ?_
  intro p e s m args below meth c s₁ B hml hv
  obtain ⟨rfl, hz, hP, hKs, hT, hb0⟩ := hv
  have C : CX p l e s m _ meth c cX13_isCase 2 RX13 (Option.some Jvm.ClassFile.FieldType.boolean) E := ⟨B.exec, B.bytes, hml, findClass_of_methodNamed B.named, fun w h => atoms_spec (ws := Cond.code yX13_isCase cX13_isCase 2 (Option.some Jvm.ClassFile.FieldType.boolean) :: bt) B.pre w (List.mem_cons_of_mem _ h), hKs, hT, by rw [hz]; exact hb0, B.notSynchronized, B.returns⟩
  have hH : HQ E K z w s s.heap [] := ⟨hP, va_S.rf, hz⟩
  obtain ⟨hx, hb, hml, hown, hts, hKs, hT, hb0, hlocks, hret⟩ := id C
  have hl := lv_entry [rv E (some o), .int a_1] (n := 2) (by simp [lg_len_nil, lg_len_i, lg_len_j, lg_len_q, lg_len_f, lg_len_d, lg_len_r])
  rw [lg_entry_eq]
  generalize (lg_sl [rv E (some o), .int a_1] ++ List.replicate (2 - (lg_sl [rv E (some o), .int a_1]).length) Slot.unset).toArray = ls at hl ⊢
  replace hl : lv_has ls 2 [(0, rv E (some o)), (1, .int a_1)] := by simpa only [lv_args, cat_q, cat_i, cat_j, reduceIte, Nat.reduceEqDiff, Nat.reduceAdd, Nat.zero_add] using hl
  generalize s.heap = H at hH ⊢
  unfold f_X13_isCase at hf
  refine lv_iload_n hx hb dX13_isCase_0 rfl (lv_at hl 1 rfl) ?_
  refine lv_i2l (v := (a_1.toInt64)) hx hb dX13_isCase_1 rfl ?_
  refine lv_lconst (v := 0) hx hb dX13_isCase_2 rfl ?_
  refine hl_aload_n hx hb dX13_isCase_3 rfl (lv_at hl 0 rfl) ?_
  refine g13_1 hx hb hts hown hKs hH rfl ho m6_182 dX13_isCase_4 ?_
  refine lv_iconst (v := 3) hx hb dX13_isCase_7 (by decide) ?_
  obtain ⟨a1, ha1, hf⟩ := bnd hf
  replace ha1 := cha_some ha1
  obtain ⟨j2, hj2, hf⟩ := bnd hf
  refine hw_iald hx hb hKs hH ha1.1 ha1.2 hj2 dX13_isCase_8 ?_
  refine lv_iconst (v := 1) hx hb dX13_isCase_9 (by decide) ?_
  refine lv_isub hx hb dX13_isCase_10 ?_
  refine lv_i2l (v := (((aI w a1.1 j2) - 1).toInt64)) hx hb dX13_isCase_11 rfl ?_
  obtain ⟨q3, hq3, hf⟩ := bnd hf
  refine hcS_i hx hb hml hown hts hKs hT hb0 hH (As := [.long (a_1.toInt64), .long 0, .long (((aI w a1.1 j2) - 1).toInt64)]) (rest := []) (k_X13_isIn l E K H.size (a_1.toInt64) 0 (((aI w a1.1 j2) - 1).toInt64) w hq3) (gS m7_88 m7_89 m1_16 m7_90) hs_X13_isIn ⟨Nat.le_of_ble_eq_true rfl, Nat.le_of_ble_eq_true rfl, rfl, rfl⟩ hl.1 rfl rc0 rfl dX13_isCase_12 ⟨Nat.zero_le _, Nat.zero_le _⟩ (fun H locs hH => ?_)
  exact hw_zret hx hb hret rfl hf hH hlocks dX13_isCase_15

theorem dX13_isRoom_0 : decode cX13_isRoom 0 = .ok (.iload_n 1, 1) := by decide +kernel
theorem dX13_isRoom_1 : decode cX13_isRoom 1 = .ok (.i2l, 1) := by decide +kernel
theorem dX13_isRoom_2 : decode cX13_isRoom 2 = .ok (.lconst 0, 1) := by decide +kernel
theorem dX13_isRoom_3 : decode cX13_isRoom 3 = .ok (.aload_n 0, 1) := by decide +kernel
theorem dX13_isRoom_4 : decode cX13_isRoom 4 = .ok (.getfield 7, 3) := by decide +kernel
theorem dX13_isRoom_7 : decode cX13_isRoom 7 = .ok (.iconst 0, 1) := by decide +kernel
theorem dX13_isRoom_8 : decode cX13_isRoom 8 = .ok (.iaload, 1) := by decide +kernel
theorem dX13_isRoom_9 : decode cX13_isRoom 9 = .ok (.iconst 1, 1) := by decide +kernel
theorem dX13_isRoom_10 : decode cX13_isRoom 10 = .ok (.isub, 1) := by decide +kernel
theorem dX13_isRoom_11 : decode cX13_isRoom 11 = .ok (.i2l, 1) := by decide +kernel
theorem dX13_isRoom_12 : decode cX13_isRoom 12 = .ok (.invokestatic 123, 3) := by decide +kernel
theorem dX13_isRoom_15 : decode cX13_isRoom 15 = .ok (.ireturn, 1) := by decide +kernel
theorem hd_X13_isRoom : yX13_isRoom.cls = RX13 ∧ yX13_isRoom.cls ≠ "java/lang/invoke/MethodHandle" ∧ yX13_isRoom.cls ≠ "java/lang/invoke/VarHandle" ∧ (parseMethodDescriptor yX13_isRoom.desc).map (fun d => d.parameters.length) = some 1 := by decide +kernel
theorem hs_X13_isRoom : yX13_isRoom.cls ≠ "java/lang/invoke/MethodHandle" ∧ yX13_isRoom.cls ≠ "java/lang/invoke/VarHandle" ∧ (parseMethodDescriptor yX13_isRoom.desc).map (fun d => d.parameters.length) = some 1 := by decide +kernel
set_option maxHeartbeats 4000000 in
set_option maxRecDepth 100000 in
theorem k_X13_isRoom (l : Launch) (E : Ev) (K : Kd) (z : Nat) (o : Nat) (a_1 : Int32) (w : Wd) (ho : K o = some (11, 0)) {r : Bool} {w' : Wd} (hf : f_X13_isRoom K o a_1 w = some (r, w')) : Met l yX13_isRoom (Cond.code yX13_isRoom cX13_isRoom 2 (Option.some Jvm.ClassFile.FieldType.boolean) :: bt) ({ frames := 1, cells := 0, slots := 0, locals := 25 } : Room) (va_Pc [rv E (some o), .int a_1] (HB E K w z)) (QI E K z w' (b2i r)) 0 0 (hA E) := by
  refine Met.ofW (cc := cX13_isRoom) (maxL := 2) (ret := (Option.some Jvm.ClassFile.FieldType.boolean)) (by decide) rfl ?_
  intro p e s m args below meth c s₁ B hml hv
  obtain ⟨rfl, hz, hP, hKs, hT, hb0⟩ := hv
  have C : CX p l e s m _ meth c cX13_isRoom 2 RX13 (Option.some Jvm.ClassFile.FieldType.boolean) E := ⟨B.exec, B.bytes, hml, findClass_of_methodNamed B.named, fun w h => atoms_spec (ws := Cond.code yX13_isRoom cX13_isRoom 2 (Option.some Jvm.ClassFile.FieldType.boolean) :: bt) B.pre w (List.mem_cons_of_mem _ h), hKs, hT, by rw [hz]; exact hb0, B.notSynchronized, B.returns⟩
  have hH : HQ E K z w s s.heap [] := ⟨hP, va_S.rf, hz⟩
  obtain ⟨hx, hb, hml, hown, hts, hKs, hT, hb0, hlocks, hret⟩ := id C
  have hl := lv_entry [rv E (some o), .int a_1] (n := 2) (by simp [lg_len_nil, lg_len_i, lg_len_j, lg_len_q, lg_len_f, lg_len_d, lg_len_r])
  rw [lg_entry_eq]
  generalize (lg_sl [rv E (some o), .int a_1] ++ List.replicate (2 - (lg_sl [rv E (some o), .int a_1]).length) Slot.unset).toArray = ls at hl ⊢
  replace hl : lv_has ls 2 [(0, rv E (some o)), (1, .int a_1)] := by simpa only [lv_args, cat_q, cat_i, cat_j, reduceIte, Nat.reduceEqDiff, Nat.reduceAdd, Nat.zero_add] using hl
  generalize s.heap = H at hH ⊢
  unfold f_X13_isRoom at hf
  refine lv_iload_n hx hb dX13_isRoom_0 rfl (lv_at hl 1 rfl) ?_
  refine lv_i2l (v := (a_1.toInt64)) hx hb dX13_isRoom_1 rfl ?_
  refine lv_lconst (v := 0) hx hb dX13_isRoom_2 rfl ?_
  refine hl_aload_n hx hb dX13_isRoom_3 rfl (lv_at hl 0 rfl) ?_
  refine g13_1 hx hb hts hown hKs hH rfl ho m6_182 dX13_isRoom_4 ?_
  refine lv_iconst (v := 0) hx hb dX13_isRoom_7 (by decide) ?_
  obtain ⟨a1, ha1, hf⟩ := bnd hf
  replace ha1 := cha_some ha1
  obtain ⟨j2, hj2, hf⟩ := bnd hf
  refine hw_iald hx hb hKs hH ha1.1 ha1.2 hj2 dX13_isRoom_8 ?_
  refine lv_iconst (v := 1) hx hb dX13_isRoom_9 (by decide) ?_
  refine lv_isub hx hb dX13_isRoom_10 ?_
  refine lv_i2l (v := (((aI w a1.1 j2) - 1).toInt64)) hx hb dX13_isRoom_11 rfl ?_
  obtain ⟨q3, hq3, hf⟩ := bnd hf
  refine hcS_i hx hb hml hown hts hKs hT hb0 hH (As := [.long (a_1.toInt64), .long 0, .long (((aI w a1.1 j2) - 1).toInt64)]) (rest := []) (k_X13_isIn l E K H.size (a_1.toInt64) 0 (((aI w a1.1 j2) - 1).toInt64) w hq3) (gS m7_88 m7_89 m1_16 m7_90) hs_X13_isIn ⟨Nat.le_of_ble_eq_true rfl, Nat.le_of_ble_eq_true rfl, rfl, rfl⟩ hl.1 rfl rc0 rfl dX13_isRoom_12 ⟨Nat.zero_le _, Nat.zero_le _⟩ (fun H locs hH => ?_)
  exact hw_zret hx hb hret rfl hf hH hlocks dX13_isRoom_15

theorem dX13_isOfficer_0 : decode cX13_isOfficer 0 = .ok (.iload_n 1, 1) := by decide +kernel
theorem dX13_isOfficer_1 : decode cX13_isOfficer 1 = .ok (.i2l, 1) := by decide +kernel
theorem dX13_isOfficer_2 : decode cX13_isOfficer 2 = .ok (.lconst 0, 1) := by decide +kernel
theorem dX13_isOfficer_3 : decode cX13_isOfficer 3 = .ok (.aload_n 0, 1) := by decide +kernel
theorem dX13_isOfficer_4 : decode cX13_isOfficer 4 = .ok (.getfield 7, 3) := by decide +kernel
theorem dX13_isOfficer_7 : decode cX13_isOfficer 7 = .ok (.iconst 1, 1) := by decide +kernel
theorem dX13_isOfficer_8 : decode cX13_isOfficer 8 = .ok (.iaload, 1) := by decide +kernel
theorem dX13_isOfficer_9 : decode cX13_isOfficer 9 = .ok (.iconst 1, 1) := by decide +kernel
theorem dX13_isOfficer_10 : decode cX13_isOfficer 10 = .ok (.isub, 1) := by decide +kernel
theorem dX13_isOfficer_11 : decode cX13_isOfficer 11 = .ok (.i2l, 1) := by decide +kernel
theorem dX13_isOfficer_12 : decode cX13_isOfficer 12 = .ok (.invokestatic 123, 3) := by decide +kernel
theorem dX13_isOfficer_15 : decode cX13_isOfficer 15 = .ok (.ireturn, 1) := by decide +kernel
theorem hd_X13_isOfficer : yX13_isOfficer.cls = RX13 ∧ yX13_isOfficer.cls ≠ "java/lang/invoke/MethodHandle" ∧ yX13_isOfficer.cls ≠ "java/lang/invoke/VarHandle" ∧ (parseMethodDescriptor yX13_isOfficer.desc).map (fun d => d.parameters.length) = some 1 := by decide +kernel
theorem hs_X13_isOfficer : yX13_isOfficer.cls ≠ "java/lang/invoke/MethodHandle" ∧ yX13_isOfficer.cls ≠ "java/lang/invoke/VarHandle" ∧ (parseMethodDescriptor yX13_isOfficer.desc).map (fun d => d.parameters.length) = some 1 := by decide +kernel
set_option maxHeartbeats 4000000 in
set_option maxRecDepth 100000 in
theorem k_X13_isOfficer (l : Launch) (E : Ev) (K : Kd) (z : Nat) (o : Nat) (a_1 : Int32) (w : Wd) (ho : K o = some (11, 0)) {r : Bool} {w' : Wd} (hf : f_X13_isOfficer K o a_1 w = some (r, w')) : Met l yX13_isOfficer (Cond.code yX13_isOfficer cX13_isOfficer 2 (Option.some Jvm.ClassFile.FieldType.boolean) :: bt) ({ frames := 1, cells := 0, slots := 0, locals := 25 } : Room) (va_Pc [rv E (some o), .int a_1] (HB E K w z)) (QI E K z w' (b2i r)) 0 0 (hA E) := by
  refine Met.ofW (cc := cX13_isOfficer) (maxL := 2) (ret := (Option.some Jvm.ClassFile.FieldType.boolean)) (by decide) rfl ?_
  intro p e s m args below meth c s₁ B hml hv
  obtain ⟨rfl, hz, hP, hKs, hT, hb0⟩ := hv
  have C : CX p l e s m _ meth c cX13_isOfficer 2 RX13 (Option.some Jvm.ClassFile.FieldType.boolean) E := ⟨B.exec, B.bytes, hml, findClass_of_methodNamed B.named, fun w h => atoms_spec (ws := Cond.code yX13_isOfficer cX13_isOfficer 2 (Option.some Jvm.ClassFile.FieldType.boolean) :: bt) B.pre w (List.mem_cons_of_mem _ h), hKs, hT, by rw [hz]; exact hb0, B.notSynchronized, B.returns⟩
  have hH : HQ E K z w s s.heap [] := ⟨hP, va_S.rf, hz⟩
  obtain ⟨hx, hb, hml, hown, hts, hKs, hT, hb0, hlocks, hret⟩ := id C
  have hl := lv_entry [rv E (some o), .int a_1] (n := 2) (by simp [lg_len_nil, lg_len_i, lg_len_j, lg_len_q, lg_len_f, lg_len_d, lg_len_r])
  rw [lg_entry_eq]
  generalize (lg_sl [rv E (some o), .int a_1] ++ List.replicate (2 - (lg_sl [rv E (some o), .int a_1]).length) Slot.unset).toArray = ls at hl ⊢
  replace hl : lv_has ls 2 [(0, rv E (some o)), (1, .int a_1)] := by simpa only [lv_args, cat_q, cat_i, cat_j, reduceIte, Nat.reduceEqDiff, Nat.reduceAdd, Nat.zero_add] using hl
  generalize s.heap = H at hH ⊢
  unfold f_X13_isOfficer at hf
  refine lv_iload_n hx hb dX13_isOfficer_0 rfl (lv_at hl 1 rfl) ?_
  refine lv_i2l (v := (a_1.toInt64)) hx hb dX13_isOfficer_1 rfl ?_
  refine lv_lconst (v := 0) hx hb dX13_isOfficer_2 rfl ?_
  refine hl_aload_n hx hb dX13_isOfficer_3 rfl (lv_at hl 0 rfl) ?_
  refine g13_1 hx hb hts hown hKs hH rfl ho m6_182 dX13_isOfficer_4 ?_
  refine lv_iconst (v := 1) hx hb dX13_isOfficer_7 (by decide) ?_
  obtain ⟨a1, ha1, hf⟩ := bnd hf
  replace ha1 := cha_some ha1
  obtain ⟨j2, hj2, hf⟩ := bnd hf
  refine hw_iald hx hb hKs hH ha1.1 ha1.2 hj2 dX13_isOfficer_8 ?_
  refine lv_iconst (v := 1) hx hb dX13_isOfficer_9 (by decide) ?_
  refine lv_isub hx hb dX13_isOfficer_10 ?_
  refine lv_i2l (v := (((aI w a1.1 j2) - 1).toInt64)) hx hb dX13_isOfficer_11 rfl ?_
  obtain ⟨q3, hq3, hf⟩ := bnd hf
  refine hcS_i hx hb hml hown hts hKs hT hb0 hH (As := [.long (a_1.toInt64), .long 0, .long (((aI w a1.1 j2) - 1).toInt64)]) (rest := []) (k_X13_isIn l E K H.size (a_1.toInt64) 0 (((aI w a1.1 j2) - 1).toInt64) w hq3) (gS m7_88 m7_89 m1_16 m7_90) hs_X13_isIn ⟨Nat.le_of_ble_eq_true rfl, Nat.le_of_ble_eq_true rfl, rfl, rfl⟩ hl.1 rfl rc0 rfl dX13_isOfficer_12 ⟨Nat.zero_le _, Nat.zero_le _⟩ (fun H locs hH => ?_)
  exact hw_zret hx hb hret rfl hf hH hlocks dX13_isOfficer_15

theorem dX13_isWitness_0 : decode cX13_isWitness 0 = .ok (.iload_n 1, 1) := by decide +kernel
theorem dX13_isWitness_1 : decode cX13_isWitness 1 = .ok (.i2l, 1) := by decide +kernel
theorem dX13_isWitness_2 : decode cX13_isWitness 2 = .ok (.lconst 0, 1) := by decide +kernel
theorem dX13_isWitness_3 : decode cX13_isWitness 3 = .ok (.aload_n 0, 1) := by decide +kernel
theorem dX13_isWitness_4 : decode cX13_isWitness 4 = .ok (.getfield 7, 3) := by decide +kernel
theorem dX13_isWitness_7 : decode cX13_isWitness 7 = .ok (.iconst 2, 1) := by decide +kernel
theorem dX13_isWitness_8 : decode cX13_isWitness 8 = .ok (.iaload, 1) := by decide +kernel
theorem dX13_isWitness_9 : decode cX13_isWitness 9 = .ok (.iconst 1, 1) := by decide +kernel
theorem dX13_isWitness_10 : decode cX13_isWitness 10 = .ok (.isub, 1) := by decide +kernel
theorem dX13_isWitness_11 : decode cX13_isWitness 11 = .ok (.i2l, 1) := by decide +kernel
theorem dX13_isWitness_12 : decode cX13_isWitness 12 = .ok (.invokestatic 123, 3) := by decide +kernel
theorem dX13_isWitness_15 : decode cX13_isWitness 15 = .ok (.ireturn, 1) := by decide +kernel
theorem hd_X13_isWitness : yX13_isWitness.cls = RX13 ∧ yX13_isWitness.cls ≠ "java/lang/invoke/MethodHandle" ∧ yX13_isWitness.cls ≠ "java/lang/invoke/VarHandle" ∧ (parseMethodDescriptor yX13_isWitness.desc).map (fun d => d.parameters.length) = some 1 := by decide +kernel
theorem hs_X13_isWitness : yX13_isWitness.cls ≠ "java/lang/invoke/MethodHandle" ∧ yX13_isWitness.cls ≠ "java/lang/invoke/VarHandle" ∧ (parseMethodDescriptor yX13_isWitness.desc).map (fun d => d.parameters.length) = some 1 := by decide +kernel
set_option maxHeartbeats 4000000 in
set_option maxRecDepth 100000 in
theorem k_X13_isWitness (l : Launch) (E : Ev) (K : Kd) (z : Nat) (o : Nat) (a_1 : Int32) (w : Wd) (ho : K o = some (11, 0)) {r : Bool} {w' : Wd} (hf : f_X13_isWitness K o a_1 w = some (r, w')) : Met l yX13_isWitness (Cond.code yX13_isWitness cX13_isWitness 2 (Option.some Jvm.ClassFile.FieldType.boolean) :: bt) ({ frames := 1, cells := 0, slots := 0, locals := 25 } : Room) (va_Pc [rv E (some o), .int a_1] (HB E K w z)) (QI E K z w' (b2i r)) 0 0 (hA E) := by
  refine Met.ofW (cc := cX13_isWitness) (maxL := 2) (ret := (Option.some Jvm.ClassFile.FieldType.boolean)) (by decide) rfl ?_
  intro p e s m args below meth c s₁ B hml hv
  obtain ⟨rfl, hz, hP, hKs, hT, hb0⟩ := hv
  have C : CX p l e s m _ meth c cX13_isWitness 2 RX13 (Option.some Jvm.ClassFile.FieldType.boolean) E := ⟨B.exec, B.bytes, hml, findClass_of_methodNamed B.named, fun w h => atoms_spec (ws := Cond.code yX13_isWitness cX13_isWitness 2 (Option.some Jvm.ClassFile.FieldType.boolean) :: bt) B.pre w (List.mem_cons_of_mem _ h), hKs, hT, by rw [hz]; exact hb0, B.notSynchronized, B.returns⟩
  have hH : HQ E K z w s s.heap [] := ⟨hP, va_S.rf, hz⟩
  obtain ⟨hx, hb, hml, hown, hts, hKs, hT, hb0, hlocks, hret⟩ := id C
  have hl := lv_entry [rv E (some o), .int a_1] (n := 2) (by simp [lg_len_nil, lg_len_i, lg_len_j, lg_len_q, lg_len_f, lg_len_d, lg_len_r])
  rw [lg_entry_eq]
  generalize (lg_sl [rv E (some o), .int a_1] ++ List.replicate (2 - (lg_sl [rv E (some o), .int a_1]).length) Slot.unset).toArray = ls at hl ⊢
  replace hl : lv_has ls 2 [(0, rv E (some o)), (1, .int a_1)] := by simpa only [lv_args, cat_q, cat_i, cat_j, reduceIte, Nat.reduceEqDiff, Nat.reduceAdd, Nat.zero_add] using hl
  generalize s.heap = H at hH ⊢
  unfold f_X13_isWitness at hf
  refine lv_iload_n hx hb dX13_isWitness_0 rfl (lv_at hl 1 rfl) ?_
  refine lv_i2l (v := (a_1.toInt64)) hx hb dX13_isWitness_1 rfl ?_
  refine lv_lconst (v := 0) hx hb dX13_isWitness_2 rfl ?_
  refine hl_aload_n hx hb dX13_isWitness_3 rfl (lv_at hl 0 rfl) ?_
  refine g13_1 hx hb hts hown hKs hH rfl ho m6_182 dX13_isWitness_4 ?_
  refine lv_iconst (v := 2) hx hb dX13_isWitness_7 (by decide) ?_
  obtain ⟨a1, ha1, hf⟩ := bnd hf
  replace ha1 := cha_some ha1
  obtain ⟨j2, hj2, hf⟩ := bnd hf
  refine hw_iald hx hb hKs hH ha1.1 ha1.2 hj2 dX13_isWitness_8 ?_
  refine lv_iconst (v := 1) hx hb dX13_isWitness_9 (by decide) ?_
  refine lv_isub hx hb dX13_isWitness_10 ?_
  refine lv_i2l (v := (((aI w a1.1 j2) - 1).toInt64)) hx hb dX13_isWitness_11 rfl ?_
  obtain ⟨q3, hq3, hf⟩ := bnd hf
  refine hcS_i hx hb hml hown hts hKs hT hb0 hH (As := [.long (a_1.toInt64), .long 0, .long (((aI w a1.1 j2) - 1).toInt64)]) (rest := []) (k_X13_isIn l E K H.size (a_1.toInt64) 0 (((aI w a1.1 j2) - 1).toInt64) w hq3) (gS m7_88 m7_89 m1_16 m7_90) hs_X13_isIn ⟨Nat.le_of_ble_eq_true rfl, Nat.le_of_ble_eq_true rfl, rfl, rfl⟩ hl.1 rfl rc0 rfl dX13_isWitness_12 ⟨Nat.zero_le _, Nat.zero_le _⟩ (fun H locs hH => ?_)
  exact hw_zret hx hb hret rfl hf hH hlocks dX13_isWitness_15

theorem dX13_limitDay_0 : decode cX13_limitDay 0 = .ok (.aload_n 0, 1) := by decide +kernel
theorem dX13_limitDay_1 : decode cX13_limitDay 1 = .ok (.getfield 7, 3) := by decide +kernel
theorem dX13_limitDay_4 : decode cX13_limitDay 4 = .ok (.bipush 112, 2) := by decide +kernel
theorem dX13_limitDay_6 : decode cX13_limitDay 6 = .ok (.iload_n 1, 1) := by decide +kernel
theorem dX13_limitDay_7 : decode cX13_limitDay 7 = .ok (.iadd, 1) := by decide +kernel
theorem dX13_limitDay_8 : decode cX13_limitDay 8 = .ok (.iaload, 1) := by decide +kernel
theorem dX13_limitDay_9 : decode cX13_limitDay 9 = .ok (.aload_n 0, 1) := by decide +kernel
theorem dX13_limitDay_10 : decode cX13_limitDay 10 = .ok (.iload_n 1, 1) := by decide +kernel
theorem dX13_limitDay_11 : decode cX13_limitDay 11 = .ok (.iconst 1, 1) := by decide +kernel
theorem dX13_limitDay_12 : decode cX13_limitDay 12 = .ok (.invokevirtual 141, 3) := by decide +kernel
theorem dX13_limitDay_15 : decode cX13_limitDay 15 = .ok (.iadd, 1) := by decide +kernel
theorem dX13_limitDay_16 : decode cX13_limitDay 16 = .ok (.istore_n 2, 1) := by decide +kernel
theorem dX13_limitDay_17 : decode cX13_limitDay 17 = .ok (.aload_n 0, 1) := by decide +kernel
theorem dX13_limitDay_18 : decode cX13_limitDay 18 = .ok (.getfield 7, 3) := by decide +kernel
theorem dX13_limitDay_21 : decode cX13_limitDay 21 = .ok (.bipush 88, 2) := by decide +kernel
theorem dX13_limitDay_23 : decode cX13_limitDay 23 = .ok (.iload_n 1, 1) := by decide +kernel
theorem dX13_limitDay_24 : decode cX13_limitDay 24 = .ok (.iadd, 1) := by decide +kernel
theorem dX13_limitDay_25 : decode cX13_limitDay 25 = .ok (.iaload, 1) := by decide +kernel
theorem dX13_limitDay_26 : decode cX13_limitDay 26 = .ok (.istore_n 3, 1) := by decide +kernel
theorem dX13_limitDay_27 : decode cX13_limitDay 27 = .ok (.iload_n 2, 1) := by decide +kernel
theorem dX13_limitDay_28 : decode cX13_limitDay 28 = .ok (.ifCond .le 22, 3) := by decide +kernel
theorem dX13_limitDay_31 : decode cX13_limitDay 31 = .ok (.iload_n 3, 1) := by decide +kernel
theorem dX13_limitDay_32 : decode cX13_limitDay 32 = .ok (.iconst 1, 1) := by decide +kernel
theorem dX13_limitDay_33 : decode cX13_limitDay 33 = .ok (.iadd, 1) := by decide +kernel
theorem dX13_limitDay_34 : decode cX13_limitDay 34 = .ok (.istore_n 3, 1) := by decide +kernel
theorem dX13_limitDay_35 : decode cX13_limitDay 35 = .ok (.aload_n 0, 1) := by decide +kernel
theorem dX13_limitDay_36 : decode cX13_limitDay 36 = .ok (.iload_n 3, 1) := by decide +kernel
theorem dX13_limitDay_37 : decode cX13_limitDay 37 = .ok (.invokevirtual 118, 3) := by decide +kernel
theorem dX13_limitDay_40 : decode cX13_limitDay 40 = .ok (.ifCond .eq (-13), 3) := by decide +kernel
theorem dX13_limitDay_43 : decode cX13_limitDay 43 = .ok (.iload_n 2, 1) := by decide +kernel
theorem dX13_limitDay_44 : decode cX13_limitDay 44 = .ok (.iconst 1, 1) := by decide +kernel
theorem dX13_limitDay_45 : decode cX13_limitDay 45 = .ok (.isub, 1) := by decide +kernel
theorem dX13_limitDay_46 : decode cX13_limitDay 46 = .ok (.istore_n 2, 1) := by decide +kernel
theorem dX13_limitDay_47 : decode cX13_limitDay 47 = .ok (.goto (-20), 3) := by decide +kernel
theorem dX13_limitDay_50 : decode cX13_limitDay 50 = .ok (.iload_n 3, 1) := by decide +kernel
theorem dX13_limitDay_51 : decode cX13_limitDay 51 = .ok (.ireturn, 1) := by decide +kernel
theorem hd_X13_limitDay : yX13_limitDay.cls = RX13 ∧ yX13_limitDay.cls ≠ "java/lang/invoke/MethodHandle" ∧ yX13_limitDay.cls ≠ "java/lang/invoke/VarHandle" ∧ (parseMethodDescriptor yX13_limitDay.desc).map (fun d => d.parameters.length) = some 1 := by decide +kernel
theorem hs_X13_limitDay : yX13_limitDay.cls ≠ "java/lang/invoke/MethodHandle" ∧ yX13_limitDay.cls ≠ "java/lang/invoke/VarHandle" ∧ (parseMethodDescriptor yX13_limitDay.desc).map (fun d => d.parameters.length) = some 1 := by decide +kernel
set_option maxHeartbeats 4000000 in
set_option maxRecDepth 100000 in
theorem l_X13_limitDay_L27 (C : CX p l e s m args meth c cX13_limitDay 4 RX13 (Option.some Jvm.ClassFile.FieldType.int) E) {o : Nat} (ho : K o = some (11, 0)) {r : Int32} {w' : Wd} (k : Int32 → Int32 → Int32 → Wd → Option (Int32 × Wd)) (hk : ∀ (v1_27 : Int32) (v2_27 : Int32) (v3_27 : Int32) (w : Wd) (H : Heap) (locs : List Loc) (ls : Array Slot), HQ E K z w s H locs → lv_has ls 4 [(1, .int v1_27), (2, .int v2_27), (3, .int v3_27), (0, rv E (some o))] → k v1_27 v2_27 v3_27 w = some (r, w') → W p l e ({ frames := 2, cells := 0, slots := 0, locals := 44 } : Room) s m args below meth c H locs 0 0 (MQ below (QI E K z w' r) args s 0 0 (hA E)) (F0 m 50 ls [])) : ∀ (n : Nat) (v1_27 : Int32) (v2_27 : Int32) (v3_27 : Int32) (w : Wd) (H : Heap) (locs : List Loc) (ls : Array Slot), HQ E K z w s H locs → lv_has ls 4 [(1, .int v1_27), (2, .int v2_27), (3, .int v3_27), (0, rv E (some o))] → f_X13_limitDay_L27 K o k n v1_27 v2_27 v3_27 w = some (r, w') → W p l e ({ frames := 2, cells := 0, slots := 0, locals := 44 } : Room) s m args below meth c H locs 0 0 (MQ below (QI E K z w' r) args s 0 0 (hA E)) (F0 m 27 ls []) := by
  obtain ⟨hx, hb, hml, hown, hts, hKs, hT, hb0, hlocks, hret⟩ := id C
  intro n
  induction n with
  | zero =>
    intro v1_27 v2_27 v3_27 w H locs ls hH hl hf
    cases hf
  | succ n ih =>
    intro v1_27 v2_27 v3_27 w H locs ls hH hl hf
    rw [f_X13_limitDay_L27] at hf
    refine lv_iload_n hx hb dX13_limitDay_27 rfl (lv_at hl 1 rfl) ?_
    refine lv_if_le (tgt := 50) hx hb dX13_limitDay_28 (by decide) (fun c7 => ?_) (fun c7 => ?_)
    · replace hf := (if_pos c7).symm.trans hf
      exact hk v1_27 v2_27 v3_27 _ _ _ _ hH (lv_sub hl [0, 1, 2, 3] rfl) hf
    · replace hf := (if_neg c7).symm.trans hf
      refine lv_iload_n hx hb dX13_limitDay_31 rfl (lv_at hl 2 rfl) ?_
      refine lv_iconst (v := 1) hx hb dX13_limitDay_32 (by decide) ?_
      refine lv_iadd hx hb dX13_limitDay_33 ?_
      refine lv_istore_n (i := 3) (lv' := [(3, .int ((v3_27 + 1))), (1, .int v1_27), (2, .int v2_27), (0, rv E (some o))]) hx hb dX13_limitDay_34 rfl hl (by decide) rfl (fun ls hl => ?_)
      refine hl_aload_n hx hb dX13_limitDay_35 rfl (lv_at hl 3 rfl) ?_
      refine lv_iload_n hx hb dX13_limitDay_36 rfl (lv_at hl 0 rfl) ?_
      obtain ⟨q8, hq8, hf⟩ := bnd hf
      refine hcV_i hx hb hml hown hts hKs hT hb0 hH (As := [.int ((v3_27 + 1))]) (rest := []) (k_X13_isWorking l E K H.size o (v3_27 + 1) w ho hq8) (gV m7_91 m7_93 ms_48 m1_16 m7_94) hd_X13_isWorking ⟨Nat.le_of_ble_eq_true rfl, Nat.le_of_ble_eq_true rfl, rfl, rfl⟩ rfl ho rfl rfl rfl hl.1 rfl rc0 rfl dX13_limitDay_37 ⟨Nat.zero_le _, Nat.zero_le _⟩ (fun H locs hH => ?_)
      refine lv_if_eq (tgt := 27) hx hb dX13_limitDay_40 (by decide) (fun c9 => ?_) (fun c9 => ?_)
      · replace hf := (if_pos c9).symm.trans hf
        exact ih v1_27 v2_27 (v3_27 + 1) _ _ _ _ hH (lv_sub hl [1, 2, 0, 3] rfl) hf
      · replace hf := (if_neg c9).symm.trans hf
        refine lv_iload_n hx hb dX13_limitDay_43 rfl (lv_at hl 2 rfl) ?_
        refine lv_iconst (v := 1) hx hb dX13_limitDay_44 (by decide) ?_
        refine lv_isub hx hb dX13_limitDay_45 ?_
        refine lv_istore_n (i := 2) (lv' := [(2, .int ((v2_27 - 1))), (3, .int ((v3_27 + 1))), (1, .int v1_27), (0, rv E (some o))]) hx hb dX13_limitDay_46 rfl hl (by decide) rfl (fun ls hl => ?_)
        refine lv_goto (tgt := 27) hx hb dX13_limitDay_47 (by decide) ?_
        exact ih v1_27 (v2_27 - 1) (v3_27 + 1) _ _ _ _ hH (lv_sub hl [2, 0, 1, 3] rfl) hf
set_option maxHeartbeats 4000000 in
set_option maxRecDepth 100000 in
theorem k_X13_limitDay (l : Launch) (E : Ev) (K : Kd) (z : Nat) (o : Nat) (a_1 : Int32) (w : Wd) (ho : K o = some (11, 0)) {r : Int32} {w' : Wd} (hf : f_X13_limitDay K o a_1 w = some (r, w')) : Met l yX13_limitDay (Cond.code yX13_limitDay cX13_limitDay 4 (Option.some Jvm.ClassFile.FieldType.int) :: bt) ({ frames := 2, cells := 0, slots := 0, locals := 44 } : Room) (va_Pc [rv E (some o), .int a_1] (HB E K w z)) (QI E K z w' r) 0 0 (hA E) := by
  refine Met.ofW (cc := cX13_limitDay) (maxL := 4) (ret := (Option.some Jvm.ClassFile.FieldType.int)) (by decide) rfl ?_
  intro p e s m args below meth c s₁ B hml hv
  obtain ⟨rfl, hz, hP, hKs, hT, hb0⟩ := hv
  have C : CX p l e s m _ meth c cX13_limitDay 4 RX13 (Option.some Jvm.ClassFile.FieldType.int) E := ⟨B.exec, B.bytes, hml, findClass_of_methodNamed B.named, fun w h => atoms_spec (ws := Cond.code yX13_limitDay cX13_limitDay 4 (Option.some Jvm.ClassFile.FieldType.int) :: bt) B.pre w (List.mem_cons_of_mem _ h), hKs, hT, by rw [hz]; exact hb0, B.notSynchronized, B.returns⟩
  have hH : HQ E K z w s s.heap [] := ⟨hP, va_S.rf, hz⟩
  obtain ⟨hx, hb, hml, hown, hts, hKs, hT, hb0, hlocks, hret⟩ := id C
  have hl := lv_entry [rv E (some o), .int a_1] (n := 4) (by simp [lg_len_nil, lg_len_i, lg_len_j, lg_len_q, lg_len_f, lg_len_d, lg_len_r])
  rw [lg_entry_eq]
  generalize (lg_sl [rv E (some o), .int a_1] ++ List.replicate (4 - (lg_sl [rv E (some o), .int a_1]).length) Slot.unset).toArray = ls at hl ⊢
  replace hl : lv_has ls 4 [(0, rv E (some o)), (1, .int a_1)] := by simpa only [lv_args, cat_q, cat_i, cat_j, reduceIte, Nat.reduceEqDiff, Nat.reduceAdd, Nat.zero_add] using hl
  generalize s.heap = H at hH ⊢
  unfold f_X13_limitDay at hf
  refine hl_aload_n hx hb dX13_limitDay_0 rfl (lv_at hl 0 rfl) ?_
  refine g13_1 hx hb hts hown hKs hH rfl ho m6_182 dX13_limitDay_1 ?_
  refine lv_bipush (v := 112) hx hb dX13_limitDay_4 (by decide) ?_
  refine lv_iload_n hx hb dX13_limitDay_6 rfl (lv_at hl 1 rfl) ?_
  refine lv_iadd hx hb dX13_limitDay_7 ?_
  obtain ⟨a1, ha1, hf⟩ := bnd hf
  replace ha1 := cha_some ha1
  obtain ⟨j2, hj2, hf⟩ := bnd hf
  refine hw_iald hx hb hKs hH ha1.1 ha1.2 hj2 dX13_limitDay_8 ?_
  refine hl_aload_n hx hb dX13_limitDay_9 rfl (lv_at hl 0 rfl) ?_
  refine lv_iload_n hx hb dX13_limitDay_10 rfl (lv_at hl 1 rfl) ?_
  refine lv_iconst (v := 1) hx hb dX13_limitDay_11 (by decide) ?_
  obtain ⟨q3, hq3, hf⟩ := bnd hf
  refine hcV_i hx hb hml hown hts hKs hT hb0 hH (As := [.int a_1, .int 1]) (rest := [.int ((aI w a1.1 j2))]) (k_X13_of l E K H.size o a_1 1 w ho hq3) (gV m7_126 m7_128 ms_54 m1_16 m7_129) hd_X13_of ⟨Nat.le_of_ble_eq_true rfl, Nat.le_of_ble_eq_true rfl, rfl, rfl⟩ rfl ho rfl rfl rfl hl.1 rfl (rcI rc0) rfl dX13_limitDay_12 ⟨Nat.zero_le _, Nat.zero_le _⟩ (fun H locs hH => ?_)
  refine lv_iadd hx hb dX13_limitDay_15 ?_
  refine lv_istore_n (i := 2) (lv' := [(2, .int (((aI w a1.1 j2) + q3.1))), (0, rv E (some o)), (1, .int a_1)]) hx hb dX13_limitDay_16 rfl hl (by decide) rfl (fun ls hl => ?_)
  refine hl_aload_n hx hb dX13_limitDay_17 rfl (lv_at hl 1 rfl) ?_
  refine g13_1 hx hb hts hown hKs hH rfl ho m6_182 dX13_limitDay_18 ?_
  refine lv_bipush (v := 88) hx hb dX13_limitDay_21 (by decide) ?_
  refine lv_iload_n hx hb dX13_limitDay_23 rfl (lv_at hl 2 rfl) ?_
  refine lv_iadd hx hb dX13_limitDay_24 ?_
  obtain ⟨a4, ha4, hf⟩ := bnd hf
  replace ha4 := cha_some ha4
  obtain ⟨j5, hj5, hf⟩ := bnd hf
  refine hw_iald hx hb hKs hH ha4.1 ha4.2 hj5 dX13_limitDay_25 ?_
  refine lv_istore_n (i := 3) (lv' := [(3, .int ((aI q3.2 a4.1 j5))), (2, .int (((aI w a1.1 j2) + q3.1))), (0, rv E (some o)), (1, .int a_1)]) hx hb dX13_limitDay_26 rfl hl (by decide) rfl (fun ls hl => ?_)
  refine l_X13_limitDay_L27  C ho _ (fun v1_27 v2_27 v3_27 w6 H locs ls hH hl hf => ?_) fu a_1 ((aI w a1.1 j2) + q3.1) (aI q3.2 a4.1 j5) q3.2 _ _ _ hH (lv_sub hl [3, 1, 0, 2] rfl) hf
  refine lv_iload_n hx hb dX13_limitDay_50 rfl (lv_at hl 2 rfl) ?_
  exact hw_iret hx hb hret hf hH hlocks dX13_limitDay_51

theorem dX13_hasHearing_0 : decode cX13_hasHearing 0 = .ok (.aload_n 0, 1) := by decide +kernel
theorem dX13_hasHearing_1 : decode cX13_hasHearing 1 = .ok (.iload_n 1, 1) := by decide +kernel
theorem dX13_hasHearing_2 : decode cX13_hasHearing 2 = .ok (.iconst 0, 1) := by decide +kernel
theorem dX13_hasHearing_3 : decode cX13_hasHearing 3 = .ok (.invokevirtual 141, 3) := by decide +kernel
theorem dX13_hasHearing_6 : decode cX13_hasHearing 6 = .ok (.iconst 1, 1) := by decide +kernel
theorem dX13_hasHearing_7 : decode cX13_hasHearing 7 = .ok (.if_icmp .eq 13, 3) := by decide +kernel
theorem dX13_hasHearing_10 : decode cX13_hasHearing 10 = .ok (.aload_n 0, 1) := by decide +kernel
theorem dX13_hasHearing_11 : decode cX13_hasHearing 11 = .ok (.iload_n 1, 1) := by decide +kernel
theorem dX13_hasHearing_12 : decode cX13_hasHearing 12 = .ok (.iconst 0, 1) := by decide +kernel
theorem dX13_hasHearing_13 : decode cX13_hasHearing 13 = .ok (.invokevirtual 141, 3) := by decide +kernel
theorem dX13_hasHearing_16 : decode cX13_hasHearing 16 = .ok (.iconst 2, 1) := by decide +kernel
theorem dX13_hasHearing_17 : decode cX13_hasHearing 17 = .ok (.if_icmp .ne 7, 3) := by decide +kernel
theorem dX13_hasHearing_20 : decode cX13_hasHearing 20 = .ok (.iconst 1, 1) := by decide +kernel
theorem dX13_hasHearing_21 : decode cX13_hasHearing 21 = .ok (.goto 4, 3) := by decide +kernel
theorem dX13_hasHearing_24 : decode cX13_hasHearing 24 = .ok (.iconst 0, 1) := by decide +kernel
theorem dX13_hasHearing_25 : decode cX13_hasHearing 25 = .ok (.ireturn, 1) := by decide +kernel
theorem hd_X13_hasHearing : yX13_hasHearing.cls = RX13 ∧ yX13_hasHearing.cls ≠ "java/lang/invoke/MethodHandle" ∧ yX13_hasHearing.cls ≠ "java/lang/invoke/VarHandle" ∧ (parseMethodDescriptor yX13_hasHearing.desc).map (fun d => d.parameters.length) = some 1 := by decide +kernel
theorem hs_X13_hasHearing : yX13_hasHearing.cls ≠ "java/lang/invoke/MethodHandle" ∧ yX13_hasHearing.cls ≠ "java/lang/invoke/VarHandle" ∧ (parseMethodDescriptor yX13_hasHearing.desc).map (fun d => d.parameters.length) = some 1 := by decide +kernel
set_option maxHeartbeats 4000000 in
set_option maxRecDepth 100000 in
theorem k_X13_hasHearing (l : Launch) (E : Ev) (K : Kd) (z : Nat) (o : Nat) (a_1 : Int32) (w : Wd) (ho : K o = some (11, 0)) {r : Bool} {w' : Wd} (hf : f_X13_hasHearing K o a_1 w = some (r, w')) : Met l yX13_hasHearing (Cond.code yX13_hasHearing cX13_hasHearing 2 (Option.some Jvm.ClassFile.FieldType.boolean) :: bt) ({ frames := 2, cells := 0, slots := 0, locals := 44 } : Room) (va_Pc [rv E (some o), .int a_1] (HB E K w z)) (QI E K z w' (b2i r)) 0 0 (hA E) := by
  refine Met.ofW (cc := cX13_hasHearing) (maxL := 2) (ret := (Option.some Jvm.ClassFile.FieldType.boolean)) (by decide) rfl ?_
  intro p e s m args below meth c s₁ B hml hv
  obtain ⟨rfl, hz, hP, hKs, hT, hb0⟩ := hv
  have C : CX p l e s m _ meth c cX13_hasHearing 2 RX13 (Option.some Jvm.ClassFile.FieldType.boolean) E := ⟨B.exec, B.bytes, hml, findClass_of_methodNamed B.named, fun w h => atoms_spec (ws := Cond.code yX13_hasHearing cX13_hasHearing 2 (Option.some Jvm.ClassFile.FieldType.boolean) :: bt) B.pre w (List.mem_cons_of_mem _ h), hKs, hT, by rw [hz]; exact hb0, B.notSynchronized, B.returns⟩
  have hH : HQ E K z w s s.heap [] := ⟨hP, va_S.rf, hz⟩
  obtain ⟨hx, hb, hml, hown, hts, hKs, hT, hb0, hlocks, hret⟩ := id C
  have hl := lv_entry [rv E (some o), .int a_1] (n := 2) (by simp [lg_len_nil, lg_len_i, lg_len_j, lg_len_q, lg_len_f, lg_len_d, lg_len_r])
  rw [lg_entry_eq]
  generalize (lg_sl [rv E (some o), .int a_1] ++ List.replicate (2 - (lg_sl [rv E (some o), .int a_1]).length) Slot.unset).toArray = ls at hl ⊢
  replace hl : lv_has ls 2 [(0, rv E (some o)), (1, .int a_1)] := by simpa only [lv_args, cat_q, cat_i, cat_j, reduceIte, Nat.reduceEqDiff, Nat.reduceAdd, Nat.zero_add] using hl
  generalize s.heap = H at hH ⊢
  unfold f_X13_hasHearing at hf
  refine hl_aload_n hx hb dX13_hasHearing_0 rfl (lv_at hl 0 rfl) ?_
  refine lv_iload_n hx hb dX13_hasHearing_1 rfl (lv_at hl 1 rfl) ?_
  refine lv_iconst (v := 0) hx hb dX13_hasHearing_2 (by decide) ?_
  obtain ⟨q1, hq1, hf⟩ := bnd hf
  refine hcV_i hx hb hml hown hts hKs hT hb0 hH (As := [.int a_1, .int 0]) (rest := []) (k_X13_of l E K H.size o a_1 0 w ho hq1) (gV m7_126 m7_128 ms_54 m1_16 m7_129) hd_X13_of ⟨Nat.le_of_ble_eq_true rfl, Nat.le_of_ble_eq_true rfl, rfl, rfl⟩ rfl ho rfl rfl rfl hl.1 rfl rc0 rfl dX13_hasHearing_3 ⟨Nat.zero_le _, Nat.zero_le _⟩ (fun H locs hH => ?_)
  refine lv_iconst (v := 1) hx hb dX13_hasHearing_6 (by decide) ?_
  refine lv_icmp_eq (tgt := 20) hx hb dX13_hasHearing_7 (by decide) (fun c2 => ?_) (fun c2 => ?_)
  · replace hf := (if_pos c2).symm.trans hf
    refine lv_iconst (v := 1) hx hb dX13_hasHearing_20 (by decide) ?_
    refine lv_goto (tgt := 25) hx hb dX13_hasHearing_21 (by decide) ?_
    exact hw_zret hx hb hret rfl hf hH hlocks dX13_hasHearing_25
  · replace hf := (if_neg c2).symm.trans hf
    refine hl_aload_n hx hb dX13_hasHearing_10 rfl (lv_at hl 0 rfl) ?_
    refine lv_iload_n hx hb dX13_hasHearing_11 rfl (lv_at hl 1 rfl) ?_
    refine lv_iconst (v := 0) hx hb dX13_hasHearing_12 (by decide) ?_
    obtain ⟨q3, hq3, hf⟩ := bnd hf
    refine hcV_i hx hb hml hown hts hKs hT hb0 hH (As := [.int a_1, .int 0]) (rest := []) (k_X13_of l E K H.size o a_1 0 q1.2 ho hq3) (gV m7_126 m7_128 ms_54 m1_16 m7_129) hd_X13_of ⟨Nat.le_of_ble_eq_true rfl, Nat.le_of_ble_eq_true rfl, rfl, rfl⟩ rfl ho rfl rfl rfl hl.1 rfl rc0 rfl dX13_hasHearing_13 ⟨Nat.zero_le _, Nat.zero_le _⟩ (fun H locs hH => ?_)
    refine lv_iconst (v := 2) hx hb dX13_hasHearing_16 (by decide) ?_
    refine lv_icmp_ne (tgt := 24) hx hb dX13_hasHearing_17 (by decide) (fun c4 => ?_) (fun c4 => ?_)
    · replace hf := (if_neg c4).symm.trans hf
      refine lv_iconst (v := 0) hx hb dX13_hasHearing_24 (by decide) ?_
      exact hw_zret hx hb hret rfl hf hH hlocks dX13_hasHearing_25
    · replace hf := (if_pos c4).symm.trans hf
      refine lv_iconst (v := 1) hx hb dX13_hasHearing_20 (by decide) ?_
      refine lv_goto (tgt := 25) hx hb dX13_hasHearing_21 (by decide) ?_
      exact hw_zret hx hb hret rfl hf hH hlocks dX13_hasHearing_25

theorem dX13_slackOf_0 : decode cX13_slackOf 0 = .ok (.aload_n 0, 1) := by decide +kernel
theorem dX13_slackOf_1 : decode cX13_slackOf 1 = .ok (.aload_n 0, 1) := by decide +kernel
theorem dX13_slackOf_2 : decode cX13_slackOf 2 = .ok (.getfield 16, 3) := by decide +kernel
theorem dX13_slackOf_5 : decode cX13_slackOf 5 = .ok (.iconst 0, 1) := by decide +kernel
theorem dX13_slackOf_6 : decode cX13_slackOf 6 = .ok (.iaload, 1) := by decide +kernel
theorem dX13_slackOf_7 : decode cX13_slackOf 7 = .ok (.aload_n 0, 1) := by decide +kernel
theorem dX13_slackOf_8 : decode cX13_slackOf 8 = .ok (.iload_n 1, 1) := by decide +kernel
theorem dX13_slackOf_9 : decode cX13_slackOf 9 = .ok (.invokevirtual 144, 3) := by decide +kernel
theorem dX13_slackOf_12 : decode cX13_slackOf 12 = .ok (.invokevirtual 134, 3) := by decide +kernel
theorem dX13_slackOf_15 : decode cX13_slackOf 15 = .ok (.ireturn, 1) := by decide +kernel
theorem hd_X13_slackOf : yX13_slackOf.cls = RX13 ∧ yX13_slackOf.cls ≠ "java/lang/invoke/MethodHandle" ∧ yX13_slackOf.cls ≠ "java/lang/invoke/VarHandle" ∧ (parseMethodDescriptor yX13_slackOf.desc).map (fun d => d.parameters.length) = some 1 := by decide +kernel
theorem hs_X13_slackOf : yX13_slackOf.cls ≠ "java/lang/invoke/MethodHandle" ∧ yX13_slackOf.cls ≠ "java/lang/invoke/VarHandle" ∧ (parseMethodDescriptor yX13_slackOf.desc).map (fun d => d.parameters.length) = some 1 := by decide +kernel
set_option maxHeartbeats 4000000 in
set_option maxRecDepth 100000 in
theorem k_X13_slackOf (l : Launch) (E : Ev) (K : Kd) (z : Nat) (o : Nat) (a_1 : Int32) (w : Wd) (ho : K o = some (11, 0)) {r : Int32} {w' : Wd} (hf : f_X13_slackOf K o a_1 w = some (r, w')) : Met l yX13_slackOf (Cond.code yX13_slackOf cX13_slackOf 2 (Option.some Jvm.ClassFile.FieldType.int) :: bt) ({ frames := 3, cells := 0, slots := 0, locals := 67 } : Room) (va_Pc [rv E (some o), .int a_1] (HB E K w z)) (QI E K z w' r) 0 0 (hA E) := by
  refine Met.ofW (cc := cX13_slackOf) (maxL := 2) (ret := (Option.some Jvm.ClassFile.FieldType.int)) (by decide) rfl ?_
  intro p e s m args below meth c s₁ B hml hv
  obtain ⟨rfl, hz, hP, hKs, hT, hb0⟩ := hv
  have C : CX p l e s m _ meth c cX13_slackOf 2 RX13 (Option.some Jvm.ClassFile.FieldType.int) E := ⟨B.exec, B.bytes, hml, findClass_of_methodNamed B.named, fun w h => atoms_spec (ws := Cond.code yX13_slackOf cX13_slackOf 2 (Option.some Jvm.ClassFile.FieldType.int) :: bt) B.pre w (List.mem_cons_of_mem _ h), hKs, hT, by rw [hz]; exact hb0, B.notSynchronized, B.returns⟩
  have hH : HQ E K z w s s.heap [] := ⟨hP, va_S.rf, hz⟩
  obtain ⟨hx, hb, hml, hown, hts, hKs, hT, hb0, hlocks, hret⟩ := id C
  have hl := lv_entry [rv E (some o), .int a_1] (n := 2) (by simp [lg_len_nil, lg_len_i, lg_len_j, lg_len_q, lg_len_f, lg_len_d, lg_len_r])
  rw [lg_entry_eq]
  generalize (lg_sl [rv E (some o), .int a_1] ++ List.replicate (2 - (lg_sl [rv E (some o), .int a_1]).length) Slot.unset).toArray = ls at hl ⊢
  replace hl : lv_has ls 2 [(0, rv E (some o)), (1, .int a_1)] := by simpa only [lv_args, cat_q, cat_i, cat_j, reduceIte, Nat.reduceEqDiff, Nat.reduceAdd, Nat.zero_add] using hl
  generalize s.heap = H at hH ⊢
  unfold f_X13_slackOf at hf
  refine hl_aload_n hx hb dX13_slackOf_0 rfl (lv_at hl 0 rfl) ?_
  refine hl_aload_n hx hb dX13_slackOf_1 rfl (lv_at hl 0 rfl) ?_
  refine g13_3 hx hb hts hown hKs hH rfl ho m6_184 dX13_slackOf_2 ?_
  refine lv_iconst (v := 0) hx hb dX13_slackOf_5 (by decide) ?_
  obtain ⟨a1, ha1, hf⟩ := bnd hf
  replace ha1 := cha_some ha1
  obtain ⟨j2, hj2, hf⟩ := bnd hf
  refine hw_iald hx hb hKs hH ha1.1 ha1.2 hj2 dX13_slackOf_6 ?_
  refine hl_aload_n hx hb dX13_slackOf_7 rfl (lv_at hl 0 rfl) ?_
  refine lv_iload_n hx hb dX13_slackOf_8 rfl (lv_at hl 1 rfl) ?_
  obtain ⟨q3, hq3, hf⟩ := bnd hf
  refine hcV_i hx hb hml hown hts hKs hT hb0 hH (As := [.int a_1]) (rest := [.int ((aI w a1.1 j2)), rv E (some o)]) (k_X13_limitDay l E K H.size o a_1 w ho hq3) (gV m7_122 m7_124 ms_53 m1_16 m7_125) hd_X13_limitDay ⟨Nat.le_of_ble_eq_true rfl, Nat.le_of_ble_eq_true rfl, rfl, rfl⟩ rfl ho rfl rfl rfl hl.1 rfl (rcI (rcV rc0)) rfl dX13_slackOf_9 ⟨Nat.zero_le _, Nat.zero_le _⟩ (fun H locs hH => ?_)
  obtain ⟨q4, hq4, hf⟩ := bnd hf
  refine hcV_i hx hb hml hown hts hKs hT hb0 hH (As := [.int ((aI w a1.1 j2)), .int (q3.1)]) (rest := []) (k_X13_workingIn l E K H.size o (aI w a1.1 j2) q3.1 q3.2 ho hq4) (gV m7_106 m7_108 ms_50 m1_16 m7_109) hd_X13_workingIn ⟨Nat.le_of_ble_eq_true rfl, Nat.le_of_ble_eq_true rfl, rfl, rfl⟩ rfl ho rfl rfl rfl hl.1 rfl rc0 rfl dX13_slackOf_12 ⟨Nat.zero_le _, Nat.zero_le _⟩ (fun H locs hH => ?_)
  exact hw_iret hx hb hret hf hH hlocks dX13_slackOf_15

theorem dX13_slack_0 : decode cX13_slack 0 = .ok (.aload_n 0, 1) := by decide +kernel
theorem dX13_slack_1 : decode cX13_slack 1 = .ok (.aload_n 0, 1) := by decide +kernel
theorem dX13_slack_2 : decode cX13_slack 2 = .ok (.iload_n 1, 1) := by decide +kernel
theorem dX13_slack_3 : decode cX13_slack 3 = .ok (.invokevirtual 148, 3) := by decide +kernel
theorem dX13_slack_6 : decode cX13_slack 6 = .ok (.invokevirtual 110, 3) := by decide +kernel
theorem dX13_slack_9 : decode cX13_slack 9 = .ok (.ifCond .eq 11, 3) := by decide +kernel
theorem dX13_slack_12 : decode cX13_slack 12 = .ok (.aload_n 0, 1) := by decide +kernel
theorem dX13_slack_13 : decode cX13_slack 13 = .ok (.iload_n 1, 1) := by decide +kernel
theorem dX13_slack_14 : decode cX13_slack 14 = .ok (.invokevirtual 151, 3) := by decide +kernel
theorem dX13_slack_17 : decode cX13_slack 17 = .ok (.goto 4, 3) := by decide +kernel
theorem dX13_slack_20 : decode cX13_slack 20 = .ok (.iconst 0, 1) := by decide +kernel
theorem dX13_slack_21 : decode cX13_slack 21 = .ok (.ireturn, 1) := by decide +kernel
theorem hd_X13_slack : yX13_slack.cls = RX13 ∧ yX13_slack.cls ≠ "java/lang/invoke/MethodHandle" ∧ yX13_slack.cls ≠ "java/lang/invoke/VarHandle" ∧ (parseMethodDescriptor yX13_slack.desc).map (fun d => d.parameters.length) = some 1 := by decide +kernel
theorem hs_X13_slack : yX13_slack.cls ≠ "java/lang/invoke/MethodHandle" ∧ yX13_slack.cls ≠ "java/lang/invoke/VarHandle" ∧ (parseMethodDescriptor yX13_slack.desc).map (fun d => d.parameters.length) = some 1 := by decide +kernel
set_option maxHeartbeats 4000000 in
set_option maxRecDepth 100000 in
theorem k_X13_slack (l : Launch) (E : Ev) (K : Kd) (z : Nat) (o : Nat) (a_1 : Int32) (w : Wd) (ho : K o = some (11, 0)) {r : Int32} {w' : Wd} (hf : f_X13_slack K o a_1 w = some (r, w')) : Met l yX13_slack (Cond.code yX13_slack cX13_slack 2 (Option.some Jvm.ClassFile.FieldType.int) :: bt) ({ frames := 4, cells := 0, slots := 0, locals := 88 } : Room) (va_Pc [rv E (some o), .int a_1] (HB E K w z)) (QI E K z w' r) 0 0 (hA E) := by
  refine Met.ofW (cc := cX13_slack) (maxL := 2) (ret := (Option.some Jvm.ClassFile.FieldType.int)) (by decide) rfl ?_
  intro p e s m args below meth c s₁ B hml hv
  obtain ⟨rfl, hz, hP, hKs, hT, hb0⟩ := hv
  have C : CX p l e s m _ meth c cX13_slack 2 RX13 (Option.some Jvm.ClassFile.FieldType.int) E := ⟨B.exec, B.bytes, hml, findClass_of_methodNamed B.named, fun w h => atoms_spec (ws := Cond.code yX13_slack cX13_slack 2 (Option.some Jvm.ClassFile.FieldType.int) :: bt) B.pre w (List.mem_cons_of_mem _ h), hKs, hT, by rw [hz]; exact hb0, B.notSynchronized, B.returns⟩
  have hH : HQ E K z w s s.heap [] := ⟨hP, va_S.rf, hz⟩
  obtain ⟨hx, hb, hml, hown, hts, hKs, hT, hb0, hlocks, hret⟩ := id C
  have hl := lv_entry [rv E (some o), .int a_1] (n := 2) (by simp [lg_len_nil, lg_len_i, lg_len_j, lg_len_q, lg_len_f, lg_len_d, lg_len_r])
  rw [lg_entry_eq]
  generalize (lg_sl [rv E (some o), .int a_1] ++ List.replicate (2 - (lg_sl [rv E (some o), .int a_1]).length) Slot.unset).toArray = ls at hl ⊢
  replace hl : lv_has ls 2 [(0, rv E (some o)), (1, .int a_1)] := by simpa only [lv_args, cat_q, cat_i, cat_j, reduceIte, Nat.reduceEqDiff, Nat.reduceAdd, Nat.zero_add] using hl
  generalize s.heap = H at hH ⊢
  unfold f_X13_slack at hf
  refine hl_aload_n hx hb dX13_slack_0 rfl (lv_at hl 0 rfl) ?_
  refine hl_aload_n hx hb dX13_slack_1 rfl (lv_at hl 0 rfl) ?_
  refine lv_iload_n hx hb dX13_slack_2 rfl (lv_at hl 1 rfl) ?_
  obtain ⟨q1, hq1, hf⟩ := bnd hf
  refine hcV_i hx hb hml hown hts hKs hT hb0 hH (As := [.int a_1]) (rest := [rv E (some o)]) (k_X13_isCase l E K H.size o a_1 w ho hq1) (gV m7_114 m7_116 ms_51 m1_16 m7_117) hd_X13_isCase ⟨Nat.le_of_ble_eq_true rfl, Nat.le_of_ble_eq_true rfl, rfl, rfl⟩ rfl ho rfl rfl rfl hl.1 rfl (rcV rc0) rfl dX13_slack_3 ⟨Nat.zero_le _, Nat.zero_le _⟩ (fun H locs hH => ?_)
  obtain ⟨q2, hq2, hf⟩ := bnd hf
  refine hcV_i hx hb hml hown hts hKs hT hb0 hH (As := [.int (b2i q1.1)]) (rest := []) (k_X13_is l E K H.size o q1.1 q1.2 ho hq2) (gV m7_68 m7_70 ms_47 m1_16 m7_71) hd_X13_is ⟨Nat.le_of_ble_eq_true rfl, Nat.le_of_ble_eq_true rfl, rfl, rfl⟩ rfl ho rfl rfl rfl hl.1 rfl rc0 rfl dX13_slack_6 ⟨Nat.zero_le _, Nat.zero_le _⟩ (fun H locs hH => ?_)
  refine lv_if_eq (tgt := 20) hx hb dX13_slack_9 (by decide) (fun c3 => ?_) (fun c3 => ?_)
  · replace hf := (if_pos c3).symm.trans hf
    refine lv_iconst (v := 0) hx hb dX13_slack_20 (by decide) ?_
    exact hw_iret hx hb hret hf hH hlocks dX13_slack_21
  · replace hf := (if_neg c3).symm.trans hf
    refine hl_aload_n hx hb dX13_slack_12 rfl (lv_at hl 0 rfl) ?_
    refine lv_iload_n hx hb dX13_slack_13 rfl (lv_at hl 1 rfl) ?_
    obtain ⟨q4, hq4, hf⟩ := bnd hf
    refine hcV_i hx hb hml hown hts hKs hT hb0 hH (As := [.int a_1]) (rest := []) (k_X13_slackOf l E K H.size o a_1 q2.2 ho hq4) (gV m7_118 m7_120 ms_52 m1_16 m7_121) hd_X13_slackOf ⟨Nat.le_of_ble_eq_true rfl, Nat.le_of_ble_eq_true rfl, rfl, rfl⟩ rfl ho rfl rfl rfl hl.1 rfl rc0 rfl dX13_slack_14 ⟨Nat.zero_le _, Nat.zero_le _⟩ (fun H locs hH => ?_)
    refine lv_goto (tgt := 21) hx hb dX13_slack_17 (by decide) ?_
    exact hw_iret hx hb hret hf hH hlocks dX13_slack_21

theorem dX13_manyIn_0 : decode cX13_manyIn 0 = .ok (.iconst 0, 1) := by decide +kernel
theorem dX13_manyIn_1 : decode cX13_manyIn 1 = .ok (.istore_n 2, 1) := by decide +kernel
theorem dX13_manyIn_2 : decode cX13_manyIn 2 = .ok (.iconst 0, 1) := by decide +kernel
theorem dX13_manyIn_3 : decode cX13_manyIn 3 = .ok (.istore_n 3, 1) := by decide +kernel
theorem dX13_manyIn_4 : decode cX13_manyIn 4 = .ok (.iload_n 3, 1) := by decide +kernel
theorem dX13_manyIn_5 : decode cX13_manyIn 5 = .ok (.aload_n 0, 1) := by decide +kernel
theorem dX13_manyIn_6 : decode cX13_manyIn 6 = .ok (.getfield 7, 3) := by decide +kernel
theorem dX13_manyIn_9 : decode cX13_manyIn 9 = .ok (.iconst 3, 1) := by decide +kernel
theorem dX13_manyIn_10 : decode cX13_manyIn 10 = .ok (.iaload, 1) := by decide +kernel
theorem dX13_manyIn_11 : decode cX13_manyIn 11 = .ok (.if_icmp .ge 23, 3) := by decide +kernel
theorem dX13_manyIn_14 : decode cX13_manyIn 14 = .ok (.aload_n 0, 1) := by decide +kernel
theorem dX13_manyIn_15 : decode cX13_manyIn 15 = .ok (.iload_n 3, 1) := by decide +kernel
theorem dX13_manyIn_16 : decode cX13_manyIn 16 = .ok (.iconst 0, 1) := by decide +kernel
theorem dX13_manyIn_17 : decode cX13_manyIn 17 = .ok (.invokevirtual 141, 3) := by decide +kernel
theorem dX13_manyIn_20 : decode cX13_manyIn 20 = .ok (.iload_n 1, 1) := by decide +kernel
theorem dX13_manyIn_21 : decode cX13_manyIn 21 = .ok (.if_icmp .ne 7, 3) := by decide +kernel
theorem dX13_manyIn_24 : decode cX13_manyIn 24 = .ok (.iload_n 2, 1) := by decide +kernel
theorem dX13_manyIn_25 : decode cX13_manyIn 25 = .ok (.iconst 1, 1) := by decide +kernel
theorem dX13_manyIn_26 : decode cX13_manyIn 26 = .ok (.iadd, 1) := by decide +kernel
theorem dX13_manyIn_27 : decode cX13_manyIn 27 = .ok (.istore_n 2, 1) := by decide +kernel
theorem dX13_manyIn_28 : decode cX13_manyIn 28 = .ok (.iinc 3 1, 3) := by decide +kernel
theorem dX13_manyIn_31 : decode cX13_manyIn 31 = .ok (.goto (-27), 3) := by decide +kernel
theorem dX13_manyIn_34 : decode cX13_manyIn 34 = .ok (.iload_n 2, 1) := by decide +kernel
theorem dX13_manyIn_35 : decode cX13_manyIn 35 = .ok (.ireturn, 1) := by decide +kernel
theorem hd_X13_manyIn : yX13_manyIn.cls = RX13 ∧ yX13_manyIn.cls ≠ "java/lang/invoke/MethodHandle" ∧ yX13_manyIn.cls ≠ "java/lang/invoke/VarHandle" ∧ (parseMethodDescriptor yX13_manyIn.desc).map (fun d => d.parameters.length) = some 1 := by decide +kernel
theorem hs_X13_manyIn : yX13_manyIn.cls ≠ "java/lang/invoke/MethodHandle" ∧ yX13_manyIn.cls ≠ "java/lang/invoke/VarHandle" ∧ (parseMethodDescriptor yX13_manyIn.desc).map (fun d => d.parameters.length) = some 1 := by decide +kernel
set_option maxHeartbeats 4000000 in
set_option maxRecDepth 100000 in
theorem l_X13_manyIn_L4 (C : CX p l e s m args meth c cX13_manyIn 4 RX13 (Option.some Jvm.ClassFile.FieldType.int) E) {o : Nat} (ho : K o = some (11, 0)) {r : Int32} {w' : Wd} (k : Int32 → Int32 → Int32 → Wd → Option (Int32 × Wd)) (hk : ∀ (v1_4 : Int32) (v2_4 : Int32) (v3_4 : Int32) (w : Wd) (H : Heap) (locs : List Loc) (ls : Array Slot), HQ E K z w s H locs → lv_has ls 4 [(1, .int v1_4), (2, .int v2_4), (3, .int v3_4), (0, rv E (some o))] → k v1_4 v2_4 v3_4 w = some (r, w') → W p l e ({ frames := 2, cells := 0, slots := 0, locals := 44 } : Room) s m args below meth c H locs 0 0 (MQ below (QI E K z w' r) args s 0 0 (hA E)) (F0 m 34 ls [])) : ∀ (n : Nat) (v1_4 : Int32) (v2_4 : Int32) (v3_4 : Int32) (w : Wd) (H : Heap) (locs : List Loc) (ls : Array Slot), HQ E K z w s H locs → lv_has ls 4 [(1, .int v1_4), (2, .int v2_4), (3, .int v3_4), (0, rv E (some o))] → f_X13_manyIn_L4 K o k n v1_4 v2_4 v3_4 w = some (r, w') → W p l e ({ frames := 2, cells := 0, slots := 0, locals := 44 } : Room) s m args below meth c H locs 0 0 (MQ below (QI E K z w' r) args s 0 0 (hA E)) (F0 m 4 ls []) := by
  obtain ⟨hx, hb, hml, hown, hts, hKs, hT, hb0, hlocks, hret⟩ := id C
  intro n
  induction n with
  | zero =>
    intro v1_4 v2_4 v3_4 w H locs ls hH hl hf
    cases hf
  | succ n ih =>
    intro v1_4 v2_4 v3_4 w H locs ls hH hl hf
    rw [f_X13_manyIn_L4] at hf
    refine lv_iload_n hx hb dX13_manyIn_4 rfl (lv_at hl 2 rfl) ?_
    refine hl_aload_n hx hb dX13_manyIn_5 rfl (lv_at hl 3 rfl) ?_
    refine g13_1 hx hb hts hown hKs hH rfl ho m6_182 dX13_manyIn_6 ?_
    refine lv_iconst (v := 3) hx hb dX13_manyIn_9 (by decide) ?_
    obtain ⟨a2, ha2, hf⟩ := bnd hf
    replace ha2 := cha_some ha2
    obtain ⟨j3, hj3, hf⟩ := bnd hf
    refine hw_iald hx hb hKs hH ha2.1 ha2.2 hj3 dX13_manyIn_10 ?_
    refine lv_icmp_ge (tgt := 34) hx hb dX13_manyIn_11 (by decide) (fun c4 => ?_) (fun c4 => ?_)
    · replace hf := (if_pos c4).symm.trans hf
      exact hk v1_4 v2_4 v3_4 _ _ _ _ hH (lv_sub hl [0, 1, 2, 3] rfl) hf
    · replace hf := (if_neg c4).symm.trans hf
      refine hl_aload_n hx hb dX13_manyIn_14 rfl (lv_at hl 3 rfl) ?_
      refine lv_iload_n hx hb dX13_manyIn_15 rfl (lv_at hl 2 rfl) ?_
      refine lv_iconst (v := 0) hx hb dX13_manyIn_16 (by decide) ?_
      obtain ⟨q5, hq5, hf⟩ := bnd hf
      refine hcV_i hx hb hml hown hts hKs hT hb0 hH (As := [.int v3_4, .int 0]) (rest := []) (k_X13_of l E K H.size o v3_4 0 w ho hq5) (gV m7_126 m7_128 ms_54 m1_16 m7_129) hd_X13_of ⟨Nat.le_of_ble_eq_true rfl, Nat.le_of_ble_eq_true rfl, rfl, rfl⟩ rfl ho rfl rfl rfl hl.1 rfl rc0 rfl dX13_manyIn_17 ⟨Nat.zero_le _, Nat.zero_le _⟩ (fun H locs hH => ?_)
      refine lv_iload_n hx hb dX13_manyIn_20 rfl (lv_at hl 0 rfl) ?_
      refine lv_icmp_ne (tgt := 28) hx hb dX13_manyIn_21 (by decide) (fun c6 => ?_) (fun c6 => ?_)
      · replace hf := (if_neg c6).symm.trans hf
        refine lv_iinc (v := (v3_4 + 1)) (lv' := [(3, .int ((v3_4 + 1))), (1, .int v1_4), (2, .int v2_4), (0, rv E (some o))]) hx hb dX13_manyIn_28 hl (k := 2) rfl rfl (by decide) rfl (fun ls hl => ?_)
        refine lv_goto (tgt := 4) hx hb dX13_manyIn_31 (by decide) ?_
        exact ih v1_4 v2_4 (v3_4 + 1) _ _ _ _ hH (lv_sub hl [1, 2, 0, 3] rfl) hf
      · replace hf := (if_pos c6).symm.trans hf
        refine lv_iload_n hx hb dX13_manyIn_24 rfl (lv_at hl 1 rfl) ?_
        refine lv_iconst (v := 1) hx hb dX13_manyIn_25 (by decide) ?_
        refine lv_iadd hx hb dX13_manyIn_26 ?_
        refine lv_istore_n (i := 2) (lv' := [(2, .int ((v2_4 + 1))), (1, .int v1_4), (3, .int v3_4), (0, rv E (some o))]) hx hb dX13_manyIn_27 rfl hl (by decide) rfl (fun ls hl => ?_)
        refine lv_iinc (v := (v3_4 + 1)) (lv' := [(3, .int ((v3_4 + 1))), (2, .int ((v2_4 + 1))), (1, .int v1_4), (0, rv E (some o))]) hx hb dX13_manyIn_28 hl (k := 2) rfl rfl (by decide) rfl (fun ls hl => ?_)
        refine lv_goto (tgt := 4) hx hb dX13_manyIn_31 (by decide) ?_
        exact ih v1_4 (v2_4 + 1) (v3_4 + 1) _ _ _ _ hH (lv_sub hl [2, 1, 0, 3] rfl) hf
set_option maxHeartbeats 4000000 in
set_option maxRecDepth 100000 in
theorem k_X13_manyIn (l : Launch) (E : Ev) (K : Kd) (z : Nat) (o : Nat) (a_1 : Int32) (w : Wd) (ho : K o = some (11, 0)) {r : Int32} {w' : Wd} (hf : f_X13_manyIn K o a_1 w = some (r, w')) : Met l yX13_manyIn (Cond.code yX13_manyIn cX13_manyIn 4 (Option.some Jvm.ClassFile.FieldType.int) :: bt) ({ frames := 2, cells := 0, slots := 0, locals := 44 } : Room) (va_Pc [rv E (some o), .int a_1] (HB E K w z)) (QI E K z w' r) 0 0 (hA E) := by
  refine Met.ofW (cc := cX13_manyIn) (maxL := 4) (ret := (Option.some Jvm.ClassFile.FieldType.int)) (by decide) rfl ?_
  intro p e s m args below meth c s₁ B hml hv
  obtain ⟨rfl, hz, hP, hKs, hT, hb0⟩ := hv
  have C : CX p l e s m _ meth c cX13_manyIn 4 RX13 (Option.some Jvm.ClassFile.FieldType.int) E := ⟨B.exec, B.bytes, hml, findClass_of_methodNamed B.named, fun w h => atoms_spec (ws := Cond.code yX13_manyIn cX13_manyIn 4 (Option.some Jvm.ClassFile.FieldType.int) :: bt) B.pre w (List.mem_cons_of_mem _ h), hKs, hT, by rw [hz]; exact hb0, B.notSynchronized, B.returns⟩
  have hH : HQ E K z w s s.heap [] := ⟨hP, va_S.rf, hz⟩
  obtain ⟨hx, hb, hml, hown, hts, hKs, hT, hb0, hlocks, hret⟩ := id C
  have hl := lv_entry [rv E (some o), .int a_1] (n := 4) (by simp [lg_len_nil, lg_len_i, lg_len_j, lg_len_q, lg_len_f, lg_len_d, lg_len_r])
  rw [lg_entry_eq]
  generalize (lg_sl [rv E (some o), .int a_1] ++ List.replicate (4 - (lg_sl [rv E (some o), .int a_1]).length) Slot.unset).toArray = ls at hl ⊢
  replace hl : lv_has ls 4 [(0, rv E (some o)), (1, .int a_1)] := by simpa only [lv_args, cat_q, cat_i, cat_j, reduceIte, Nat.reduceEqDiff, Nat.reduceAdd, Nat.zero_add] using hl
  generalize s.heap = H at hH ⊢
  unfold f_X13_manyIn at hf
  refine lv_iconst (v := 0) hx hb dX13_manyIn_0 (by decide) ?_
  refine lv_istore_n (i := 2) (lv' := [(2, .int 0), (0, rv E (some o)), (1, .int a_1)]) hx hb dX13_manyIn_1 rfl hl (by decide) rfl (fun ls hl => ?_)
  refine lv_iconst (v := 0) hx hb dX13_manyIn_2 (by decide) ?_
  refine lv_istore_n (i := 3) (lv' := [(3, .int 0), (2, .int 0), (0, rv E (some o)), (1, .int a_1)]) hx hb dX13_manyIn_3 rfl hl (by decide) rfl (fun ls hl => ?_)
  refine l_X13_manyIn_L4  C ho _ (fun v1_4 v2_4 v3_4 w1 H locs ls hH hl hf => ?_) fu a_1 0 0 w _ _ _ hH (lv_sub hl [3, 1, 0, 2] rfl) hf
  refine lv_iload_n hx hb dX13_manyIn_34 rfl (lv_at hl 1 rfl) ?_
  exact hw_iret hx hb hret hf hH hlocks dX13_manyIn_35

theorem dX13_meanSlack_0 : decode cX13_meanSlack 0 = .ok (.aload_n 0, 1) := by decide +kernel
theorem dX13_meanSlack_1 : decode cX13_meanSlack 1 = .ok (.iconst 0, 1) := by decide +kernel
theorem dX13_meanSlack_2 : decode cX13_meanSlack 2 = .ok (.putfield 104, 3) := by decide +kernel
theorem dX13_meanSlack_5 : decode cX13_meanSlack 5 = .ok (.aload_n 0, 1) := by decide +kernel
theorem dX13_meanSlack_6 : decode cX13_meanSlack 6 = .ok (.iconst 0, 1) := by decide +kernel
theorem dX13_meanSlack_7 : decode cX13_meanSlack 7 = .ok (.invokevirtual 154, 3) := by decide +kernel
theorem dX13_meanSlack_10 : decode cX13_meanSlack 10 = .ok (.istore_n 1, 1) := by decide +kernel
theorem dX13_meanSlack_11 : decode cX13_meanSlack 11 = .ok (.iconst 0, 1) := by decide +kernel
theorem dX13_meanSlack_12 : decode cX13_meanSlack 12 = .ok (.istore_n 2, 1) := by decide +kernel
theorem dX13_meanSlack_13 : decode cX13_meanSlack 13 = .ok (.iconst 0, 1) := by decide +kernel
theorem dX13_meanSlack_14 : decode cX13_meanSlack 14 = .ok (.istore_n 3, 1) := by decide +kernel
theorem dX13_meanSlack_15 : decode cX13_meanSlack 15 = .ok (.iload_n 3, 1) := by decide +kernel
theorem dX13_meanSlack_16 : decode cX13_meanSlack 16 = .ok (.aload_n 0, 1) := by decide +kernel
theorem dX13_meanSlack_17 : decode cX13_meanSlack 17 = .ok (.getfield 7, 3) := by decide +kernel
theorem dX13_meanSlack_20 : decode cX13_meanSlack 20 = .ok (.iconst 3, 1) := by decide +kernel
theorem dX13_meanSlack_21 : decode cX13_meanSlack 21 = .ok (.iaload, 1) := by decide +kernel
theorem dX13_meanSlack_22 : decode cX13_meanSlack 22 = .ok (.if_icmp .ge 26, 3) := by decide +kernel
theorem dX13_meanSlack_25 : decode cX13_meanSlack 25 = .ok (.aload_n 0, 1) := by decide +kernel
theorem dX13_meanSlack_26 : decode cX13_meanSlack 26 = .ok (.iload_n 3, 1) := by decide +kernel
theorem dX13_meanSlack_27 : decode cX13_meanSlack 27 = .ok (.iconst 0, 1) := by decide +kernel
theorem dX13_meanSlack_28 : decode cX13_meanSlack 28 = .ok (.invokevirtual 141, 3) := by decide +kernel
theorem dX13_meanSlack_31 : decode cX13_meanSlack 31 = .ok (.ifCond .ne 11, 3) := by decide +kernel
theorem dX13_meanSlack_34 : decode cX13_meanSlack 34 = .ok (.iload_n 2, 1) := by decide +kernel
theorem dX13_meanSlack_35 : decode cX13_meanSlack 35 = .ok (.aload_n 0, 1) := by decide +kernel
theorem dX13_meanSlack_36 : decode cX13_meanSlack 36 = .ok (.iload_n 3, 1) := by decide +kernel
theorem dX13_meanSlack_37 : decode cX13_meanSlack 37 = .ok (.invokevirtual 151, 3) := by decide +kernel
theorem dX13_meanSlack_40 : decode cX13_meanSlack 40 = .ok (.iadd, 1) := by decide +kernel
theorem dX13_meanSlack_41 : decode cX13_meanSlack 41 = .ok (.istore_n 2, 1) := by decide +kernel
theorem dX13_meanSlack_42 : decode cX13_meanSlack 42 = .ok (.iinc 3 1, 3) := by decide +kernel
theorem dX13_meanSlack_45 : decode cX13_meanSlack 45 = .ok (.goto (-30), 3) := by decide +kernel
theorem dX13_meanSlack_48 : decode cX13_meanSlack 48 = .ok (.iload_n 1, 1) := by decide +kernel
theorem dX13_meanSlack_49 : decode cX13_meanSlack 49 = .ok (.ifCond .ne 7, 3) := by decide +kernel
theorem dX13_meanSlack_52 : decode cX13_meanSlack 52 = .ok (.dconst 0, 1) := by decide +kernel
theorem dX13_meanSlack_53 : decode cX13_meanSlack 53 = .ok (.goto 8, 3) := by decide +kernel
theorem dX13_meanSlack_56 : decode cX13_meanSlack 56 = .ok (.iload_n 2, 1) := by decide +kernel
theorem dX13_meanSlack_57 : decode cX13_meanSlack 57 = .ok (.i2d, 1) := by decide +kernel
theorem dX13_meanSlack_58 : decode cX13_meanSlack 58 = .ok (.iload_n 1, 1) := by decide +kernel
theorem dX13_meanSlack_59 : decode cX13_meanSlack 59 = .ok (.i2d, 1) := by decide +kernel
theorem dX13_meanSlack_60 : decode cX13_meanSlack 60 = .ok (.ddiv, 1) := by decide +kernel
theorem dX13_meanSlack_61 : decode cX13_meanSlack 61 = .ok (.dreturn, 1) := by decide +kernel
theorem hd_X13_meanSlack : yX13_meanSlack.cls = RX13 ∧ yX13_meanSlack.cls ≠ "java/lang/invoke/MethodHandle" ∧ yX13_meanSlack.cls ≠ "java/lang/invoke/VarHandle" ∧ (parseMethodDescriptor yX13_meanSlack.desc).map (fun d => d.parameters.length) = some 0 := by decide +kernel
theorem hs_X13_meanSlack : yX13_meanSlack.cls ≠ "java/lang/invoke/MethodHandle" ∧ yX13_meanSlack.cls ≠ "java/lang/invoke/VarHandle" ∧ (parseMethodDescriptor yX13_meanSlack.desc).map (fun d => d.parameters.length) = some 0 := by decide +kernel
set_option maxHeartbeats 4000000 in
set_option maxRecDepth 100000 in
theorem l_X13_meanSlack_L15 (C : CX p l e s m args meth c cX13_meanSlack 4 RX13 (Option.some Jvm.ClassFile.FieldType.double) E) {o : Nat} (ho : K o = some (11, 0)) {r : UInt64} {w' : Wd} (k : Int32 → Int32 → Int32 → Wd → Option (UInt64 × Wd)) (hk : ∀ (v1_15 : Int32) (v2_15 : Int32) (v3_15 : Int32) (w : Wd) (H : Heap) (locs : List Loc) (ls : Array Slot), HQ E K z w s H locs → lv_has ls 4 [(1, .int v1_15), (2, .int v2_15), (3, .int v3_15), (0, rv E (some o))] → k v1_15 v2_15 v3_15 w = some (r, w') → W p l e ({ frames := 4, cells := 0, slots := 0, locals := 88 } : Room) s m args below meth c H locs 0 0 (MQ below (QD E K z w' r) args s 0 0 (hA E)) (F0 m 48 ls [])) : ∀ (n : Nat) (v1_15 : Int32) (v2_15 : Int32) (v3_15 : Int32) (w : Wd) (H : Heap) (locs : List Loc) (ls : Array Slot), HQ E K z w s H locs → lv_has ls 4 [(1, .int v1_15), (2, .int v2_15), (3, .int v3_15), (0, rv E (some o))] → f_X13_meanSlack_L15 K o k n v1_15 v2_15 v3_15 w = some (r, w') → W p l e ({ frames := 4, cells := 0, slots := 0, locals := 88 } : Room) s m args below meth c H locs 0 0 (MQ below (QD E K z w' r) args s 0 0 (hA E)) (F0 m 15 ls []) := by
  obtain ⟨hx, hb, hml, hown, hts, hKs, hT, hb0, hlocks, hret⟩ := id C
  intro n
  induction n with
  | zero =>
    intro v1_15 v2_15 v3_15 w H locs ls hH hl hf
    cases hf
  | succ n ih =>
    intro v1_15 v2_15 v3_15 w H locs ls hH hl hf
    rw [f_X13_meanSlack_L15] at hf
    refine lv_iload_n hx hb dX13_meanSlack_15 rfl (lv_at hl 2 rfl) ?_
    refine hl_aload_n hx hb dX13_meanSlack_16 rfl (lv_at hl 3 rfl) ?_
    refine g13_1 hx hb hts hown hKs hH rfl ho m6_182 dX13_meanSlack_17 ?_
    refine lv_iconst (v := 3) hx hb dX13_meanSlack_20 (by decide) ?_
    obtain ⟨a4, ha4, hf⟩ := bnd hf
    replace ha4 := cha_some ha4
    obtain ⟨j5, hj5, hf⟩ := bnd hf
    refine hw_iald hx hb hKs hH ha4.1 ha4.2 hj5 dX13_meanSlack_21 ?_
    refine lv_icmp_ge (tgt := 48) hx hb dX13_meanSlack_22 (by decide) (fun c6 => ?_) (fun c6 => ?_)
    · replace hf := (if_pos c6).symm.trans hf
      exact hk v1_15 v2_15 v3_15 _ _ _ _ hH (lv_sub hl [0, 1, 2, 3] rfl) hf
    · replace hf := (if_neg c6).symm.trans hf
      refine hl_aload_n hx hb dX13_meanSlack_25 rfl (lv_at hl 3 rfl) ?_
      refine lv_iload_n hx hb dX13_meanSlack_26 rfl (lv_at hl 2 rfl) ?_
      refine lv_iconst (v := 0) hx hb dX13_meanSlack_27 (by decide) ?_
      obtain ⟨q7, hq7, hf⟩ := bnd hf
      refine hcV_i hx hb hml hown hts hKs hT hb0 hH (As := [.int v3_15, .int 0]) (rest := []) (k_X13_of l E K H.size o v3_15 0 w ho hq7) (gV m7_126 m7_128 ms_54 m1_16 m7_129) hd_X13_of ⟨Nat.le_of_ble_eq_true rfl, Nat.le_of_ble_eq_true rfl, rfl, rfl⟩ rfl ho rfl rfl rfl hl.1 rfl rc0 rfl dX13_meanSlack_28 ⟨Nat.zero_le _, Nat.zero_le _⟩ (fun H locs hH => ?_)
      refine lv_if_ne (tgt := 42) hx hb dX13_meanSlack_31 (by decide) (fun c8 => ?_) (fun c8 => ?_)
      · replace hf := (if_neg c8).symm.trans hf
        refine lv_iinc (v := (v3_15 + 1)) (lv' := [(3, .int ((v3_15 + 1))), (1, .int v1_15), (2, .int v2_15), (0, rv E (some o))]) hx hb dX13_meanSlack_42 hl (k := 2) rfl rfl (by decide) rfl (fun ls hl => ?_)
        refine lv_goto (tgt := 15) hx hb dX13_meanSlack_45 (by decide) ?_
        exact ih v1_15 v2_15 (v3_15 + 1) _ _ _ _ hH (lv_sub hl [1, 2, 0, 3] rfl) hf
      · replace hf := (if_pos c8).symm.trans hf
        refine lv_iload_n hx hb dX13_meanSlack_34 rfl (lv_at hl 1 rfl) ?_
        refine hl_aload_n hx hb dX13_meanSlack_35 rfl (lv_at hl 3 rfl) ?_
        refine lv_iload_n hx hb dX13_meanSlack_36 rfl (lv_at hl 2 rfl) ?_
        obtain ⟨q9, hq9, hf⟩ := bnd hf
        refine hcV_i hx hb hml hown hts hKs hT hb0 hH (As := [.int v3_15]) (rest := [.int v2_15]) (k_X13_slackOf l E K H.size o v3_15 q7.2 ho hq9) (gV m7_118 m7_120 ms_52 m1_16 m7_121) hd_X13_slackOf ⟨Nat.le_of_ble_eq_true rfl, Nat.le_of_ble_eq_true rfl, rfl, rfl⟩ rfl ho rfl rfl rfl hl.1 rfl (rcI rc0) rfl dX13_meanSlack_37 ⟨Nat.zero_le _, Nat.zero_le _⟩ (fun H locs hH => ?_)
        refine lv_iadd hx hb dX13_meanSlack_40 ?_
        refine lv_istore_n (i := 2) (lv' := [(2, .int ((v2_15 + q9.1))), (1, .int v1_15), (3, .int v3_15), (0, rv E (some o))]) hx hb dX13_meanSlack_41 rfl hl (by decide) rfl (fun ls hl => ?_)
        refine lv_iinc (v := (v3_15 + 1)) (lv' := [(3, .int ((v3_15 + 1))), (2, .int ((v2_15 + q9.1))), (1, .int v1_15), (0, rv E (some o))]) hx hb dX13_meanSlack_42 hl (k := 2) rfl rfl (by decide) rfl (fun ls hl => ?_)
        refine lv_goto (tgt := 15) hx hb dX13_meanSlack_45 (by decide) ?_
        exact ih v1_15 (v2_15 + q9.1) (v3_15 + 1) _ _ _ _ hH (lv_sub hl [2, 1, 0, 3] rfl) hf
set_option maxHeartbeats 4000000 in
set_option maxRecDepth 100000 in
theorem k_X13_meanSlack (l : Launch) (E : Ev) (K : Kd) (z : Nat) (o : Nat) (w : Wd) (ho : K o = some (11, 0)) {r : UInt64} {w' : Wd} (hf : f_X13_meanSlack K o w = some (r, w')) : Met l yX13_meanSlack (Cond.code yX13_meanSlack cX13_meanSlack 4 (Option.some Jvm.ClassFile.FieldType.double) :: bt) ({ frames := 4, cells := 0, slots := 0, locals := 88 } : Room) (va_Pc [rv E (some o)] (HB E K w z)) (QD E K z w' r) 0 0 (hA E) := by
  refine Met.ofW (cc := cX13_meanSlack) (maxL := 4) (ret := (Option.some Jvm.ClassFile.FieldType.double)) (by decide) rfl ?_
  intro p e s m args below meth c s₁ B hml hv
  obtain ⟨rfl, hz, hP, hKs, hT, hb0⟩ := hv
  have C : CX p l e s m _ meth c cX13_meanSlack 4 RX13 (Option.some Jvm.ClassFile.FieldType.double) E := ⟨B.exec, B.bytes, hml, findClass_of_methodNamed B.named, fun w h => atoms_spec (ws := Cond.code yX13_meanSlack cX13_meanSlack 4 (Option.some Jvm.ClassFile.FieldType.double) :: bt) B.pre w (List.mem_cons_of_mem _ h), hKs, hT, by rw [hz]; exact hb0, B.notSynchronized, B.returns⟩
  have hH : HQ E K z w s s.heap [] := ⟨hP, va_S.rf, hz⟩
  obtain ⟨hx, hb, hml, hown, hts, hKs, hT, hb0, hlocks, hret⟩ := id C
  have hl := lv_entry [rv E (some o)] (n := 4) (by simp [lg_len_nil, lg_len_i, lg_len_j, lg_len_q, lg_len_f, lg_len_d, lg_len_r])
  rw [lg_entry_eq]
  generalize (lg_sl [rv E (some o)] ++ List.replicate (4 - (lg_sl [rv E (some o)]).length) Slot.unset).toArray = ls at hl ⊢
  replace hl : lv_has ls 4 [(0, rv E (some o))] := by simpa only [lv_args, cat_q, cat_i, cat_j, reduceIte, Nat.reduceEqDiff, Nat.reduceAdd, Nat.zero_add] using hl
  generalize s.heap = H at hH ⊢
  unfold f_X13_meanSlack at hf
  refine hl_aload_n hx hb dX13_meanSlack_0 rfl (lv_at hl 0 rfl) ?_
  refine lv_iconst (v := 0) hx hb dX13_meanSlack_1 (by decide) ?_
  obtain ⟨w1, hw1, hf⟩ := bnd hf
  replace hw1 := Option.some.inj hw1
  refine p13_0 (v := 0) hx hb hts hown hKs hH rfl ho m6_181 dX13_meanSlack_2 (fun H locs hH => ?_)
  rw [hw1] at hH
  refine hl_aload_n hx hb dX13_meanSlack_5 rfl (lv_at hl 0 rfl) ?_
  refine lv_iconst (v := 0) hx hb dX13_meanSlack_6 (by decide) ?_
  obtain ⟨q2, hq2, hf⟩ := bnd hf
  refine hcV_i hx hb hml hown hts hKs hT hb0 hH (As := [.int 0]) (rest := []) (k_X13_manyIn l E K H.size o 0 w1 ho hq2) (gV m7_138 m7_140 ms_56 m1_16 m7_141) hd_X13_manyIn ⟨Nat.le_of_ble_eq_true rfl, Nat.le_of_ble_eq_true rfl, rfl, rfl⟩ rfl ho rfl rfl rfl hl.1 rfl rc0 rfl dX13_meanSlack_7 ⟨Nat.zero_le _, Nat.zero_le _⟩ (fun H locs hH => ?_)
  refine lv_istore_n (i := 1) (lv' := [(1, .int (q2.1)), (0, rv E (some o))]) hx hb dX13_meanSlack_10 rfl hl (by decide) rfl (fun ls hl => ?_)
  refine lv_iconst (v := 0) hx hb dX13_meanSlack_11 (by decide) ?_
  refine lv_istore_n (i := 2) (lv' := [(2, .int 0), (1, .int (q2.1)), (0, rv E (some o))]) hx hb dX13_meanSlack_12 rfl hl (by decide) rfl (fun ls hl => ?_)
  refine lv_iconst (v := 0) hx hb dX13_meanSlack_13 (by decide) ?_
  refine lv_istore_n (i := 3) (lv' := [(3, .int 0), (2, .int 0), (1, .int (q2.1)), (0, rv E (some o))]) hx hb dX13_meanSlack_14 rfl hl (by decide) rfl (fun ls hl => ?_)
  refine l_X13_meanSlack_L15  C ho _ (fun v1_15 v2_15 v3_15 w3 H locs ls hH hl hf => ?_) fu q2.1 0 0 q2.2 _ _ _ hH (lv_sub hl [2, 1, 0, 3] rfl) hf
  refine lv_iload_n hx hb dX13_meanSlack_48 rfl (lv_at hl 0 rfl) ?_
  refine lv_if_ne (tgt := 56) hx hb dX13_meanSlack_49 (by decide) (fun c10 => ?_) (fun c10 => ?_)
  · replace hf := (if_neg c10).symm.trans hf
    refine lv_iload_n hx hb dX13_meanSlack_56 rfl (lv_at hl 1 rfl) ?_
    refine lv_i2d hx hb dX13_meanSlack_57 ?_
    refine lv_iload_n hx hb dX13_meanSlack_58 rfl (lv_at hl 0 rfl) ?_
    refine lv_i2d hx hb dX13_meanSlack_59 ?_
    obtain ⟨_, hg11, hf⟩ := bnd hf
    refine lv_ddiv hx hb dX13_meanSlack_60 (n64_ok (grd_some hg11)) ?_
    exact hw_dret hx hb hret hf hH hlocks dX13_meanSlack_61
  · replace hf := (if_pos c10).symm.trans hf
    refine lv_dconst0 hx hb dX13_meanSlack_52 ?_
    refine lv_goto (tgt := 61) hx hb dX13_meanSlack_53 (by decide) ?_
    exact hw_dret hx hb hret hf hH hlocks dX13_meanSlack_61

theorem dX13_matter_0 : decode cX13_matter 0 = .ok (.aload_n 0, 1) := by decide +kernel
theorem dX13_matter_1 : decode cX13_matter 1 = .ok (.aload_n 0, 1) := by decide +kernel
theorem dX13_matter_2 : decode cX13_matter 2 = .ok (.iload_n 1, 1) := by decide +kernel
theorem dX13_matter_3 : decode cX13_matter 3 = .ok (.invokevirtual 148, 3) := by decide +kernel
theorem dX13_matter_6 : decode cX13_matter 6 = .ok (.ifCond .eq 19, 3) := by decide +kernel
theorem dX13_matter_9 : decode cX13_matter 9 = .ok (.iload_n 2, 1) := by decide +kernel
theorem dX13_matter_10 : decode cX13_matter 10 = .ok (.i2l, 1) := by decide +kernel
theorem dX13_matter_11 : decode cX13_matter 11 = .ok (.lconst 0, 1) := by decide +kernel
theorem dX13_matter_12 : decode cX13_matter 12 = .ok (.ldc2_w 157, 3) := by decide +kernel
theorem dX13_matter_15 : decode cX13_matter 15 = .ok (.invokestatic 123, 3) := by decide +kernel
theorem dX13_matter_18 : decode cX13_matter 18 = .ok (.ifCond .eq 7, 3) := by decide +kernel
theorem dX13_matter_21 : decode cX13_matter 21 = .ok (.iconst 1, 1) := by decide +kernel
theorem dX13_matter_22 : decode cX13_matter 22 = .ok (.goto 4, 3) := by decide +kernel
theorem dX13_matter_25 : decode cX13_matter 25 = .ok (.iconst 0, 1) := by decide +kernel
theorem dX13_matter_26 : decode cX13_matter 26 = .ok (.invokevirtual 110, 3) := by decide +kernel
theorem dX13_matter_29 : decode cX13_matter 29 = .ok (.ifCond .ne 5, 3) := by decide +kernel
theorem dX13_matter_32 : decode cX13_matter 32 = .ok (.iconst 0, 1) := by decide +kernel
theorem dX13_matter_33 : decode cX13_matter 33 = .ok (.ireturn, 1) := by decide +kernel
theorem dX13_matter_34 : decode cX13_matter 34 = .ok (.iload_n 2, 1) := by decide +kernel
theorem dX13_matter_35 : decode cX13_matter 35 = .ok (.tableswitch 130 0 8 #[49, 59, 69, 79, 86, 92, 99, 109, 116], 49) := by decide +kernel
theorem dX13_matter_84 : decode cX13_matter 84 = .ok (.aload_n 0, 1) := by decide +kernel
theorem dX13_matter_85 : decode cX13_matter 85 = .ok (.getfield 7, 3) := by decide +kernel
theorem dX13_matter_88 : decode cX13_matter 88 = .ok (.bipush 88, 2) := by decide +kernel
theorem dX13_matter_90 : decode cX13_matter 90 = .ok (.iload_n 1, 1) := by decide +kernel
theorem dX13_matter_91 : decode cX13_matter 91 = .ok (.iadd, 1) := by decide +kernel
theorem dX13_matter_92 : decode cX13_matter 92 = .ok (.iaload, 1) := by decide +kernel
theorem dX13_matter_93 : decode cX13_matter 93 = .ok (.ireturn, 1) := by decide +kernel
theorem dX13_matter_94 : decode cX13_matter 94 = .ok (.aload_n 0, 1) := by decide +kernel
theorem dX13_matter_95 : decode cX13_matter 95 = .ok (.getfield 7, 3) := by decide +kernel
theorem dX13_matter_98 : decode cX13_matter 98 = .ok (.bipush 100, 2) := by decide +kernel
theorem dX13_matter_100 : decode cX13_matter 100 = .ok (.iload_n 1, 1) := by decide +kernel
theorem dX13_matter_101 : decode cX13_matter 101 = .ok (.iadd, 1) := by decide +kernel
theorem dX13_matter_102 : decode cX13_matter 102 = .ok (.iaload, 1) := by decide +kernel
theorem dX13_matter_103 : decode cX13_matter 103 = .ok (.ireturn, 1) := by decide +kernel
theorem dX13_matter_104 : decode cX13_matter 104 = .ok (.aload_n 0, 1) := by decide +kernel
theorem dX13_matter_105 : decode cX13_matter 105 = .ok (.getfield 7, 3) := by decide +kernel
theorem dX13_matter_108 : decode cX13_matter 108 = .ok (.bipush 112, 2) := by decide +kernel
theorem dX13_matter_110 : decode cX13_matter 110 = .ok (.iload_n 1, 1) := by decide +kernel
theorem dX13_matter_111 : decode cX13_matter 111 = .ok (.iadd, 1) := by decide +kernel
theorem dX13_matter_112 : decode cX13_matter 112 = .ok (.iaload, 1) := by decide +kernel
theorem dX13_matter_113 : decode cX13_matter 113 = .ok (.ireturn, 1) := by decide +kernel
theorem dX13_matter_114 : decode cX13_matter 114 = .ok (.aload_n 0, 1) := by decide +kernel
theorem dX13_matter_115 : decode cX13_matter 115 = .ok (.iload_n 1, 1) := by decide +kernel
theorem dX13_matter_116 : decode cX13_matter 116 = .ok (.iconst 1, 1) := by decide +kernel
theorem dX13_matter_117 : decode cX13_matter 117 = .ok (.invokevirtual 141, 3) := by decide +kernel
theorem dX13_matter_120 : decode cX13_matter 120 = .ok (.ireturn, 1) := by decide +kernel
theorem dX13_matter_121 : decode cX13_matter 121 = .ok (.aload_n 0, 1) := by decide +kernel
theorem dX13_matter_122 : decode cX13_matter 122 = .ok (.iload_n 1, 1) := by decide +kernel
theorem dX13_matter_123 : decode cX13_matter 123 = .ok (.invokevirtual 144, 3) := by decide +kernel
theorem dX13_matter_126 : decode cX13_matter 126 = .ok (.ireturn, 1) := by decide +kernel
theorem dX13_matter_127 : decode cX13_matter 127 = .ok (.aload_n 0, 1) := by decide +kernel
theorem dX13_matter_128 : decode cX13_matter 128 = .ok (.iload_n 1, 1) := by decide +kernel
theorem dX13_matter_129 : decode cX13_matter 129 = .ok (.iconst 0, 1) := by decide +kernel
theorem dX13_matter_130 : decode cX13_matter 130 = .ok (.invokevirtual 141, 3) := by decide +kernel
theorem dX13_matter_133 : decode cX13_matter 133 = .ok (.ireturn, 1) := by decide +kernel
theorem dX13_matter_134 : decode cX13_matter 134 = .ok (.aload_n 0, 1) := by decide +kernel
theorem dX13_matter_135 : decode cX13_matter 135 = .ok (.getfield 7, 3) := by decide +kernel
theorem dX13_matter_138 : decode cX13_matter 138 = .ok (.bipush 124, 2) := by decide +kernel
theorem dX13_matter_140 : decode cX13_matter 140 = .ok (.iload_n 1, 1) := by decide +kernel
theorem dX13_matter_141 : decode cX13_matter 141 = .ok (.iadd, 1) := by decide +kernel
theorem dX13_matter_142 : decode cX13_matter 142 = .ok (.iaload, 1) := by decide +kernel
theorem dX13_matter_143 : decode cX13_matter 143 = .ok (.ireturn, 1) := by decide +kernel
theorem dX13_matter_144 : decode cX13_matter 144 = .ok (.aload_n 0, 1) := by decide +kernel
theorem dX13_matter_145 : decode cX13_matter 145 = .ok (.iload_n 1, 1) := by decide +kernel
theorem dX13_matter_146 : decode cX13_matter 146 = .ok (.iconst 2, 1) := by decide +kernel
theorem dX13_matter_147 : decode cX13_matter 147 = .ok (.invokevirtual 141, 3) := by decide +kernel
theorem dX13_matter_150 : decode cX13_matter 150 = .ok (.ireturn, 1) := by decide +kernel
theorem dX13_matter_151 : decode cX13_matter 151 = .ok (.aload_n 0, 1) := by decide +kernel
theorem dX13_matter_152 : decode cX13_matter 152 = .ok (.getfield 7, 3) := by decide +kernel
theorem dX13_matter_155 : decode cX13_matter 155 = .ok (.sipush 136, 3) := by decide +kernel
theorem dX13_matter_158 : decode cX13_matter 158 = .ok (.iload_n 1, 1) := by decide +kernel
theorem dX13_matter_159 : decode cX13_matter 159 = .ok (.iadd, 1) := by decide +kernel
theorem dX13_matter_160 : decode cX13_matter 160 = .ok (.iaload, 1) := by decide +kernel
theorem dX13_matter_161 : decode cX13_matter 161 = .ok (.invokestatic 159, 3) := by decide +kernel
theorem dX13_matter_164 : decode cX13_matter 164 = .ok (.ireturn, 1) := by decide +kernel
theorem dX13_matter_165 : decode cX13_matter 165 = .ok (.aload_n 0, 1) := by decide +kernel
theorem dX13_matter_166 : decode cX13_matter 166 = .ok (.getfield 7, 3) := by decide +kernel
theorem dX13_matter_169 : decode cX13_matter 169 = .ok (.sipush 148, 3) := by decide +kernel
theorem dX13_matter_172 : decode cX13_matter 172 = .ok (.iload_n 1, 1) := by decide +kernel
theorem dX13_matter_173 : decode cX13_matter 173 = .ok (.iadd, 1) := by decide +kernel
theorem dX13_matter_174 : decode cX13_matter 174 = .ok (.iaload, 1) := by decide +kernel
theorem dX13_matter_175 : decode cX13_matter 175 = .ok (.invokestatic 159, 3) := by decide +kernel
theorem dX13_matter_178 : decode cX13_matter 178 = .ok (.ireturn, 1) := by decide +kernel
theorem hd_X13_matter : yX13_matter.cls = RX13 ∧ yX13_matter.cls ≠ "java/lang/invoke/MethodHandle" ∧ yX13_matter.cls ≠ "java/lang/invoke/VarHandle" ∧ (parseMethodDescriptor yX13_matter.desc).map (fun d => d.parameters.length) = some 2 := by decide +kernel
theorem hs_X13_matter : yX13_matter.cls ≠ "java/lang/invoke/MethodHandle" ∧ yX13_matter.cls ≠ "java/lang/invoke/VarHandle" ∧ (parseMethodDescriptor yX13_matter.desc).map (fun d => d.parameters.length) = some 2 := by decide +kernel
set_option maxHeartbeats 4000000 in
set_option maxRecDepth 100000 in
theorem k_X13_matter (l : Launch) (E : Ev) (K : Kd) (z : Nat) (o : Nat) (a_1 : Int32) (a_2 : Int32) (w : Wd) (ho : K o = some (11, 0)) {r : Int32} {w' : Wd} (hf : f_X13_matter K o a_1 a_2 w = some (r, w')) : Met l yX13_matter (Cond.code yX13_matter cX13_matter 3 (Option.some Jvm.ClassFile.FieldType.int) :: bt) ({ frames := 3, cells := 0, slots := 0, locals := 67 } : Room) (va_Pc [rv E (some o), .int a_1, .int a_2] (HB E K w z)) (QI E K z w' r) 0 0 (hA E) := by
  refine Met.ofW (cc := cX13_matter) (maxL := 3) (ret := (Option.some Jvm.ClassFile.FieldType.int)) (by decide) rfl ?_
  intro p e s m args below meth c s₁ B hml hv
  obtain ⟨rfl, hz, hP, hKs, hT, hb0⟩ := hv
  have C : CX p l e s m _ meth c cX13_matter 3 RX13 (Option.some Jvm.ClassFile.FieldType.int) E := ⟨B.exec, B.bytes, hml, findClass_of_methodNamed B.named, fun w h => atoms_spec (ws := Cond.code yX13_matter cX13_matter 3 (Option.some Jvm.ClassFile.FieldType.int) :: bt) B.pre w (List.mem_cons_of_mem _ h), hKs, hT, by rw [hz]; exact hb0, B.notSynchronized, B.returns⟩
  have hH : HQ E K z w s s.heap [] := ⟨hP, va_S.rf, hz⟩
  obtain ⟨hx, hb, hml, hown, hts, hKs, hT, hb0, hlocks, hret⟩ := id C
  have hl := lv_entry [rv E (some o), .int a_1, .int a_2] (n := 3) (by simp [lg_len_nil, lg_len_i, lg_len_j, lg_len_q, lg_len_f, lg_len_d, lg_len_r])
  rw [lg_entry_eq]
  generalize (lg_sl [rv E (some o), .int a_1, .int a_2] ++ List.replicate (3 - (lg_sl [rv E (some o), .int a_1, .int a_2]).length) Slot.unset).toArray = ls at hl ⊢
  replace hl : lv_has ls 3 [(0, rv E (some o)), (1, .int a_1), (2, .int a_2)] := by simpa only [lv_args, cat_q, cat_i, cat_j, reduceIte, Nat.reduceEqDiff, Nat.reduceAdd, Nat.zero_add] using hl
  generalize s.heap = H at hH ⊢
  unfold f_X13_matter at hf
  refine hl_aload_n hx hb dX13_matter_0 rfl (lv_at hl 0 rfl) ?_
  refine hl_aload_n hx hb dX13_matter_1 rfl (lv_at hl 0 rfl) ?_
  refine lv_iload_n hx hb dX13_matter_2 rfl (lv_at hl 1 rfl) ?_
  obtain ⟨q1, hq1, hf⟩ := bnd hf
  refine hcV_i hx hb hml hown hts hKs hT hb0 hH (As := [.int a_1]) (rest := [rv E (some o)]) (k_X13_isCase l E K H.size o a_1 w ho hq1) (gV m7_114 m7_116 ms_51 m1_16 m7_117) hd_X13_isCase ⟨Nat.le_of_ble_eq_true rfl, Nat.le_of_ble_eq_true rfl, rfl, rfl⟩ rfl ho rfl rfl rfl hl.1 rfl (rcV rc0) rfl dX13_matter_3 ⟨Nat.zero_le _, Nat.zero_le _⟩ (fun H locs hH => ?_)
  refine lv_if_eq (tgt := 25) hx hb dX13_matter_6 (by decide) (fun c2 => ?_) (fun c2 => ?_)
  · replace hf := (if_pos c2).symm.trans hf
    refine lv_iconst (v := 0) hx hb dX13_matter_25 (by decide) ?_
    obtain ⟨q3, hq3, hf⟩ := bnd hf
    refine hcV_i hx hb hml hown hts hKs hT hb0 hH (As := [.int 0]) (rest := []) (k_X13_is l E K H.size o false q1.2 ho hq3) (gV m7_68 m7_70 ms_47 m1_16 m7_71) hd_X13_is ⟨Nat.le_of_ble_eq_true rfl, Nat.le_of_ble_eq_true rfl, rfl, rfl⟩ rfl ho rfl rfl rfl hl.1 rfl rc0 rfl dX13_matter_26 ⟨Nat.zero_le _, Nat.zero_le _⟩ (fun H locs hH => ?_)
    refine lv_if_ne (tgt := 34) hx hb dX13_matter_29 (by decide) (fun c4 => ?_) (fun c4 => ?_)
    · replace hf := (if_neg c4).symm.trans hf
      refine lv_iload_n hx hb dX13_matter_34 rfl (lv_at hl 2 rfl) ?_
      by_cases c5 : (a_2 < 0 ∨ 8 < a_2)
      · replace hf := (if_pos c5).symm.trans hf
        refine hl_tabOut (tgt := 165) hx hb dX13_matter_35 c5 (by decide) (by decide) (by decide) ?_
        refine hl_aload_n hx hb dX13_matter_165 rfl (lv_at hl 0 rfl) ?_
        refine g13_1 hx hb hts hown hKs hH rfl ho m6_182 dX13_matter_166 ?_
        refine lv_sipush (v := 148) hx hb dX13_matter_169 (by decide) ?_
        refine lv_iload_n hx hb dX13_matter_172 rfl (lv_at hl 1 rfl) ?_
        refine lv_iadd hx hb dX13_matter_173 ?_
        obtain ⟨a6, ha6, hf⟩ := bnd hf
        replace ha6 := cha_some ha6
        obtain ⟨j7, hj7, hf⟩ := bnd hf
        refine hw_iald hx hb hKs hH ha6.1 ha6.2 hj7 dX13_matter_174 ?_
        obtain ⟨q8, hq8, hf⟩ := bnd hf
        refine hcS_i hx hb hml hown hts hKs hT hb0 hH (As := [.int ((aI q3.2 a6.1 j7))]) (rest := []) (k_X13_bits l E K H.size (aI q3.2 a6.1 j7) q3.2 hq8) (gS m7_147 m7_148 m1_16 m7_149) hs_X13_bits ⟨Nat.le_of_ble_eq_true rfl, Nat.le_of_ble_eq_true rfl, rfl, rfl⟩ hl.1 rfl rc0 rfl dX13_matter_175 ⟨Nat.zero_le _, Nat.zero_le _⟩ (fun H locs hH => ?_)
        exact hw_iret hx hb hret hf hH hlocks dX13_matter_178
      replace hf := (if_neg c5).symm.trans hf
      by_cases c9 : a_2 = 0
      · replace hf := (if_pos c9).symm.trans hf
        refine hl_tabIn (tgt := 84) hx hb dX13_matter_35 c9 (by decide) (by decide) rfl (by decide) ?_
        refine hl_aload_n hx hb dX13_matter_84 rfl (lv_at hl 0 rfl) ?_
        refine g13_1 hx hb hts hown hKs hH rfl ho m6_182 dX13_matter_85 ?_
        refine lv_bipush (v := 88) hx hb dX13_matter_88 (by decide) ?_
        refine lv_iload_n hx hb dX13_matter_90 rfl (lv_at hl 1 rfl) ?_
        refine lv_iadd hx hb dX13_matter_91 ?_
        obtain ⟨a10, ha10, hf⟩ := bnd hf
        replace ha10 := cha_some ha10
        obtain ⟨j11, hj11, hf⟩ := bnd hf
        refine hw_iald hx hb hKs hH ha10.1 ha10.2 hj11 dX13_matter_92 ?_
        exact hw_iret hx hb hret hf hH hlocks dX13_matter_93
      replace hf := (if_neg c9).symm.trans hf
      by_cases c12 : a_2 = 1
      · replace hf := (if_pos c12).symm.trans hf
        refine hl_tabIn (tgt := 94) hx hb dX13_matter_35 c12 (by decide) (by decide) rfl (by decide) ?_
        refine hl_aload_n hx hb dX13_matter_94 rfl (lv_at hl 0 rfl) ?_
        refine g13_1 hx hb hts hown hKs hH rfl ho m6_182 dX13_matter_95 ?_
        refine lv_bipush (v := 100) hx hb dX13_matter_98 (by decide) ?_
        refine lv_iload_n hx hb dX13_matter_100 rfl (lv_at hl 1 rfl) ?_
        refine lv_iadd hx hb dX13_matter_101 ?_
        obtain ⟨a13, ha13, hf⟩ := bnd hf
        replace ha13 := cha_some ha13
        obtain ⟨j14, hj14, hf⟩ := bnd hf
        refine hw_iald hx hb hKs hH ha13.1 ha13.2 hj14 dX13_matter_102 ?_
        exact hw_iret hx hb hret hf hH hlocks dX13_matter_103
      replace hf := (if_neg c12).symm.trans hf
      by_cases c15 : a_2 = 2
      · replace hf := (if_pos c15).symm.trans hf
        refine hl_tabIn (tgt := 104) hx hb dX13_matter_35 c15 (by decide) (by decide) rfl (by decide) ?_
        refine hl_aload_n hx hb dX13_matter_104 rfl (lv_at hl 0 rfl) ?_
        refine g13_1 hx hb hts hown hKs hH rfl ho m6_182 dX13_matter_105 ?_
        refine lv_bipush (v := 112) hx hb dX13_matter_108 (by decide) ?_
        refine lv_iload_n hx hb dX13_matter_110 rfl (lv_at hl 1 rfl) ?_
        refine lv_iadd hx hb dX13_matter_111 ?_
        obtain ⟨a16, ha16, hf⟩ := bnd hf
        replace ha16 := cha_some ha16
        obtain ⟨j17, hj17, hf⟩ := bnd hf
        refine hw_iald hx hb hKs hH ha16.1 ha16.2 hj17 dX13_matter_112 ?_
        exact hw_iret hx hb hret hf hH hlocks dX13_matter_113
      replace hf := (if_neg c15).symm.trans hf
      by_cases c18 : a_2 = 3
      · replace hf := (if_pos c18).symm.trans hf
        refine hl_tabIn (tgt := 114) hx hb dX13_matter_35 c18 (by decide) (by decide) rfl (by decide) ?_
        refine hl_aload_n hx hb dX13_matter_114 rfl (lv_at hl 0 rfl) ?_
        refine lv_iload_n hx hb dX13_matter_115 rfl (lv_at hl 1 rfl) ?_
        refine lv_iconst (v := 1) hx hb dX13_matter_116 (by decide) ?_
        obtain ⟨q19, hq19, hf⟩ := bnd hf
        refine hcV_i hx hb hml hown hts hKs hT hb0 hH (As := [.int a_1, .int 1]) (rest := []) (k_X13_of l E K H.size o a_1 1 q3.2 ho hq19) (gV m7_126 m7_128 ms_54 m1_16 m7_129) hd_X13_of ⟨Nat.le_of_ble_eq_true rfl, Nat.le_of_ble_eq_true rfl, rfl, rfl⟩ rfl ho rfl rfl rfl hl.1 rfl rc0 rfl dX13_matter_117 ⟨Nat.zero_le _, Nat.zero_le _⟩ (fun H locs hH => ?_)
        exact hw_iret hx hb hret hf hH hlocks dX13_matter_120
      replace hf := (if_neg c18).symm.trans hf
      by_cases c20 : a_2 = 4
      · replace hf := (if_pos c20).symm.trans hf
        refine hl_tabIn (tgt := 121) hx hb dX13_matter_35 c20 (by decide) (by decide) rfl (by decide) ?_
        refine hl_aload_n hx hb dX13_matter_121 rfl (lv_at hl 0 rfl) ?_
        refine lv_iload_n hx hb dX13_matter_122 rfl (lv_at hl 1 rfl) ?_
        obtain ⟨q21, hq21, hf⟩ := bnd hf
        refine hcV_i hx hb hml hown hts hKs hT hb0 hH (As := [.int a_1]) (rest := []) (k_X13_limitDay l E K H.size o a_1 q3.2 ho hq21) (gV m7_122 m7_124 ms_53 m1_16 m7_125) hd_X13_limitDay ⟨Nat.le_of_ble_eq_true rfl, Nat.le_of_ble_eq_true rfl, rfl, rfl⟩ rfl ho rfl rfl rfl hl.1 rfl rc0 rfl dX13_matter_123 ⟨Nat.zero_le _, Nat.zero_le _⟩ (fun H locs hH => ?_)
        exact hw_iret hx hb hret hf hH hlocks dX13_matter_126
      replace hf := (if_neg c20).symm.trans hf
      by_cases c22 : a_2 = 5
      · replace hf := (if_pos c22).symm.trans hf
        refine hl_tabIn (tgt := 127) hx hb dX13_matter_35 c22 (by decide) (by decide) rfl (by decide) ?_
        refine hl_aload_n hx hb dX13_matter_127 rfl (lv_at hl 0 rfl) ?_
        refine lv_iload_n hx hb dX13_matter_128 rfl (lv_at hl 1 rfl) ?_
        refine lv_iconst (v := 0) hx hb dX13_matter_129 (by decide) ?_
        obtain ⟨q23, hq23, hf⟩ := bnd hf
        refine hcV_i hx hb hml hown hts hKs hT hb0 hH (As := [.int a_1, .int 0]) (rest := []) (k_X13_of l E K H.size o a_1 0 q3.2 ho hq23) (gV m7_126 m7_128 ms_54 m1_16 m7_129) hd_X13_of ⟨Nat.le_of_ble_eq_true rfl, Nat.le_of_ble_eq_true rfl, rfl, rfl⟩ rfl ho rfl rfl rfl hl.1 rfl rc0 rfl dX13_matter_130 ⟨Nat.zero_le _, Nat.zero_le _⟩ (fun H locs hH => ?_)
        exact hw_iret hx hb hret hf hH hlocks dX13_matter_133
      replace hf := (if_neg c22).symm.trans hf
      by_cases c24 : a_2 = 6
      · replace hf := (if_pos c24).symm.trans hf
        refine hl_tabIn (tgt := 134) hx hb dX13_matter_35 c24 (by decide) (by decide) rfl (by decide) ?_
        refine hl_aload_n hx hb dX13_matter_134 rfl (lv_at hl 0 rfl) ?_
        refine g13_1 hx hb hts hown hKs hH rfl ho m6_182 dX13_matter_135 ?_
        refine lv_bipush (v := 124) hx hb dX13_matter_138 (by decide) ?_
        refine lv_iload_n hx hb dX13_matter_140 rfl (lv_at hl 1 rfl) ?_
        refine lv_iadd hx hb dX13_matter_141 ?_
        obtain ⟨a25, ha25, hf⟩ := bnd hf
        replace ha25 := cha_some ha25
        obtain ⟨j26, hj26, hf⟩ := bnd hf
        refine hw_iald hx hb hKs hH ha25.1 ha25.2 hj26 dX13_matter_142 ?_
        exact hw_iret hx hb hret hf hH hlocks dX13_matter_143
      replace hf := (if_neg c24).symm.trans hf
      by_cases c27 : a_2 = 7
      · replace hf := (if_pos c27).symm.trans hf
        refine hl_tabIn (tgt := 144) hx hb dX13_matter_35 c27 (by decide) (by decide) rfl (by decide) ?_
        refine hl_aload_n hx hb dX13_matter_144 rfl (lv_at hl 0 rfl) ?_
        refine lv_iload_n hx hb dX13_matter_145 rfl (lv_at hl 1 rfl) ?_
        refine lv_iconst (v := 2) hx hb dX13_matter_146 (by decide) ?_
        obtain ⟨q28, hq28, hf⟩ := bnd hf
        refine hcV_i hx hb hml hown hts hKs hT hb0 hH (As := [.int a_1, .int 2]) (rest := []) (k_X13_of l E K H.size o a_1 2 q3.2 ho hq28) (gV m7_126 m7_128 ms_54 m1_16 m7_129) hd_X13_of ⟨Nat.le_of_ble_eq_true rfl, Nat.le_of_ble_eq_true rfl, rfl, rfl⟩ rfl ho rfl rfl rfl hl.1 rfl rc0 rfl dX13_matter_147 ⟨Nat.zero_le _, Nat.zero_le _⟩ (fun H locs hH => ?_)
        exact hw_iret hx hb hret hf hH hlocks dX13_matter_150
      replace hf := (if_neg c27).symm.trans hf
      by_cases c29 : a_2 = 8
      · replace hf := (if_pos c29).symm.trans hf
        refine hl_tabIn (tgt := 151) hx hb dX13_matter_35 c29 (by decide) (by decide) rfl (by decide) ?_
        refine hl_aload_n hx hb dX13_matter_151 rfl (lv_at hl 0 rfl) ?_
        refine g13_1 hx hb hts hown hKs hH rfl ho m6_182 dX13_matter_152 ?_
        refine lv_sipush (v := 136) hx hb dX13_matter_155 (by decide) ?_
        refine lv_iload_n hx hb dX13_matter_158 rfl (lv_at hl 1 rfl) ?_
        refine lv_iadd hx hb dX13_matter_159 ?_
        obtain ⟨a30, ha30, hf⟩ := bnd hf
        replace ha30 := cha_some ha30
        obtain ⟨j31, hj31, hf⟩ := bnd hf
        refine hw_iald hx hb hKs hH ha30.1 ha30.2 hj31 dX13_matter_160 ?_
        obtain ⟨q32, hq32, hf⟩ := bnd hf
        refine hcS_i hx hb hml hown hts hKs hT hb0 hH (As := [.int ((aI q3.2 a30.1 j31))]) (rest := []) (k_X13_bits l E K H.size (aI q3.2 a30.1 j31) q3.2 hq32) (gS m7_147 m7_148 m1_16 m7_149) hs_X13_bits ⟨Nat.le_of_ble_eq_true rfl, Nat.le_of_ble_eq_true rfl, rfl, rfl⟩ hl.1 rfl rc0 rfl dX13_matter_161 ⟨Nat.zero_le _, Nat.zero_le _⟩ (fun H locs hH => ?_)
        exact hw_iret hx hb hret hf hH hlocks dX13_matter_164
      replace hf := (if_neg c29).symm.trans hf
      cases hf
    · replace hf := (if_pos c4).symm.trans hf
      refine lv_iconst (v := 0) hx hb dX13_matter_32 (by decide) ?_
      exact hw_iret hx hb hret hf hH hlocks dX13_matter_33
  · replace hf := (if_neg c2).symm.trans hf
    refine lv_iload_n hx hb dX13_matter_9 rfl (lv_at hl 2 rfl) ?_
    refine lv_i2l (v := (a_2.toInt64)) hx hb dX13_matter_10 rfl ?_
    refine lv_lconst (v := 0) hx hb dX13_matter_11 rfl ?_
    refine lv_ldc2 (v := 9) hx hb hown (hts _ m7_146) dX13_matter_12 ?_
    obtain ⟨q33, hq33, hf⟩ := bnd hf
    refine hcS_i hx hb hml hown hts hKs hT hb0 hH (As := [.long (a_2.toInt64), .long 0, .long 9]) (rest := [rv E (some o)]) (k_X13_isIn l E K H.size (a_2.toInt64) 0 9 q1.2 hq33) (gS m7_88 m7_89 m1_16 m7_90) hs_X13_isIn ⟨Nat.le_of_ble_eq_true rfl, Nat.le_of_ble_eq_true rfl, rfl, rfl⟩ hl.1 rfl (rcV rc0) rfl dX13_matter_15 ⟨Nat.zero_le _, Nat.zero_le _⟩ (fun H locs hH => ?_)
    refine lv_if_eq (tgt := 25) hx hb dX13_matter_18 (by decide) (fun c34 => ?_) (fun c34 => ?_)
    · replace hf := (if_pos c34).symm.trans hf
      refine lv_iconst (v := 0) hx hb dX13_matter_25 (by decide) ?_
      obtain ⟨q35, hq35, hf⟩ := bnd hf
      refine hcV_i hx hb hml hown hts hKs hT hb0 hH (As := [.int 0]) (rest := []) (k_X13_is l E K H.size o false q33.2 ho hq35) (gV m7_68 m7_70 ms_47 m1_16 m7_71) hd_X13_is ⟨Nat.le_of_ble_eq_true rfl, Nat.le_of_ble_eq_true rfl, rfl, rfl⟩ rfl ho rfl rfl rfl hl.1 rfl rc0 rfl dX13_matter_26 ⟨Nat.zero_le _, Nat.zero_le _⟩ (fun H locs hH => ?_)
      refine lv_if_ne (tgt := 34) hx hb dX13_matter_29 (by decide) (fun c36 => ?_) (fun c36 => ?_)
      · replace hf := (if_neg c36).symm.trans hf
        refine lv_iload_n hx hb dX13_matter_34 rfl (lv_at hl 2 rfl) ?_
        by_cases c37 : (a_2 < 0 ∨ 8 < a_2)
        · replace hf := (if_pos c37).symm.trans hf
          refine hl_tabOut (tgt := 165) hx hb dX13_matter_35 c37 (by decide) (by decide) (by decide) ?_
          refine hl_aload_n hx hb dX13_matter_165 rfl (lv_at hl 0 rfl) ?_
          refine g13_1 hx hb hts hown hKs hH rfl ho m6_182 dX13_matter_166 ?_
          refine lv_sipush (v := 148) hx hb dX13_matter_169 (by decide) ?_
          refine lv_iload_n hx hb dX13_matter_172 rfl (lv_at hl 1 rfl) ?_
          refine lv_iadd hx hb dX13_matter_173 ?_
          obtain ⟨a38, ha38, hf⟩ := bnd hf
          replace ha38 := cha_some ha38
          obtain ⟨j39, hj39, hf⟩ := bnd hf
          refine hw_iald hx hb hKs hH ha38.1 ha38.2 hj39 dX13_matter_174 ?_
          obtain ⟨q40, hq40, hf⟩ := bnd hf
          refine hcS_i hx hb hml hown hts hKs hT hb0 hH (As := [.int ((aI q35.2 a38.1 j39))]) (rest := []) (k_X13_bits l E K H.size (aI q35.2 a38.1 j39) q35.2 hq40) (gS m7_147 m7_148 m1_16 m7_149) hs_X13_bits ⟨Nat.le_of_ble_eq_true rfl, Nat.le_of_ble_eq_true rfl, rfl, rfl⟩ hl.1 rfl rc0 rfl dX13_matter_175 ⟨Nat.zero_le _, Nat.zero_le _⟩ (fun H locs hH => ?_)
          exact hw_iret hx hb hret hf hH hlocks dX13_matter_178
        replace hf := (if_neg c37).symm.trans hf
        by_cases c41 : a_2 = 0
        · replace hf := (if_pos c41).symm.trans hf
          refine hl_tabIn (tgt := 84) hx hb dX13_matter_35 c41 (by decide) (by decide) rfl (by decide) ?_
          refine hl_aload_n hx hb dX13_matter_84 rfl (lv_at hl 0 rfl) ?_
          refine g13_1 hx hb hts hown hKs hH rfl ho m6_182 dX13_matter_85 ?_
          refine lv_bipush (v := 88) hx hb dX13_matter_88 (by decide) ?_
          refine lv_iload_n hx hb dX13_matter_90 rfl (lv_at hl 1 rfl) ?_
          refine lv_iadd hx hb dX13_matter_91 ?_
          obtain ⟨a42, ha42, hf⟩ := bnd hf
          replace ha42 := cha_some ha42
          obtain ⟨j43, hj43, hf⟩ := bnd hf
          refine hw_iald hx hb hKs hH ha42.1 ha42.2 hj43 dX13_matter_92 ?_
          exact hw_iret hx hb hret hf hH hlocks dX13_matter_93
        replace hf := (if_neg c41).symm.trans hf
        by_cases c44 : a_2 = 1
        · replace hf := (if_pos c44).symm.trans hf
          refine hl_tabIn (tgt := 94) hx hb dX13_matter_35 c44 (by decide) (by decide) rfl (by decide) ?_
          refine hl_aload_n hx hb dX13_matter_94 rfl (lv_at hl 0 rfl) ?_
          refine g13_1 hx hb hts hown hKs hH rfl ho m6_182 dX13_matter_95 ?_
          refine lv_bipush (v := 100) hx hb dX13_matter_98 (by decide) ?_
          refine lv_iload_n hx hb dX13_matter_100 rfl (lv_at hl 1 rfl) ?_
          refine lv_iadd hx hb dX13_matter_101 ?_
          obtain ⟨a45, ha45, hf⟩ := bnd hf
          replace ha45 := cha_some ha45
          obtain ⟨j46, hj46, hf⟩ := bnd hf
          refine hw_iald hx hb hKs hH ha45.1 ha45.2 hj46 dX13_matter_102 ?_
          exact hw_iret hx hb hret hf hH hlocks dX13_matter_103
        replace hf := (if_neg c44).symm.trans hf
        by_cases c47 : a_2 = 2
        · replace hf := (if_pos c47).symm.trans hf
          refine hl_tabIn (tgt := 104) hx hb dX13_matter_35 c47 (by decide) (by decide) rfl (by decide) ?_
          refine hl_aload_n hx hb dX13_matter_104 rfl (lv_at hl 0 rfl) ?_
          refine g13_1 hx hb hts hown hKs hH rfl ho m6_182 dX13_matter_105 ?_
          refine lv_bipush (v := 112) hx hb dX13_matter_108 (by decide) ?_
          refine lv_iload_n hx hb dX13_matter_110 rfl (lv_at hl 1 rfl) ?_
          refine lv_iadd hx hb dX13_matter_111 ?_
          obtain ⟨a48, ha48, hf⟩ := bnd hf
          replace ha48 := cha_some ha48
          obtain ⟨j49, hj49, hf⟩ := bnd hf
          refine hw_iald hx hb hKs hH ha48.1 ha48.2 hj49 dX13_matter_112 ?_
          exact hw_iret hx hb hret hf hH hlocks dX13_matter_113
        replace hf := (if_neg c47).symm.trans hf
        by_cases c50 : a_2 = 3
        · replace hf := (if_pos c50).symm.trans hf
          refine hl_tabIn (tgt := 114) hx hb dX13_matter_35 c50 (by decide) (by decide) rfl (by decide) ?_
          refine hl_aload_n hx hb dX13_matter_114 rfl (lv_at hl 0 rfl) ?_
          refine lv_iload_n hx hb dX13_matter_115 rfl (lv_at hl 1 rfl) ?_
          refine lv_iconst (v := 1) hx hb dX13_matter_116 (by decide) ?_
          obtain ⟨q51, hq51, hf⟩ := bnd hf
          refine hcV_i hx hb hml hown hts hKs hT hb0 hH (As := [.int a_1, .int 1]) (rest := []) (k_X13_of l E K H.size o a_1 1 q35.2 ho hq51) (gV m7_126 m7_128 ms_54 m1_16 m7_129) hd_X13_of ⟨Nat.le_of_ble_eq_true rfl, Nat.le_of_ble_eq_true rfl, rfl, rfl⟩ rfl ho rfl rfl rfl hl.1 rfl rc0 rfl dX13_matter_117 ⟨Nat.zero_le _, Nat.zero_le _⟩ (fun H locs hH => ?_)
          exact hw_iret hx hb hret hf hH hlocks dX13_matter_120
        replace hf := (if_neg c50).symm.trans hf
        by_cases c52 : a_2 = 4
        · replace hf := (if_pos c52).symm.trans hf
          refine hl_tabIn (tgt := 121) hx hb dX13_matter_35 c52 (by decide) (by decide) rfl (by decide) ?_
          refine hl_aload_n hx hb dX13_matter_121 rfl (lv_at hl 0 rfl) ?_
          refine lv_iload_n hx hb dX13_matter_122 rfl (lv_at hl 1 rfl) ?_
          obtain ⟨q53, hq53, hf⟩ := bnd hf
          refine hcV_i hx hb hml hown hts hKs hT hb0 hH (As := [.int a_1]) (rest := []) (k_X13_limitDay l E K H.size o a_1 q35.2 ho hq53) (gV m7_122 m7_124 ms_53 m1_16 m7_125) hd_X13_limitDay ⟨Nat.le_of_ble_eq_true rfl, Nat.le_of_ble_eq_true rfl, rfl, rfl⟩ rfl ho rfl rfl rfl hl.1 rfl rc0 rfl dX13_matter_123 ⟨Nat.zero_le _, Nat.zero_le _⟩ (fun H locs hH => ?_)
          exact hw_iret hx hb hret hf hH hlocks dX13_matter_126
        replace hf := (if_neg c52).symm.trans hf
        by_cases c54 : a_2 = 5
        · replace hf := (if_pos c54).symm.trans hf
          refine hl_tabIn (tgt := 127) hx hb dX13_matter_35 c54 (by decide) (by decide) rfl (by decide) ?_
          refine hl_aload_n hx hb dX13_matter_127 rfl (lv_at hl 0 rfl) ?_
          refine lv_iload_n hx hb dX13_matter_128 rfl (lv_at hl 1 rfl) ?_
          refine lv_iconst (v := 0) hx hb dX13_matter_129 (by decide) ?_
          obtain ⟨q55, hq55, hf⟩ := bnd hf
          refine hcV_i hx hb hml hown hts hKs hT hb0 hH (As := [.int a_1, .int 0]) (rest := []) (k_X13_of l E K H.size o a_1 0 q35.2 ho hq55) (gV m7_126 m7_128 ms_54 m1_16 m7_129) hd_X13_of ⟨Nat.le_of_ble_eq_true rfl, Nat.le_of_ble_eq_true rfl, rfl, rfl⟩ rfl ho rfl rfl rfl hl.1 rfl rc0 rfl dX13_matter_130 ⟨Nat.zero_le _, Nat.zero_le _⟩ (fun H locs hH => ?_)
          exact hw_iret hx hb hret hf hH hlocks dX13_matter_133
        replace hf := (if_neg c54).symm.trans hf
        by_cases c56 : a_2 = 6
        · replace hf := (if_pos c56).symm.trans hf
          refine hl_tabIn (tgt := 134) hx hb dX13_matter_35 c56 (by decide) (by decide) rfl (by decide) ?_
          refine hl_aload_n hx hb dX13_matter_134 rfl (lv_at hl 0 rfl) ?_
          refine g13_1 hx hb hts hown hKs hH rfl ho m6_182 dX13_matter_135 ?_
          refine lv_bipush (v := 124) hx hb dX13_matter_138 (by decide) ?_
          refine lv_iload_n hx hb dX13_matter_140 rfl (lv_at hl 1 rfl) ?_
          refine lv_iadd hx hb dX13_matter_141 ?_
          obtain ⟨a57, ha57, hf⟩ := bnd hf
          replace ha57 := cha_some ha57
          obtain ⟨j58, hj58, hf⟩ := bnd hf
          refine hw_iald hx hb hKs hH ha57.1 ha57.2 hj58 dX13_matter_142 ?_
          exact hw_iret hx hb hret hf hH hlocks dX13_matter_143
        replace hf := (if_neg c56).symm.trans hf
        by_cases c59 : a_2 = 7
        · replace hf := (if_pos c59).symm.trans hf
          refine hl_tabIn (tgt := 144) hx hb dX13_matter_35 c59 (by decide) (by decide) rfl (by decide) ?_
          refine hl_aload_n hx hb dX13_matter_144 rfl (lv_at hl 0 rfl) ?_
          refine lv_iload_n hx hb dX13_matter_145 rfl (lv_at hl 1 rfl) ?_
          refine lv_iconst (v := 2) hx hb dX13_matter_146 (by decide) ?_
          obtain ⟨q60, hq60, hf⟩ := bnd hf
          refine hcV_i hx hb hml hown hts hKs hT hb0 hH (As := [.int a_1, .int 2]) (rest := []) (k_X13_of l E K H.size o a_1 2 q35.2 ho hq60) (gV m7_126 m7_128 ms_54 m1_16 m7_129) hd_X13_of ⟨Nat.le_of_ble_eq_true rfl, Nat.le_of_ble_eq_true rfl, rfl, rfl⟩ rfl ho rfl rfl rfl hl.1 rfl rc0 rfl dX13_matter_147 ⟨Nat.zero_le _, Nat.zero_le _⟩ (fun H locs hH => ?_)
          exact hw_iret hx hb hret hf hH hlocks dX13_matter_150
        replace hf := (if_neg c59).symm.trans hf
        by_cases c61 : a_2 = 8
        · replace hf := (if_pos c61).symm.trans hf
          refine hl_tabIn (tgt := 151) hx hb dX13_matter_35 c61 (by decide) (by decide) rfl (by decide) ?_
          refine hl_aload_n hx hb dX13_matter_151 rfl (lv_at hl 0 rfl) ?_
          refine g13_1 hx hb hts hown hKs hH rfl ho m6_182 dX13_matter_152 ?_
          refine lv_sipush (v := 136) hx hb dX13_matter_155 (by decide) ?_
          refine lv_iload_n hx hb dX13_matter_158 rfl (lv_at hl 1 rfl) ?_
          refine lv_iadd hx hb dX13_matter_159 ?_
          obtain ⟨a62, ha62, hf⟩ := bnd hf
          replace ha62 := cha_some ha62
          obtain ⟨j63, hj63, hf⟩ := bnd hf
          refine hw_iald hx hb hKs hH ha62.1 ha62.2 hj63 dX13_matter_160 ?_
          obtain ⟨q64, hq64, hf⟩ := bnd hf
          refine hcS_i hx hb hml hown hts hKs hT hb0 hH (As := [.int ((aI q35.2 a62.1 j63))]) (rest := []) (k_X13_bits l E K H.size (aI q35.2 a62.1 j63) q35.2 hq64) (gS m7_147 m7_148 m1_16 m7_149) hs_X13_bits ⟨Nat.le_of_ble_eq_true rfl, Nat.le_of_ble_eq_true rfl, rfl, rfl⟩ hl.1 rfl rc0 rfl dX13_matter_161 ⟨Nat.zero_le _, Nat.zero_le _⟩ (fun H locs hH => ?_)
          exact hw_iret hx hb hret hf hH hlocks dX13_matter_164
        replace hf := (if_neg c61).symm.trans hf
        cases hf
      · replace hf := (if_pos c36).symm.trans hf
        refine lv_iconst (v := 0) hx hb dX13_matter_32 (by decide) ?_
        exact hw_iret hx hb hret hf hH hlocks dX13_matter_33
    · replace hf := (if_neg c34).symm.trans hf
      refine lv_iconst (v := 1) hx hb dX13_matter_21 (by decide) ?_
      refine lv_goto (tgt := 26) hx hb dX13_matter_22 (by decide) ?_
      obtain ⟨q65, hq65, hf⟩ := bnd hf
      refine hcV_i hx hb hml hown hts hKs hT hb0 hH (As := [.int 1]) (rest := []) (k_X13_is l E K H.size o true q33.2 ho hq65) (gV m7_68 m7_70 ms_47 m1_16 m7_71) hd_X13_is ⟨Nat.le_of_ble_eq_true rfl, Nat.le_of_ble_eq_true rfl, rfl, rfl⟩ rfl ho rfl rfl rfl hl.1 rfl rc0 rfl dX13_matter_26 ⟨Nat.zero_le _, Nat.zero_le _⟩ (fun H locs hH => ?_)
      refine lv_if_ne (tgt := 34) hx hb dX13_matter_29 (by decide) (fun c66 => ?_) (fun c66 => ?_)
      · replace hf := (if_neg c66).symm.trans hf
        refine lv_iload_n hx hb dX13_matter_34 rfl (lv_at hl 2 rfl) ?_
        by_cases c67 : (a_2 < 0 ∨ 8 < a_2)
        · replace hf := (if_pos c67).symm.trans hf
          refine hl_tabOut (tgt := 165) hx hb dX13_matter_35 c67 (by decide) (by decide) (by decide) ?_
          refine hl_aload_n hx hb dX13_matter_165 rfl (lv_at hl 0 rfl) ?_
          refine g13_1 hx hb hts hown hKs hH rfl ho m6_182 dX13_matter_166 ?_
          refine lv_sipush (v := 148) hx hb dX13_matter_169 (by decide) ?_
          refine lv_iload_n hx hb dX13_matter_172 rfl (lv_at hl 1 rfl) ?_
          refine lv_iadd hx hb dX13_matter_173 ?_
          obtain ⟨a68, ha68, hf⟩ := bnd hf
          replace ha68 := cha_some ha68
          obtain ⟨j69, hj69, hf⟩ := bnd hf
          refine hw_iald hx hb hKs hH ha68.1 ha68.2 hj69 dX13_matter_174 ?_
          obtain ⟨q70, hq70, hf⟩ := bnd hf
          refine hcS_i hx hb hml hown hts hKs hT hb0 hH (As := [.int ((aI q65.2 a68.1 j69))]) (rest := []) (k_X13_bits l E K H.size (aI q65.2 a68.1 j69) q65.2 hq70) (gS m7_147 m7_148 m1_16 m7_149) hs_X13_bits ⟨Nat.le_of_ble_eq_true rfl, Nat.le_of_ble_eq_true rfl, rfl, rfl⟩ hl.1 rfl rc0 rfl dX13_matter_175 ⟨Nat.zero_le _, Nat.zero_le _⟩ (fun H locs hH => ?_)
          exact hw_iret hx hb hret hf hH hlocks dX13_matter_178
        replace hf := (if_neg c67).symm.trans hf
        by_cases c71 : a_2 = 0
        · replace hf := (if_pos c71).symm.trans hf
          refine hl_tabIn (tgt := 84) hx hb dX13_matter_35 c71 (by decide) (by decide) rfl (by decide) ?_
          refine hl_aload_n hx hb dX13_matter_84 rfl (lv_at hl 0 rfl) ?_
          refine g13_1 hx hb hts hown hKs hH rfl ho m6_182 dX13_matter_85 ?_
          refine lv_bipush (v := 88) hx hb dX13_matter_88 (by decide) ?_
          refine lv_iload_n hx hb dX13_matter_90 rfl (lv_at hl 1 rfl) ?_
          refine lv_iadd hx hb dX13_matter_91 ?_
          obtain ⟨a72, ha72, hf⟩ := bnd hf
          replace ha72 := cha_some ha72
          obtain ⟨j73, hj73, hf⟩ := bnd hf
          refine hw_iald hx hb hKs hH ha72.1 ha72.2 hj73 dX13_matter_92 ?_
          exact hw_iret hx hb hret hf hH hlocks dX13_matter_93
        replace hf := (if_neg c71).symm.trans hf
        by_cases c74 : a_2 = 1
        · replace hf := (if_pos c74).symm.trans hf
          refine hl_tabIn (tgt := 94) hx hb dX13_matter_35 c74 (by decide) (by decide) rfl (by decide) ?_
          refine hl_aload_n hx hb dX13_matter_94 rfl (lv_at hl 0 rfl) ?_
          refine g13_1 hx hb hts hown hKs hH rfl ho m6_182 dX13_matter_95 ?_
          refine lv_bipush (v := 100) hx hb dX13_matter_98 (by decide) ?_
          refine lv_iload_n hx hb dX13_matter_100 rfl (lv_at hl 1 rfl) ?_
          refine lv_iadd hx hb dX13_matter_101 ?_
          obtain ⟨a75, ha75, hf⟩ := bnd hf
          replace ha75 := cha_some ha75
          obtain ⟨j76, hj76, hf⟩ := bnd hf
          refine hw_iald hx hb hKs hH ha75.1 ha75.2 hj76 dX13_matter_102 ?_
          exact hw_iret hx hb hret hf hH hlocks dX13_matter_103
        replace hf := (if_neg c74).symm.trans hf
        by_cases c77 : a_2 = 2
        · replace hf := (if_pos c77).symm.trans hf
          refine hl_tabIn (tgt := 104) hx hb dX13_matter_35 c77 (by decide) (by decide) rfl (by decide) ?_
          refine hl_aload_n hx hb dX13_matter_104 rfl (lv_at hl 0 rfl) ?_
          refine g13_1 hx hb hts hown hKs hH rfl ho m6_182 dX13_matter_105 ?_
          refine lv_bipush (v := 112) hx hb dX13_matter_108 (by decide) ?_
          refine lv_iload_n hx hb dX13_matter_110 rfl (lv_at hl 1 rfl) ?_
          refine lv_iadd hx hb dX13_matter_111 ?_
          obtain ⟨a78, ha78, hf⟩ := bnd hf
          replace ha78 := cha_some ha78
          obtain ⟨j79, hj79, hf⟩ := bnd hf
          refine hw_iald hx hb hKs hH ha78.1 ha78.2 hj79 dX13_matter_112 ?_
          exact hw_iret hx hb hret hf hH hlocks dX13_matter_113
        replace hf := (if_neg c77).symm.trans hf
        by_cases c80 : a_2 = 3
        · replace hf := (if_pos c80).symm.trans hf
          refine hl_tabIn (tgt := 114) hx hb dX13_matter_35 c80 (by decide) (by decide) rfl (by decide) ?_
          refine hl_aload_n hx hb dX13_matter_114 rfl (lv_at hl 0 rfl) ?_
          refine lv_iload_n hx hb dX13_matter_115 rfl (lv_at hl 1 rfl) ?_
          refine lv_iconst (v := 1) hx hb dX13_matter_116 (by decide) ?_
          obtain ⟨q81, hq81, hf⟩ := bnd hf
          refine hcV_i hx hb hml hown hts hKs hT hb0 hH (As := [.int a_1, .int 1]) (rest := []) (k_X13_of l E K H.size o a_1 1 q65.2 ho hq81) (gV m7_126 m7_128 ms_54 m1_16 m7_129) hd_X13_of ⟨Nat.le_of_ble_eq_true rfl, Nat.le_of_ble_eq_true rfl, rfl, rfl⟩ rfl ho rfl rfl rfl hl.1 rfl rc0 rfl dX13_matter_117 ⟨Nat.zero_le _, Nat.zero_le _⟩ (fun H locs hH => ?_)
          exact hw_iret hx hb hret hf hH hlocks dX13_matter_120
        replace hf := (if_neg c80).symm.trans hf
        by_cases c82 : a_2 = 4
        · replace hf := (if_pos c82).symm.trans hf
          refine hl_tabIn (tgt := 121) hx hb dX13_matter_35 c82 (by decide) (by decide) rfl (by decide) ?_
          refine hl_aload_n hx hb dX13_matter_121 rfl (lv_at hl 0 rfl) ?_
          refine lv_iload_n hx hb dX13_matter_122 rfl (lv_at hl 1 rfl) ?_
          obtain ⟨q83, hq83, hf⟩ := bnd hf
          refine hcV_i hx hb hml hown hts hKs hT hb0 hH (As := [.int a_1]) (rest := []) (k_X13_limitDay l E K H.size o a_1 q65.2 ho hq83) (gV m7_122 m7_124 ms_53 m1_16 m7_125) hd_X13_limitDay ⟨Nat.le_of_ble_eq_true rfl, Nat.le_of_ble_eq_true rfl, rfl, rfl⟩ rfl ho rfl rfl rfl hl.1 rfl rc0 rfl dX13_matter_123 ⟨Nat.zero_le _, Nat.zero_le _⟩ (fun H locs hH => ?_)
          exact hw_iret hx hb hret hf hH hlocks dX13_matter_126
        replace hf := (if_neg c82).symm.trans hf
        by_cases c84 : a_2 = 5
        · replace hf := (if_pos c84).symm.trans hf
          refine hl_tabIn (tgt := 127) hx hb dX13_matter_35 c84 (by decide) (by decide) rfl (by decide) ?_
          refine hl_aload_n hx hb dX13_matter_127 rfl (lv_at hl 0 rfl) ?_
          refine lv_iload_n hx hb dX13_matter_128 rfl (lv_at hl 1 rfl) ?_
          refine lv_iconst (v := 0) hx hb dX13_matter_129 (by decide) ?_
          obtain ⟨q85, hq85, hf⟩ := bnd hf
          refine hcV_i hx hb hml hown hts hKs hT hb0 hH (As := [.int a_1, .int 0]) (rest := []) (k_X13_of l E K H.size o a_1 0 q65.2 ho hq85) (gV m7_126 m7_128 ms_54 m1_16 m7_129) hd_X13_of ⟨Nat.le_of_ble_eq_true rfl, Nat.le_of_ble_eq_true rfl, rfl, rfl⟩ rfl ho rfl rfl rfl hl.1 rfl rc0 rfl dX13_matter_130 ⟨Nat.zero_le _, Nat.zero_le _⟩ (fun H locs hH => ?_)
          exact hw_iret hx hb hret hf hH hlocks dX13_matter_133
        replace hf := (if_neg c84).symm.trans hf
        by_cases c86 : a_2 = 6
        · replace hf := (if_pos c86).symm.trans hf
          refine hl_tabIn (tgt := 134) hx hb dX13_matter_35 c86 (by decide) (by decide) rfl (by decide) ?_
          refine hl_aload_n hx hb dX13_matter_134 rfl (lv_at hl 0 rfl) ?_
          refine g13_1 hx hb hts hown hKs hH rfl ho m6_182 dX13_matter_135 ?_
          refine lv_bipush (v := 124) hx hb dX13_matter_138 (by decide) ?_
          refine lv_iload_n hx hb dX13_matter_140 rfl (lv_at hl 1 rfl) ?_
          refine lv_iadd hx hb dX13_matter_141 ?_
          obtain ⟨a87, ha87, hf⟩ := bnd hf
          replace ha87 := cha_some ha87
          obtain ⟨j88, hj88, hf⟩ := bnd hf
          refine hw_iald hx hb hKs hH ha87.1 ha87.2 hj88 dX13_matter_142 ?_
          exact hw_iret hx hb hret hf hH hlocks dX13_matter_143
        replace hf := (if_neg c86).symm.trans hf
        by_cases c89 : a_2 = 7
        · replace hf := (if_pos c89).symm.trans hf
          refine hl_tabIn (tgt := 144) hx hb dX13_matter_35 c89 (by decide) (by decide) rfl (by decide) ?_
          refine hl_aload_n hx hb dX13_matter_144 rfl (lv_at hl 0 rfl) ?_
          refine lv_iload_n hx hb dX13_matter_145 rfl (lv_at hl 1 rfl) ?_
          refine lv_iconst (v := 2) hx hb dX13_matter_146 (by decide) ?_
          obtain ⟨q90, hq90, hf⟩ := bnd hf
          refine hcV_i hx hb hml hown hts hKs hT hb0 hH (As := [.int a_1, .int 2]) (rest := []) (k_X13_of l E K H.size o a_1 2 q65.2 ho hq90) (gV m7_126 m7_128 ms_54 m1_16 m7_129) hd_X13_of ⟨Nat.le_of_ble_eq_true rfl, Nat.le_of_ble_eq_true rfl, rfl, rfl⟩ rfl ho rfl rfl rfl hl.1 rfl rc0 rfl dX13_matter_147 ⟨Nat.zero_le _, Nat.zero_le _⟩ (fun H locs hH => ?_)
          exact hw_iret hx hb hret hf hH hlocks dX13_matter_150
        replace hf := (if_neg c89).symm.trans hf
        by_cases c91 : a_2 = 8
        · replace hf := (if_pos c91).symm.trans hf
          refine hl_tabIn (tgt := 151) hx hb dX13_matter_35 c91 (by decide) (by decide) rfl (by decide) ?_
          refine hl_aload_n hx hb dX13_matter_151 rfl (lv_at hl 0 rfl) ?_
          refine g13_1 hx hb hts hown hKs hH rfl ho m6_182 dX13_matter_152 ?_
          refine lv_sipush (v := 136) hx hb dX13_matter_155 (by decide) ?_
          refine lv_iload_n hx hb dX13_matter_158 rfl (lv_at hl 1 rfl) ?_
          refine lv_iadd hx hb dX13_matter_159 ?_
          obtain ⟨a92, ha92, hf⟩ := bnd hf
          replace ha92 := cha_some ha92
          obtain ⟨j93, hj93, hf⟩ := bnd hf
          refine hw_iald hx hb hKs hH ha92.1 ha92.2 hj93 dX13_matter_160 ?_
          obtain ⟨q94, hq94, hf⟩ := bnd hf
          refine hcS_i hx hb hml hown hts hKs hT hb0 hH (As := [.int ((aI q65.2 a92.1 j93))]) (rest := []) (k_X13_bits l E K H.size (aI q65.2 a92.1 j93) q65.2 hq94) (gS m7_147 m7_148 m1_16 m7_149) hs_X13_bits ⟨Nat.le_of_ble_eq_true rfl, Nat.le_of_ble_eq_true rfl, rfl, rfl⟩ hl.1 rfl rc0 rfl dX13_matter_161 ⟨Nat.zero_le _, Nat.zero_le _⟩ (fun H locs hH => ?_)
          exact hw_iret hx hb hret hf hH hlocks dX13_matter_164
        replace hf := (if_neg c91).symm.trans hf
        cases hf
      · replace hf := (if_pos c66).symm.trans hf
        refine lv_iconst (v := 0) hx hb dX13_matter_32 (by decide) ?_
        exact hw_iret hx hb hret hf hH hlocks dX13_matter_33

theorem dX13_hearing_0 : decode cX13_hearing 0 = .ok (.aload_n 0, 1) := by decide +kernel
theorem dX13_hearing_1 : decode cX13_hearing 1 = .ok (.aload_n 0, 1) := by decide +kernel
theorem dX13_hearing_2 : decode cX13_hearing 2 = .ok (.iload_n 1, 1) := by decide +kernel
theorem dX13_hearing_3 : decode cX13_hearing 3 = .ok (.invokevirtual 148, 3) := by decide +kernel
theorem dX13_hearing_6 : decode cX13_hearing 6 = .ok (.ifCond .eq 19, 3) := by decide +kernel
theorem dX13_hearing_9 : decode cX13_hearing 9 = .ok (.iload_n 2, 1) := by decide +kernel
theorem dX13_hearing_10 : decode cX13_hearing 10 = .ok (.i2l, 1) := by decide +kernel
theorem dX13_hearing_11 : decode cX13_hearing 11 = .ok (.lconst 0, 1) := by decide +kernel
theorem dX13_hearing_12 : decode cX13_hearing 12 = .ok (.ldc2_w 162, 3) := by decide +kernel
theorem dX13_hearing_15 : decode cX13_hearing 15 = .ok (.invokestatic 123, 3) := by decide +kernel
theorem dX13_hearing_18 : decode cX13_hearing 18 = .ok (.ifCond .eq 7, 3) := by decide +kernel
theorem dX13_hearing_21 : decode cX13_hearing 21 = .ok (.iconst 1, 1) := by decide +kernel
theorem dX13_hearing_22 : decode cX13_hearing 22 = .ok (.goto 4, 3) := by decide +kernel
theorem dX13_hearing_25 : decode cX13_hearing 25 = .ok (.iconst 0, 1) := by decide +kernel
theorem dX13_hearing_26 : decode cX13_hearing 26 = .ok (.invokevirtual 110, 3) := by decide +kernel
theorem dX13_hearing_29 : decode cX13_hearing 29 = .ok (.ifCond .ne 5, 3) := by decide +kernel
theorem dX13_hearing_32 : decode cX13_hearing 32 = .ok (.iconst 0, 1) := by decide +kernel
theorem dX13_hearing_33 : decode cX13_hearing 33 = .ok (.ireturn, 1) := by decide +kernel
theorem dX13_hearing_34 : decode cX13_hearing 34 = .ok (.aload_n 0, 1) := by decide +kernel
theorem dX13_hearing_35 : decode cX13_hearing 35 = .ok (.iload_n 1, 1) := by decide +kernel
theorem dX13_hearing_36 : decode cX13_hearing 36 = .ok (.invokevirtual 164, 3) := by decide +kernel
theorem dX13_hearing_39 : decode cX13_hearing 39 = .ok (.ifCond .eq 14, 3) := by decide +kernel
theorem dX13_hearing_42 : decode cX13_hearing 42 = .ok (.aload_n 0, 1) := by decide +kernel
theorem dX13_hearing_43 : decode cX13_hearing 43 = .ok (.iload_n 1, 1) := by decide +kernel
theorem dX13_hearing_44 : decode cX13_hearing 44 = .ok (.iconst 3, 1) := by decide +kernel
theorem dX13_hearing_45 : decode cX13_hearing 45 = .ok (.iload_n 2, 1) := by decide +kernel
theorem dX13_hearing_46 : decode cX13_hearing 46 = .ok (.iadd, 1) := by decide +kernel
theorem dX13_hearing_47 : decode cX13_hearing 47 = .ok (.invokevirtual 141, 3) := by decide +kernel
theorem dX13_hearing_50 : decode cX13_hearing 50 = .ok (.goto 4, 3) := by decide +kernel
theorem dX13_hearing_53 : decode cX13_hearing 53 = .ok (.iconst (-1), 1) := by decide +kernel
theorem dX13_hearing_54 : decode cX13_hearing 54 = .ok (.ireturn, 1) := by decide +kernel
theorem hd_X13_hearing : yX13_hearing.cls = RX13 ∧ yX13_hearing.cls ≠ "java/lang/invoke/MethodHandle" ∧ yX13_hearing.cls ≠ "java/lang/invoke/VarHandle" ∧ (parseMethodDescriptor yX13_hearing.desc).map (fun d => d.parameters.length) = some 2 := by decide +kernel
theorem hs_X13_hearing : yX13_hearing.cls ≠ "java/lang/invoke/MethodHandle" ∧ yX13_hearing.cls ≠ "java/lang/invoke/VarHandle" ∧ (parseMethodDescriptor yX13_hearing.desc).map (fun d => d.parameters.length) = some 2 := by decide +kernel
set_option maxHeartbeats 4000000 in
set_option maxRecDepth 100000 in
theorem k_X13_hearing (l : Launch) (E : Ev) (K : Kd) (z : Nat) (o : Nat) (a_1 : Int32) (a_2 : Int32) (w : Wd) (ho : K o = some (11, 0)) {r : Int32} {w' : Wd} (hf : f_X13_hearing K o a_1 a_2 w = some (r, w')) : Met l yX13_hearing (Cond.code yX13_hearing cX13_hearing 3 (Option.some Jvm.ClassFile.FieldType.int) :: bt) ({ frames := 3, cells := 0, slots := 0, locals := 65 } : Room) (va_Pc [rv E (some o), .int a_1, .int a_2] (HB E K w z)) (QI E K z w' r) 0 0 (hA E) := by
  refine Met.ofW (cc := cX13_hearing) (maxL := 3) (ret := (Option.some Jvm.ClassFile.FieldType.int)) (by decide) rfl ?_
  intro p e s m args below meth c s₁ B hml hv
  obtain ⟨rfl, hz, hP, hKs, hT, hb0⟩ := hv
  have C : CX p l e s m _ meth c cX13_hearing 3 RX13 (Option.some Jvm.ClassFile.FieldType.int) E := ⟨B.exec, B.bytes, hml, findClass_of_methodNamed B.named, fun w h => atoms_spec (ws := Cond.code yX13_hearing cX13_hearing 3 (Option.some Jvm.ClassFile.FieldType.int) :: bt) B.pre w (List.mem_cons_of_mem _ h), hKs, hT, by rw [hz]; exact hb0, B.notSynchronized, B.returns⟩
  have hH : HQ E K z w s s.heap [] := ⟨hP, va_S.rf, hz⟩
  obtain ⟨hx, hb, hml, hown, hts, hKs, hT, hb0, hlocks, hret⟩ := id C
  have hl := lv_entry [rv E (some o), .int a_1, .int a_2] (n := 3) (by simp [lg_len_nil, lg_len_i, lg_len_j, lg_len_q, lg_len_f, lg_len_d, lg_len_r])
  rw [lg_entry_eq]
  generalize (lg_sl [rv E (some o), .int a_1, .int a_2] ++ List.replicate (3 - (lg_sl [rv E (some o), .int a_1, .int a_2]).length) Slot.unset).toArray = ls at hl ⊢
  replace hl : lv_has ls 3 [(0, rv E (some o)), (1, .int a_1), (2, .int a_2)] := by simpa only [lv_args, cat_q, cat_i, cat_j, reduceIte, Nat.reduceEqDiff, Nat.reduceAdd, Nat.zero_add] using hl
  generalize s.heap = H at hH ⊢
  unfold f_X13_hearing at hf
  refine hl_aload_n hx hb dX13_hearing_0 rfl (lv_at hl 0 rfl) ?_
  refine hl_aload_n hx hb dX13_hearing_1 rfl (lv_at hl 0 rfl) ?_
  refine lv_iload_n hx hb dX13_hearing_2 rfl (lv_at hl 1 rfl) ?_
  obtain ⟨q1, hq1, hf⟩ := bnd hf
  refine hcV_i hx hb hml hown hts hKs hT hb0 hH (As := [.int a_1]) (rest := [rv E (some o)]) (k_X13_isCase l E K H.size o a_1 w ho hq1) (gV m7_114 m7_116 ms_51 m1_16 m7_117) hd_X13_isCase ⟨Nat.le_of_ble_eq_true rfl, Nat.le_of_ble_eq_true rfl, rfl, rfl⟩ rfl ho rfl rfl rfl hl.1 rfl (rcV rc0) rfl dX13_hearing_3 ⟨Nat.zero_le _, Nat.zero_le _⟩ (fun H locs hH => ?_)
  refine lv_if_eq (tgt := 25) hx hb dX13_hearing_6 (by decide) (fun c2 => ?_) (fun c2 => ?_)
  · replace hf := (if_pos c2).symm.trans hf
    refine lv_iconst (v := 0) hx hb dX13_hearing_25 (by decide) ?_
    obtain ⟨q3, hq3, hf⟩ := bnd hf
    refine hcV_i hx hb hml hown hts hKs hT hb0 hH (As := [.int 0]) (rest := []) (k_X13_is l E K H.size o false q1.2 ho hq3) (gV m7_68 m7_70 ms_47 m1_16 m7_71) hd_X13_is ⟨Nat.le_of_ble_eq_true rfl, Nat.le_of_ble_eq_true rfl, rfl, rfl⟩ rfl ho rfl rfl rfl hl.1 rfl rc0 rfl dX13_hearing_26 ⟨Nat.zero_le _, Nat.zero_le _⟩ (fun H locs hH => ?_)
    refine lv_if_ne (tgt := 34) hx hb dX13_hearing_29 (by decide) (fun c4 => ?_) (fun c4 => ?_)
    · replace hf := (if_neg c4).symm.trans hf
      refine hl_aload_n hx hb dX13_hearing_34 rfl (lv_at hl 0 rfl) ?_
      refine lv_iload_n hx hb dX13_hearing_35 rfl (lv_at hl 1 rfl) ?_
      obtain ⟨q5, hq5, hf⟩ := bnd hf
      refine hcV_i hx hb hml hown hts hKs hT hb0 hH (As := [.int a_1]) (rest := []) (k_X13_hasHearing l E K H.size o a_1 q3.2 ho hq5) (gV m7_155 m7_157 ms_57 m1_16 m7_158) hd_X13_hasHearing ⟨Nat.le_of_ble_eq_true rfl, Nat.le_of_ble_eq_true rfl, rfl, rfl⟩ rfl ho rfl rfl rfl hl.1 rfl rc0 rfl dX13_hearing_36 ⟨Nat.zero_le _, Nat.zero_le _⟩ (fun H locs hH => ?_)
      refine lv_if_eq (tgt := 53) hx hb dX13_hearing_39 (by decide) (fun c6 => ?_) (fun c6 => ?_)
      · replace hf := (if_pos c6).symm.trans hf
        refine lv_iconst (v := (-1)) hx hb dX13_hearing_53 (by decide) ?_
        exact hw_iret hx hb hret hf hH hlocks dX13_hearing_54
      · replace hf := (if_neg c6).symm.trans hf
        refine hl_aload_n hx hb dX13_hearing_42 rfl (lv_at hl 0 rfl) ?_
        refine lv_iload_n hx hb dX13_hearing_43 rfl (lv_at hl 1 rfl) ?_
        refine lv_iconst (v := 3) hx hb dX13_hearing_44 (by decide) ?_
        refine lv_iload_n hx hb dX13_hearing_45 rfl (lv_at hl 2 rfl) ?_
        refine lv_iadd hx hb dX13_hearing_46 ?_
        obtain ⟨q7, hq7, hf⟩ := bnd hf
        refine hcV_i hx hb hml hown hts hKs hT hb0 hH (As := [.int a_1, .int ((3 + a_2))]) (rest := []) (k_X13_of l E K H.size o a_1 (3 + a_2) q5.2 ho hq7) (gV m7_126 m7_128 ms_54 m1_16 m7_129) hd_X13_of ⟨Nat.le_of_ble_eq_true rfl, Nat.le_of_ble_eq_true rfl, rfl, rfl⟩ rfl ho rfl rfl rfl hl.1 rfl rc0 rfl dX13_hearing_47 ⟨Nat.zero_le _, Nat.zero_le _⟩ (fun H locs hH => ?_)
        refine lv_goto (tgt := 54) hx hb dX13_hearing_50 (by decide) ?_
        exact hw_iret hx hb hret hf hH hlocks dX13_hearing_54
    · replace hf := (if_pos c4).symm.trans hf
      refine lv_iconst (v := 0) hx hb dX13_hearing_32 (by decide) ?_
      exact hw_iret hx hb hret hf hH hlocks dX13_hearing_33
  · replace hf := (if_neg c2).symm.trans hf
    refine lv_iload_n hx hb dX13_hearing_9 rfl (lv_at hl 2 rfl) ?_
    refine lv_i2l (v := (a_2.toInt64)) hx hb dX13_hearing_10 rfl ?_
    refine lv_lconst (v := 0) hx hb dX13_hearing_11 rfl ?_
    refine lv_ldc2 (v := 3) hx hb hown (hts _ m7_154) dX13_hearing_12 ?_
    obtain ⟨q8, hq8, hf⟩ := bnd hf
    refine hcS_i hx hb hml hown hts hKs hT hb0 hH (As := [.long (a_2.toInt64), .long 0, .long 3]) (rest := [rv E (some o)]) (k_X13_isIn l E K H.size (a_2.toInt64) 0 3 q1.2 hq8) (gS m7_88 m7_89 m1_16 m7_90) hs_X13_isIn ⟨Nat.le_of_ble_eq_true rfl, Nat.le_of_ble_eq_true rfl, rfl, rfl⟩ hl.1 rfl (rcV rc0) rfl dX13_hearing_15 ⟨Nat.zero_le _, Nat.zero_le _⟩ (fun H locs hH => ?_)
    refine lv_if_eq (tgt := 25) hx hb dX13_hearing_18 (by decide) (fun c9 => ?_) (fun c9 => ?_)
    · replace hf := (if_pos c9).symm.trans hf
      refine lv_iconst (v := 0) hx hb dX13_hearing_25 (by decide) ?_
      obtain ⟨q10, hq10, hf⟩ := bnd hf
      refine hcV_i hx hb hml hown hts hKs hT hb0 hH (As := [.int 0]) (rest := []) (k_X13_is l E K H.size o false q8.2 ho hq10) (gV m7_68 m7_70 ms_47 m1_16 m7_71) hd_X13_is ⟨Nat.le_of_ble_eq_true rfl, Nat.le_of_ble_eq_true rfl, rfl, rfl⟩ rfl ho rfl rfl rfl hl.1 rfl rc0 rfl dX13_hearing_26 ⟨Nat.zero_le _, Nat.zero_le _⟩ (fun H locs hH => ?_)
      refine lv_if_ne (tgt := 34) hx hb dX13_hearing_29 (by decide) (fun c11 => ?_) (fun c11 => ?_)
      · replace hf := (if_neg c11).symm.trans hf
        refine hl_aload_n hx hb dX13_hearing_34 rfl (lv_at hl 0 rfl) ?_
        refine lv_iload_n hx hb dX13_hearing_35 rfl (lv_at hl 1 rfl) ?_
        obtain ⟨q12, hq12, hf⟩ := bnd hf
        refine hcV_i hx hb hml hown hts hKs hT hb0 hH (As := [.int a_1]) (rest := []) (k_X13_hasHearing l E K H.size o a_1 q10.2 ho hq12) (gV m7_155 m7_157 ms_57 m1_16 m7_158) hd_X13_hasHearing ⟨Nat.le_of_ble_eq_true rfl, Nat.le_of_ble_eq_true rfl, rfl, rfl⟩ rfl ho rfl rfl rfl hl.1 rfl rc0 rfl dX13_hearing_36 ⟨Nat.zero_le _, Nat.zero_le _⟩ (fun H locs hH => ?_)
        refine lv_if_eq (tgt := 53) hx hb dX13_hearing_39 (by decide) (fun c13 => ?_) (fun c13 => ?_)
        · replace hf := (if_pos c13).symm.trans hf
          refine lv_iconst (v := (-1)) hx hb dX13_hearing_53 (by decide) ?_
          exact hw_iret hx hb hret hf hH hlocks dX13_hearing_54
        · replace hf := (if_neg c13).symm.trans hf
          refine hl_aload_n hx hb dX13_hearing_42 rfl (lv_at hl 0 rfl) ?_
          refine lv_iload_n hx hb dX13_hearing_43 rfl (lv_at hl 1 rfl) ?_
          refine lv_iconst (v := 3) hx hb dX13_hearing_44 (by decide) ?_
          refine lv_iload_n hx hb dX13_hearing_45 rfl (lv_at hl 2 rfl) ?_
          refine lv_iadd hx hb dX13_hearing_46 ?_
          obtain ⟨q14, hq14, hf⟩ := bnd hf
          refine hcV_i hx hb hml hown hts hKs hT hb0 hH (As := [.int a_1, .int ((3 + a_2))]) (rest := []) (k_X13_of l E K H.size o a_1 (3 + a_2) q12.2 ho hq14) (gV m7_126 m7_128 ms_54 m1_16 m7_129) hd_X13_of ⟨Nat.le_of_ble_eq_true rfl, Nat.le_of_ble_eq_true rfl, rfl, rfl⟩ rfl ho rfl rfl rfl hl.1 rfl rc0 rfl dX13_hearing_47 ⟨Nat.zero_le _, Nat.zero_le _⟩ (fun H locs hH => ?_)
          refine lv_goto (tgt := 54) hx hb dX13_hearing_50 (by decide) ?_
          exact hw_iret hx hb hret hf hH hlocks dX13_hearing_54
      · replace hf := (if_pos c11).symm.trans hf
        refine lv_iconst (v := 0) hx hb dX13_hearing_32 (by decide) ?_
        exact hw_iret hx hb hret hf hH hlocks dX13_hearing_33
    · replace hf := (if_neg c9).symm.trans hf
      refine lv_iconst (v := 1) hx hb dX13_hearing_21 (by decide) ?_
      refine lv_goto (tgt := 26) hx hb dX13_hearing_22 (by decide) ?_
      obtain ⟨q15, hq15, hf⟩ := bnd hf
      refine hcV_i hx hb hml hown hts hKs hT hb0 hH (As := [.int 1]) (rest := []) (k_X13_is l E K H.size o true q8.2 ho hq15) (gV m7_68 m7_70 ms_47 m1_16 m7_71) hd_X13_is ⟨Nat.le_of_ble_eq_true rfl, Nat.le_of_ble_eq_true rfl, rfl, rfl⟩ rfl ho rfl rfl rfl hl.1 rfl rc0 rfl dX13_hearing_26 ⟨Nat.zero_le _, Nat.zero_le _⟩ (fun H locs hH => ?_)
      refine lv_if_ne (tgt := 34) hx hb dX13_hearing_29 (by decide) (fun c16 => ?_) (fun c16 => ?_)
      · replace hf := (if_neg c16).symm.trans hf
        refine hl_aload_n hx hb dX13_hearing_34 rfl (lv_at hl 0 rfl) ?_
        refine lv_iload_n hx hb dX13_hearing_35 rfl (lv_at hl 1 rfl) ?_
        obtain ⟨q17, hq17, hf⟩ := bnd hf
        refine hcV_i hx hb hml hown hts hKs hT hb0 hH (As := [.int a_1]) (rest := []) (k_X13_hasHearing l E K H.size o a_1 q15.2 ho hq17) (gV m7_155 m7_157 ms_57 m1_16 m7_158) hd_X13_hasHearing ⟨Nat.le_of_ble_eq_true rfl, Nat.le_of_ble_eq_true rfl, rfl, rfl⟩ rfl ho rfl rfl rfl hl.1 rfl rc0 rfl dX13_hearing_36 ⟨Nat.zero_le _, Nat.zero_le _⟩ (fun H locs hH => ?_)
        refine lv_if_eq (tgt := 53) hx hb dX13_hearing_39 (by decide) (fun c18 => ?_) (fun c18 => ?_)
        · replace hf := (if_pos c18).symm.trans hf
          refine lv_iconst (v := (-1)) hx hb dX13_hearing_53 (by decide) ?_
          exact hw_iret hx hb hret hf hH hlocks dX13_hearing_54
        · replace hf := (if_neg c18).symm.trans hf
          refine hl_aload_n hx hb dX13_hearing_42 rfl (lv_at hl 0 rfl) ?_
          refine lv_iload_n hx hb dX13_hearing_43 rfl (lv_at hl 1 rfl) ?_
          refine lv_iconst (v := 3) hx hb dX13_hearing_44 (by decide) ?_
          refine lv_iload_n hx hb dX13_hearing_45 rfl (lv_at hl 2 rfl) ?_
          refine lv_iadd hx hb dX13_hearing_46 ?_
          obtain ⟨q19, hq19, hf⟩ := bnd hf
          refine hcV_i hx hb hml hown hts hKs hT hb0 hH (As := [.int a_1, .int ((3 + a_2))]) (rest := []) (k_X13_of l E K H.size o a_1 (3 + a_2) q17.2 ho hq19) (gV m7_126 m7_128 ms_54 m1_16 m7_129) hd_X13_of ⟨Nat.le_of_ble_eq_true rfl, Nat.le_of_ble_eq_true rfl, rfl, rfl⟩ rfl ho rfl rfl rfl hl.1 rfl rc0 rfl dX13_hearing_47 ⟨Nat.zero_le _, Nat.zero_le _⟩ (fun H locs hH => ?_)
          refine lv_goto (tgt := 54) hx hb dX13_hearing_50 (by decide) ?_
          exact hw_iret hx hb hret hf hH hlocks dX13_hearing_54
      · replace hf := (if_pos c16).symm.trans hf
        refine lv_iconst (v := 0) hx hb dX13_hearing_32 (by decide) ?_
        exact hw_iret hx hb hret hf hH hlocks dX13_hearing_33

theorem dX13_adjournment_0 : decode cX13_adjournment 0 = .ok (.aload_n 0, 1) := by decide +kernel
theorem dX13_adjournment_1 : decode cX13_adjournment 1 = .ok (.aload_n 0, 1) := by decide +kernel
theorem dX13_adjournment_2 : decode cX13_adjournment 2 = .ok (.iload_n 1, 1) := by decide +kernel
theorem dX13_adjournment_3 : decode cX13_adjournment 3 = .ok (.invokevirtual 148, 3) := by decide +kernel
theorem dX13_adjournment_6 : decode cX13_adjournment 6 = .ok (.ifCond .eq 19, 3) := by decide +kernel
theorem dX13_adjournment_9 : decode cX13_adjournment 9 = .ok (.iload_n 3, 1) := by decide +kernel
theorem dX13_adjournment_10 : decode cX13_adjournment 10 = .ok (.i2l, 1) := by decide +kernel
theorem dX13_adjournment_11 : decode cX13_adjournment 11 = .ok (.lconst 0, 1) := by decide +kernel
theorem dX13_adjournment_12 : decode cX13_adjournment 12 = .ok (.ldc2_w 162, 3) := by decide +kernel
theorem dX13_adjournment_15 : decode cX13_adjournment 15 = .ok (.invokestatic 123, 3) := by decide +kernel
theorem dX13_adjournment_18 : decode cX13_adjournment 18 = .ok (.ifCond .eq 7, 3) := by decide +kernel
theorem dX13_adjournment_21 : decode cX13_adjournment 21 = .ok (.iconst 1, 1) := by decide +kernel
theorem dX13_adjournment_22 : decode cX13_adjournment 22 = .ok (.goto 4, 3) := by decide +kernel
theorem dX13_adjournment_25 : decode cX13_adjournment 25 = .ok (.iconst 0, 1) := by decide +kernel
theorem dX13_adjournment_26 : decode cX13_adjournment 26 = .ok (.invokevirtual 110, 3) := by decide +kernel
theorem dX13_adjournment_29 : decode cX13_adjournment 29 = .ok (.ifCond .eq 25, 3) := by decide +kernel
theorem dX13_adjournment_32 : decode cX13_adjournment 32 = .ok (.aload_n 0, 1) := by decide +kernel
theorem dX13_adjournment_33 : decode cX13_adjournment 33 = .ok (.iload_n 2, 1) := by decide +kernel
theorem dX13_adjournment_34 : decode cX13_adjournment 34 = .ok (.i2l, 1) := by decide +kernel
theorem dX13_adjournment_35 : decode cX13_adjournment 35 = .ok (.lconst 0, 1) := by decide +kernel
theorem dX13_adjournment_36 : decode cX13_adjournment 36 = .ok (.aload_n 0, 1) := by decide +kernel
theorem dX13_adjournment_37 : decode cX13_adjournment 37 = .ok (.iload_n 1, 1) := by decide +kernel
theorem dX13_adjournment_38 : decode cX13_adjournment 38 = .ok (.iconst 2, 1) := by decide +kernel
theorem dX13_adjournment_39 : decode cX13_adjournment 39 = .ok (.invokevirtual 141, 3) := by decide +kernel
theorem dX13_adjournment_42 : decode cX13_adjournment 42 = .ok (.iconst 1, 1) := by decide +kernel
theorem dX13_adjournment_43 : decode cX13_adjournment 43 = .ok (.isub, 1) := by decide +kernel
theorem dX13_adjournment_44 : decode cX13_adjournment 44 = .ok (.i2l, 1) := by decide +kernel
theorem dX13_adjournment_45 : decode cX13_adjournment 45 = .ok (.invokestatic 123, 3) := by decide +kernel
theorem dX13_adjournment_48 : decode cX13_adjournment 48 = .ok (.invokevirtual 110, 3) := by decide +kernel
theorem dX13_adjournment_51 : decode cX13_adjournment 51 = .ok (.ifCond .ne 5, 3) := by decide +kernel
theorem dX13_adjournment_54 : decode cX13_adjournment 54 = .ok (.iconst 0, 1) := by decide +kernel
theorem dX13_adjournment_55 : decode cX13_adjournment 55 = .ok (.ireturn, 1) := by decide +kernel
theorem dX13_adjournment_56 : decode cX13_adjournment 56 = .ok (.aload_n 0, 1) := by decide +kernel
theorem dX13_adjournment_57 : decode cX13_adjournment 57 = .ok (.iload_n 1, 1) := by decide +kernel
theorem dX13_adjournment_58 : decode cX13_adjournment 58 = .ok (.bipush 7, 2) := by decide +kernel
theorem dX13_adjournment_60 : decode cX13_adjournment 60 = .ok (.iconst 4, 1) := by decide +kernel
theorem dX13_adjournment_61 : decode cX13_adjournment 61 = .ok (.iload_n 2, 1) := by decide +kernel
theorem dX13_adjournment_62 : decode cX13_adjournment 62 = .ok (.imul, 1) := by decide +kernel
theorem dX13_adjournment_63 : decode cX13_adjournment 63 = .ok (.iadd, 1) := by decide +kernel
theorem dX13_adjournment_64 : decode cX13_adjournment 64 = .ok (.iload_n 3, 1) := by decide +kernel
theorem dX13_adjournment_65 : decode cX13_adjournment 65 = .ok (.iadd, 1) := by decide +kernel
theorem dX13_adjournment_66 : decode cX13_adjournment 66 = .ok (.invokevirtual 141, 3) := by decide +kernel
theorem dX13_adjournment_69 : decode cX13_adjournment 69 = .ok (.ireturn, 1) := by decide +kernel
theorem hd_X13_adjournment : yX13_adjournment.cls = RX13 ∧ yX13_adjournment.cls ≠ "java/lang/invoke/MethodHandle" ∧ yX13_adjournment.cls ≠ "java/lang/invoke/VarHandle" ∧ (parseMethodDescriptor yX13_adjournment.desc).map (fun d => d.parameters.length) = some 3 := by decide +kernel
theorem hs_X13_adjournment : yX13_adjournment.cls ≠ "java/lang/invoke/MethodHandle" ∧ yX13_adjournment.cls ≠ "java/lang/invoke/VarHandle" ∧ (parseMethodDescriptor yX13_adjournment.desc).map (fun d => d.parameters.length) = some 3 := by decide +kernel
set_option maxHeartbeats 4000000 in
set_option maxRecDepth 100000 in
theorem k_X13_adjournment (l : Launch) (E : Ev) (K : Kd) (z : Nat) (o : Nat) (a_1 : Int32) (a_2 : Int32) (a_3 : Int32) (w : Wd) (ho : K o = some (11, 0)) {r : Int32} {w' : Wd} (hf : f_X13_adjournment K o a_1 a_2 a_3 w = some (r, w')) : Met l yX13_adjournment (Cond.code yX13_adjournment cX13_adjournment 4 (Option.some Jvm.ClassFile.FieldType.int) :: bt) ({ frames := 2, cells := 0, slots := 0, locals := 46 } : Room) (va_Pc [rv E (some o), .int a_1, .int a_2, .int a_3] (HB E K w z)) (QI E K z w' r) 0 0 (hA E) := by
  refine Met.ofW (cc := cX13_adjournment) (maxL := 4) (ret := (Option.some Jvm.ClassFile.FieldType.int)) (by decide) rfl ?_
  intro p e s m args below meth c s₁ B hml hv
  obtain ⟨rfl, hz, hP, hKs, hT, hb0⟩ := hv
  have C : CX p l e s m _ meth c cX13_adjournment 4 RX13 (Option.some Jvm.ClassFile.FieldType.int) E := ⟨B.exec, B.bytes, hml, findClass_of_methodNamed B.named, fun w h => atoms_spec (ws := Cond.code yX13_adjournment cX13_adjournment 4 (Option.some Jvm.ClassFile.FieldType.int) :: bt) B.pre w (List.mem_cons_of_mem _ h), hKs, hT, by rw [hz]; exact hb0, B.notSynchronized, B.returns⟩
  have hH : HQ E K z w s s.heap [] := ⟨hP, va_S.rf, hz⟩
  obtain ⟨hx, hb, hml, hown, hts, hKs, hT, hb0, hlocks, hret⟩ := id C
  have hl := lv_entry [rv E (some o), .int a_1, .int a_2, .int a_3] (n := 4) (by simp [lg_len_nil, lg_len_i, lg_len_j, lg_len_q, lg_len_f, lg_len_d, lg_len_r])
  rw [lg_entry_eq]
  generalize (lg_sl [rv E (some o), .int a_1, .int a_2, .int a_3] ++ List.replicate (4 - (lg_sl [rv E (some o), .int a_1, .int a_2, .int a_3]).length) Slot.unset).toArray = ls at hl ⊢
  replace hl : lv_has ls 4 [(0, rv E (some o)), (1, .int a_1), (2, .int a_2), (3, .int a_3)] := by simpa only [lv_args, cat_q, cat_i, cat_j, reduceIte, Nat.reduceEqDiff, Nat.reduceAdd, Nat.zero_add] using hl
  generalize s.heap = H at hH ⊢
  unfold f_X13_adjournment at hf
  refine hl_aload_n hx hb dX13_adjournment_0 rfl (lv_at hl 0 rfl) ?_
  refine hl_aload_n hx hb dX13_adjournment_1 rfl (lv_at hl 0 rfl) ?_
  refine lv_iload_n hx hb dX13_adjournment_2 rfl (lv_at hl 1 rfl) ?_
  obtain ⟨q1, hq1, hf⟩ := bnd hf
  refine hcV_i hx hb hml hown hts hKs hT hb0 hH (As := [.int a_1]) (rest := [rv E (some o)]) (k_X13_isCase l E K H.size o a_1 w ho hq1) (gV m7_114 m7_116 ms_51 m1_16 m7_117) hd_X13_isCase ⟨Nat.le_of_ble_eq_true rfl, Nat.le_of_ble_eq_true rfl, rfl, rfl⟩ rfl ho rfl rfl rfl hl.1 rfl (rcV rc0) rfl dX13_adjournment_3 ⟨Nat.zero_le _, Nat.zero_le _⟩ (fun H locs hH => ?_)
  refine lv_if_eq (tgt := 25) hx hb dX13_adjournment_6 (by decide) (fun c2 => ?_) (fun c2 => ?_)
  · replace hf := (if_pos c2).symm.trans hf
    refine lv_iconst (v := 0) hx hb dX13_adjournment_25 (by decide) ?_
    obtain ⟨q3, hq3, hf⟩ := bnd hf
    refine hcV_i hx hb hml hown hts hKs hT hb0 hH (As := [.int 0]) (rest := []) (k_X13_is l E K H.size o false q1.2 ho hq3) (gV m7_68 m7_70 ms_47 m1_16 m7_71) hd_X13_is ⟨Nat.le_of_ble_eq_true rfl, Nat.le_of_ble_eq_true rfl, rfl, rfl⟩ rfl ho rfl rfl rfl hl.1 rfl rc0 rfl dX13_adjournment_26 ⟨Nat.zero_le _, Nat.zero_le _⟩ (fun H locs hH => ?_)
    refine lv_if_eq (tgt := 54) hx hb dX13_adjournment_29 (by decide) (fun c4 => ?_) (fun c4 => ?_)
    · replace hf := (if_pos c4).symm.trans hf
      refine lv_iconst (v := 0) hx hb dX13_adjournment_54 (by decide) ?_
      exact hw_iret hx hb hret hf hH hlocks dX13_adjournment_55
    · replace hf := (if_neg c4).symm.trans hf
      refine hl_aload_n hx hb dX13_adjournment_32 rfl (lv_at hl 0 rfl) ?_
      refine lv_iload_n hx hb dX13_adjournment_33 rfl (lv_at hl 2 rfl) ?_
      refine lv_i2l (v := (a_2.toInt64)) hx hb dX13_adjournment_34 rfl ?_
      refine lv_lconst (v := 0) hx hb dX13_adjournment_35 rfl ?_
      refine hl_aload_n hx hb dX13_adjournment_36 rfl (lv_at hl 0 rfl) ?_
      refine lv_iload_n hx hb dX13_adjournment_37 rfl (lv_at hl 1 rfl) ?_
      refine lv_iconst (v := 2) hx hb dX13_adjournment_38 (by decide) ?_
      obtain ⟨q5, hq5, hf⟩ := bnd hf
      refine hcV_i hx hb hml hown hts hKs hT hb0 hH (As := [.int a_1, .int 2]) (rest := [.long 0, .long (a_2.toInt64), rv E (some o)]) (k_X13_of l E K H.size o a_1 2 q3.2 ho hq5) (gV m7_126 m7_128 ms_54 m1_16 m7_129) hd_X13_of ⟨Nat.le_of_ble_eq_true rfl, Nat.le_of_ble_eq_true rfl, rfl, rfl⟩ rfl ho rfl rfl rfl hl.1 rfl (rcJ (rcJ (rcV rc0))) rfl dX13_adjournment_39 ⟨Nat.zero_le _, Nat.zero_le _⟩ (fun H locs hH => ?_)
      refine lv_iconst (v := 1) hx hb dX13_adjournment_42 (by decide) ?_
      refine lv_isub hx hb dX13_adjournment_43 ?_
      refine lv_i2l (v := ((q5.1 - 1).toInt64)) hx hb dX13_adjournment_44 rfl ?_
      obtain ⟨q6, hq6, hf⟩ := bnd hf
      refine hcS_i hx hb hml hown hts hKs hT hb0 hH (As := [.long (a_2.toInt64), .long 0, .long ((q5.1 - 1).toInt64)]) (rest := [rv E (some o)]) (k_X13_isIn l E K H.size (a_2.toInt64) 0 ((q5.1 - 1).toInt64) q5.2 hq6) (gS m7_88 m7_89 m1_16 m7_90) hs_X13_isIn ⟨Nat.le_of_ble_eq_true rfl, Nat.le_of_ble_eq_true rfl, rfl, rfl⟩ hl.1 rfl (rcV rc0) rfl dX13_adjournment_45 ⟨Nat.zero_le _, Nat.zero_le _⟩ (fun H locs hH => ?_)
      obtain ⟨q7, hq7, hf⟩ := bnd hf
      refine hcV_i hx hb hml hown hts hKs hT hb0 hH (As := [.int (b2i q6.1)]) (rest := []) (k_X13_is l E K H.size o q6.1 q6.2 ho hq7) (gV m7_68 m7_70 ms_47 m1_16 m7_71) hd_X13_is ⟨Nat.le_of_ble_eq_true rfl, Nat.le_of_ble_eq_true rfl, rfl, rfl⟩ rfl ho rfl rfl rfl hl.1 rfl rc0 rfl dX13_adjournment_48 ⟨Nat.zero_le _, Nat.zero_le _⟩ (fun H locs hH => ?_)
      refine lv_if_ne (tgt := 56) hx hb dX13_adjournment_51 (by decide) (fun c8 => ?_) (fun c8 => ?_)
      · replace hf := (if_neg c8).symm.trans hf
        refine hl_aload_n hx hb dX13_adjournment_56 rfl (lv_at hl 0 rfl) ?_
        refine lv_iload_n hx hb dX13_adjournment_57 rfl (lv_at hl 1 rfl) ?_
        refine lv_bipush (v := 7) hx hb dX13_adjournment_58 (by decide) ?_
        refine lv_iconst (v := 4) hx hb dX13_adjournment_60 (by decide) ?_
        refine lv_iload_n hx hb dX13_adjournment_61 rfl (lv_at hl 2 rfl) ?_
        refine lv_imul hx hb dX13_adjournment_62 ?_
        refine lv_iadd hx hb dX13_adjournment_63 ?_
        refine lv_iload_n hx hb dX13_adjournment_64 rfl (lv_at hl 3 rfl) ?_
        refine lv_iadd hx hb dX13_adjournment_65 ?_
        obtain ⟨q9, hq9, hf⟩ := bnd hf
        refine hcV_i hx hb hml hown hts hKs hT hb0 hH (As := [.int a_1, .int (((7 + (4 * a_2)) + a_3))]) (rest := []) (k_X13_of l E K H.size o a_1 ((7 + (4 * a_2)) + a_3) q7.2 ho hq9) (gV m7_126 m7_128 ms_54 m1_16 m7_129) hd_X13_of ⟨Nat.le_of_ble_eq_true rfl, Nat.le_of_ble_eq_true rfl, rfl, rfl⟩ rfl ho rfl rfl rfl hl.1 rfl rc0 rfl dX13_adjournment_66 ⟨Nat.zero_le _, Nat.zero_le _⟩ (fun H locs hH => ?_)
        exact hw_iret hx hb hret hf hH hlocks dX13_adjournment_69
      · replace hf := (if_pos c8).symm.trans hf
        refine lv_iconst (v := 0) hx hb dX13_adjournment_54 (by decide) ?_
        exact hw_iret hx hb hret hf hH hlocks dX13_adjournment_55
  · replace hf := (if_neg c2).symm.trans hf
    refine lv_iload_n hx hb dX13_adjournment_9 rfl (lv_at hl 3 rfl) ?_
    refine lv_i2l (v := (a_3.toInt64)) hx hb dX13_adjournment_10 rfl ?_
    refine lv_lconst (v := 0) hx hb dX13_adjournment_11 rfl ?_
    refine lv_ldc2 (v := 3) hx hb hown (hts _ m7_154) dX13_adjournment_12 ?_
    obtain ⟨q10, hq10, hf⟩ := bnd hf
    refine hcS_i hx hb hml hown hts hKs hT hb0 hH (As := [.long (a_3.toInt64), .long 0, .long 3]) (rest := [rv E (some o)]) (k_X13_isIn l E K H.size (a_3.toInt64) 0 3 q1.2 hq10) (gS m7_88 m7_89 m1_16 m7_90) hs_X13_isIn ⟨Nat.le_of_ble_eq_true rfl, Nat.le_of_ble_eq_true rfl, rfl, rfl⟩ hl.1 rfl (rcV rc0) rfl dX13_adjournment_15 ⟨Nat.zero_le _, Nat.zero_le _⟩ (fun H locs hH => ?_)
    refine lv_if_eq (tgt := 25) hx hb dX13_adjournment_18 (by decide) (fun c11 => ?_) (fun c11 => ?_)
    · replace hf := (if_pos c11).symm.trans hf
      refine lv_iconst (v := 0) hx hb dX13_adjournment_25 (by decide) ?_
      obtain ⟨q12, hq12, hf⟩ := bnd hf
      refine hcV_i hx hb hml hown hts hKs hT hb0 hH (As := [.int 0]) (rest := []) (k_X13_is l E K H.size o false q10.2 ho hq12) (gV m7_68 m7_70 ms_47 m1_16 m7_71) hd_X13_is ⟨Nat.le_of_ble_eq_true rfl, Nat.le_of_ble_eq_true rfl, rfl, rfl⟩ rfl ho rfl rfl rfl hl.1 rfl rc0 rfl dX13_adjournment_26 ⟨Nat.zero_le _, Nat.zero_le _⟩ (fun H locs hH => ?_)
      refine lv_if_eq (tgt := 54) hx hb dX13_adjournment_29 (by decide) (fun c13 => ?_) (fun c13 => ?_)
      · replace hf := (if_pos c13).symm.trans hf
        refine lv_iconst (v := 0) hx hb dX13_adjournment_54 (by decide) ?_
        exact hw_iret hx hb hret hf hH hlocks dX13_adjournment_55
      · replace hf := (if_neg c13).symm.trans hf
        refine hl_aload_n hx hb dX13_adjournment_32 rfl (lv_at hl 0 rfl) ?_
        refine lv_iload_n hx hb dX13_adjournment_33 rfl (lv_at hl 2 rfl) ?_
        refine lv_i2l (v := (a_2.toInt64)) hx hb dX13_adjournment_34 rfl ?_
        refine lv_lconst (v := 0) hx hb dX13_adjournment_35 rfl ?_
        refine hl_aload_n hx hb dX13_adjournment_36 rfl (lv_at hl 0 rfl) ?_
        refine lv_iload_n hx hb dX13_adjournment_37 rfl (lv_at hl 1 rfl) ?_
        refine lv_iconst (v := 2) hx hb dX13_adjournment_38 (by decide) ?_
        obtain ⟨q14, hq14, hf⟩ := bnd hf
        refine hcV_i hx hb hml hown hts hKs hT hb0 hH (As := [.int a_1, .int 2]) (rest := [.long 0, .long (a_2.toInt64), rv E (some o)]) (k_X13_of l E K H.size o a_1 2 q12.2 ho hq14) (gV m7_126 m7_128 ms_54 m1_16 m7_129) hd_X13_of ⟨Nat.le_of_ble_eq_true rfl, Nat.le_of_ble_eq_true rfl, rfl, rfl⟩ rfl ho rfl rfl rfl hl.1 rfl (rcJ (rcJ (rcV rc0))) rfl dX13_adjournment_39 ⟨Nat.zero_le _, Nat.zero_le _⟩ (fun H locs hH => ?_)
        refine lv_iconst (v := 1) hx hb dX13_adjournment_42 (by decide) ?_
        refine lv_isub hx hb dX13_adjournment_43 ?_
        refine lv_i2l (v := ((q14.1 - 1).toInt64)) hx hb dX13_adjournment_44 rfl ?_
        obtain ⟨q15, hq15, hf⟩ := bnd hf
        refine hcS_i hx hb hml hown hts hKs hT hb0 hH (As := [.long (a_2.toInt64), .long 0, .long ((q14.1 - 1).toInt64)]) (rest := [rv E (some o)]) (k_X13_isIn l E K H.size (a_2.toInt64) 0 ((q14.1 - 1).toInt64) q14.2 hq15) (gS m7_88 m7_89 m1_16 m7_90) hs_X13_isIn ⟨Nat.le_of_ble_eq_true rfl, Nat.le_of_ble_eq_true rfl, rfl, rfl⟩ hl.1 rfl (rcV rc0) rfl dX13_adjournment_45 ⟨Nat.zero_le _, Nat.zero_le _⟩ (fun H locs hH => ?_)
        obtain ⟨q16, hq16, hf⟩ := bnd hf
        refine hcV_i hx hb hml hown hts hKs hT hb0 hH (As := [.int (b2i q15.1)]) (rest := []) (k_X13_is l E K H.size o q15.1 q15.2 ho hq16) (gV m7_68 m7_70 ms_47 m1_16 m7_71) hd_X13_is ⟨Nat.le_of_ble_eq_true rfl, Nat.le_of_ble_eq_true rfl, rfl, rfl⟩ rfl ho rfl rfl rfl hl.1 rfl rc0 rfl dX13_adjournment_48 ⟨Nat.zero_le _, Nat.zero_le _⟩ (fun H locs hH => ?_)
        refine lv_if_ne (tgt := 56) hx hb dX13_adjournment_51 (by decide) (fun c17 => ?_) (fun c17 => ?_)
        · replace hf := (if_neg c17).symm.trans hf
          refine hl_aload_n hx hb dX13_adjournment_56 rfl (lv_at hl 0 rfl) ?_
          refine lv_iload_n hx hb dX13_adjournment_57 rfl (lv_at hl 1 rfl) ?_
          refine lv_bipush (v := 7) hx hb dX13_adjournment_58 (by decide) ?_
          refine lv_iconst (v := 4) hx hb dX13_adjournment_60 (by decide) ?_
          refine lv_iload_n hx hb dX13_adjournment_61 rfl (lv_at hl 2 rfl) ?_
          refine lv_imul hx hb dX13_adjournment_62 ?_
          refine lv_iadd hx hb dX13_adjournment_63 ?_
          refine lv_iload_n hx hb dX13_adjournment_64 rfl (lv_at hl 3 rfl) ?_
          refine lv_iadd hx hb dX13_adjournment_65 ?_
          obtain ⟨q18, hq18, hf⟩ := bnd hf
          refine hcV_i hx hb hml hown hts hKs hT hb0 hH (As := [.int a_1, .int (((7 + (4 * a_2)) + a_3))]) (rest := []) (k_X13_of l E K H.size o a_1 ((7 + (4 * a_2)) + a_3) q16.2 ho hq18) (gV m7_126 m7_128 ms_54 m1_16 m7_129) hd_X13_of ⟨Nat.le_of_ble_eq_true rfl, Nat.le_of_ble_eq_true rfl, rfl, rfl⟩ rfl ho rfl rfl rfl hl.1 rfl rc0 rfl dX13_adjournment_66 ⟨Nat.zero_le _, Nat.zero_le _⟩ (fun H locs hH => ?_)
          exact hw_iret hx hb hret hf hH hlocks dX13_adjournment_69
        · replace hf := (if_pos c17).symm.trans hf
          refine lv_iconst (v := 0) hx hb dX13_adjournment_54 (by decide) ?_
          exact hw_iret hx hb hret hf hH hlocks dX13_adjournment_55
    · replace hf := (if_neg c11).symm.trans hf
      refine lv_iconst (v := 1) hx hb dX13_adjournment_21 (by decide) ?_
      refine lv_goto (tgt := 26) hx hb dX13_adjournment_22 (by decide) ?_
      obtain ⟨q19, hq19, hf⟩ := bnd hf
      refine hcV_i hx hb hml hown hts hKs hT hb0 hH (As := [.int 1]) (rest := []) (k_X13_is l E K H.size o true q10.2 ho hq19) (gV m7_68 m7_70 ms_47 m1_16 m7_71) hd_X13_is ⟨Nat.le_of_ble_eq_true rfl, Nat.le_of_ble_eq_true rfl, rfl, rfl⟩ rfl ho rfl rfl rfl hl.1 rfl rc0 rfl dX13_adjournment_26 ⟨Nat.zero_le _, Nat.zero_le _⟩ (fun H locs hH => ?_)
      refine lv_if_eq (tgt := 54) hx hb dX13_adjournment_29 (by decide) (fun c20 => ?_) (fun c20 => ?_)
      · replace hf := (if_pos c20).symm.trans hf
        refine lv_iconst (v := 0) hx hb dX13_adjournment_54 (by decide) ?_
        exact hw_iret hx hb hret hf hH hlocks dX13_adjournment_55
      · replace hf := (if_neg c20).symm.trans hf
        refine hl_aload_n hx hb dX13_adjournment_32 rfl (lv_at hl 0 rfl) ?_
        refine lv_iload_n hx hb dX13_adjournment_33 rfl (lv_at hl 2 rfl) ?_
        refine lv_i2l (v := (a_2.toInt64)) hx hb dX13_adjournment_34 rfl ?_
        refine lv_lconst (v := 0) hx hb dX13_adjournment_35 rfl ?_
        refine hl_aload_n hx hb dX13_adjournment_36 rfl (lv_at hl 0 rfl) ?_
        refine lv_iload_n hx hb dX13_adjournment_37 rfl (lv_at hl 1 rfl) ?_
        refine lv_iconst (v := 2) hx hb dX13_adjournment_38 (by decide) ?_
        obtain ⟨q21, hq21, hf⟩ := bnd hf
        refine hcV_i hx hb hml hown hts hKs hT hb0 hH (As := [.int a_1, .int 2]) (rest := [.long 0, .long (a_2.toInt64), rv E (some o)]) (k_X13_of l E K H.size o a_1 2 q19.2 ho hq21) (gV m7_126 m7_128 ms_54 m1_16 m7_129) hd_X13_of ⟨Nat.le_of_ble_eq_true rfl, Nat.le_of_ble_eq_true rfl, rfl, rfl⟩ rfl ho rfl rfl rfl hl.1 rfl (rcJ (rcJ (rcV rc0))) rfl dX13_adjournment_39 ⟨Nat.zero_le _, Nat.zero_le _⟩ (fun H locs hH => ?_)
        refine lv_iconst (v := 1) hx hb dX13_adjournment_42 (by decide) ?_
        refine lv_isub hx hb dX13_adjournment_43 ?_
        refine lv_i2l (v := ((q21.1 - 1).toInt64)) hx hb dX13_adjournment_44 rfl ?_
        obtain ⟨q22, hq22, hf⟩ := bnd hf
        refine hcS_i hx hb hml hown hts hKs hT hb0 hH (As := [.long (a_2.toInt64), .long 0, .long ((q21.1 - 1).toInt64)]) (rest := [rv E (some o)]) (k_X13_isIn l E K H.size (a_2.toInt64) 0 ((q21.1 - 1).toInt64) q21.2 hq22) (gS m7_88 m7_89 m1_16 m7_90) hs_X13_isIn ⟨Nat.le_of_ble_eq_true rfl, Nat.le_of_ble_eq_true rfl, rfl, rfl⟩ hl.1 rfl (rcV rc0) rfl dX13_adjournment_45 ⟨Nat.zero_le _, Nat.zero_le _⟩ (fun H locs hH => ?_)
        obtain ⟨q23, hq23, hf⟩ := bnd hf
        refine hcV_i hx hb hml hown hts hKs hT hb0 hH (As := [.int (b2i q22.1)]) (rest := []) (k_X13_is l E K H.size o q22.1 q22.2 ho hq23) (gV m7_68 m7_70 ms_47 m1_16 m7_71) hd_X13_is ⟨Nat.le_of_ble_eq_true rfl, Nat.le_of_ble_eq_true rfl, rfl, rfl⟩ rfl ho rfl rfl rfl hl.1 rfl rc0 rfl dX13_adjournment_48 ⟨Nat.zero_le _, Nat.zero_le _⟩ (fun H locs hH => ?_)
        refine lv_if_ne (tgt := 56) hx hb dX13_adjournment_51 (by decide) (fun c24 => ?_) (fun c24 => ?_)
        · replace hf := (if_neg c24).symm.trans hf
          refine hl_aload_n hx hb dX13_adjournment_56 rfl (lv_at hl 0 rfl) ?_
          refine lv_iload_n hx hb dX13_adjournment_57 rfl (lv_at hl 1 rfl) ?_
          refine lv_bipush (v := 7) hx hb dX13_adjournment_58 (by decide) ?_
          refine lv_iconst (v := 4) hx hb dX13_adjournment_60 (by decide) ?_
          refine lv_iload_n hx hb dX13_adjournment_61 rfl (lv_at hl 2 rfl) ?_
          refine lv_imul hx hb dX13_adjournment_62 ?_
          refine lv_iadd hx hb dX13_adjournment_63 ?_
          refine lv_iload_n hx hb dX13_adjournment_64 rfl (lv_at hl 3 rfl) ?_
          refine lv_iadd hx hb dX13_adjournment_65 ?_
          obtain ⟨q25, hq25, hf⟩ := bnd hf
          refine hcV_i hx hb hml hown hts hKs hT hb0 hH (As := [.int a_1, .int (((7 + (4 * a_2)) + a_3))]) (rest := []) (k_X13_of l E K H.size o a_1 ((7 + (4 * a_2)) + a_3) q23.2 ho hq25) (gV m7_126 m7_128 ms_54 m1_16 m7_129) hd_X13_of ⟨Nat.le_of_ble_eq_true rfl, Nat.le_of_ble_eq_true rfl, rfl, rfl⟩ rfl ho rfl rfl rfl hl.1 rfl rc0 rfl dX13_adjournment_66 ⟨Nat.zero_le _, Nat.zero_le _⟩ (fun H locs hH => ?_)
          exact hw_iret hx hb hret hf hH hlocks dX13_adjournment_69
        · replace hf := (if_pos c24).symm.trans hf
          refine lv_iconst (v := 0) hx hb dX13_adjournment_54 (by decide) ?_
          exact hw_iret hx hb hret hf hH hlocks dX13_adjournment_55
end
