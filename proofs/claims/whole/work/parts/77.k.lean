section
variable {p : Program} {l : Launch} {e : Env} {s : State} {m : MethodId} {args : Array Value} {below : List Frame} {meth : Method} {c : Code} {E : Ev} {K : Kd} {z : Nat}

theorem dX6_planWaiting_0 : decode cX6_planWaiting 0 = .ok (.aload_n 1, 1) := by decide +kernel
theorem dX6_planWaiting_1 : decode cX6_planWaiting 1 = .ok (.aload_n 0, 1) := by decide +kernel
theorem dX6_planWaiting_2 : decode cX6_planWaiting 2 = .ok (.getfield 21, 3) := by decide +kernel
theorem dX6_planWaiting_5 : decode cX6_planWaiting 5 = .ok (.invokevirtual 118, 3) := by decide +kernel
theorem dX6_planWaiting_8 : decode cX6_planWaiting 8 = .ok (.istore_n 3, 1) := by decide +kernel
theorem dX6_planWaiting_9 : decode cX6_planWaiting 9 = .ok (.iconst 0, 1) := by decide +kernel
theorem dX6_planWaiting_10 : decode cX6_planWaiting 10 = .ok (.istore 4, 2) := by decide +kernel
theorem dX6_planWaiting_12 : decode cX6_planWaiting 12 = .ok (.iconst 0, 1) := by decide +kernel
theorem dX6_planWaiting_13 : decode cX6_planWaiting 13 = .ok (.istore 5, 2) := by decide +kernel
theorem dX6_planWaiting_15 : decode cX6_planWaiting 15 = .ok (.iload 5, 2) := by decide +kernel
theorem dX6_planWaiting_17 : decode cX6_planWaiting 17 = .ok (.iload_n 3, 1) := by decide +kernel
theorem dX6_planWaiting_18 : decode cX6_planWaiting 18 = .ok (.if_icmp .ge 40, 3) := by decide +kernel
theorem dX6_planWaiting_21 : decode cX6_planWaiting 21 = .ok (.aload_n 0, 1) := by decide +kernel
theorem dX6_planWaiting_22 : decode cX6_planWaiting 22 = .ok (.aload_n 1, 1) := by decide +kernel
theorem dX6_planWaiting_23 : decode cX6_planWaiting 23 = .ok (.aload_n 0, 1) := by decide +kernel
theorem dX6_planWaiting_24 : decode cX6_planWaiting 24 = .ok (.getfield 21, 3) := by decide +kernel
theorem dX6_planWaiting_27 : decode cX6_planWaiting 27 = .ok (.iload 5, 2) := by decide +kernel
theorem dX6_planWaiting_29 : decode cX6_planWaiting 29 = .ok (.iaload, 1) := by decide +kernel
theorem dX6_planWaiting_30 : decode cX6_planWaiting 30 = .ok (.iload_n 2, 1) := by decide +kernel
theorem dX6_planWaiting_31 : decode cX6_planWaiting 31 = .ok (.invokevirtual 122, 3) := by decide +kernel
theorem dX6_planWaiting_34 : decode cX6_planWaiting 34 = .ok (.ifCond .eq 18, 3) := by decide +kernel
theorem dX6_planWaiting_37 : decode cX6_planWaiting 37 = .ok (.aload_n 0, 1) := by decide +kernel
theorem dX6_planWaiting_38 : decode cX6_planWaiting 38 = .ok (.aload_n 1, 1) := by decide +kernel
theorem dX6_planWaiting_39 : decode cX6_planWaiting 39 = .ok (.aload_n 0, 1) := by decide +kernel
theorem dX6_planWaiting_40 : decode cX6_planWaiting 40 = .ok (.getfield 21, 3) := by decide +kernel
theorem dX6_planWaiting_43 : decode cX6_planWaiting 43 = .ok (.iload 5, 2) := by decide +kernel
theorem dX6_planWaiting_45 : decode cX6_planWaiting 45 = .ok (.iaload, 1) := by decide +kernel
theorem dX6_planWaiting_46 : decode cX6_planWaiting 46 = .ok (.invokevirtual 126, 3) := by decide +kernel
theorem dX6_planWaiting_49 : decode cX6_planWaiting 49 = .ok (.iinc 4 1, 3) := by decide +kernel
theorem dX6_planWaiting_52 : decode cX6_planWaiting 52 = .ok (.iinc 5 1, 3) := by decide +kernel
theorem dX6_planWaiting_55 : decode cX6_planWaiting 55 = .ok (.goto (-40), 3) := by decide +kernel
theorem dX6_planWaiting_58 : decode cX6_planWaiting 58 = .ok (.iload 4, 2) := by decide +kernel
theorem dX6_planWaiting_60 : decode cX6_planWaiting 60 = .ok (.ireturn, 1) := by decide +kernel
theorem hd_X6_planWaiting : yX6_planWaiting.cls = RX6 ∧ yX6_planWaiting.cls ≠ "java/lang/invoke/MethodHandle" ∧ yX6_planWaiting.cls ≠ "java/lang/invoke/VarHandle" ∧ (parseMethodDescriptor yX6_planWaiting.desc).map (fun d => d.parameters.length) = some 2 := by decide +kernel
theorem hs_X6_planWaiting : yX6_planWaiting.cls ≠ "java/lang/invoke/MethodHandle" ∧ yX6_planWaiting.cls ≠ "java/lang/invoke/VarHandle" ∧ (parseMethodDescriptor yX6_planWaiting.desc).map (fun d => d.parameters.length) = some 2 := by decide +kernel
set_option maxHeartbeats 4000000 in
set_option maxRecDepth 100000 in
theorem l_X6_planWaiting_L15 (C : CX p l e s m args meth c cX6_planWaiting 6 RX6 (Option.some Jvm.ClassFile.FieldType.int) E) {o : Nat} (ho : K o = some (5, 0)) {r : Int32} {w' : Wd} (k : Option Nat → Int32 → Int32 → Int32 → Int32 → Wd → Option (Int32 × Wd)) (hk : ∀ (v1_15 : Option Nat) (v2_15 : Int32) (v3_15 : Int32) (v4_15 : Int32) (v5_15 : Int32) (w : Wd) (H : Heap) (locs : List Loc) (ls : Array Slot), HQ E K z w s H locs → lv_has ls 6 [(1, rv E v1_15), (2, .int v2_15), (3, .int v3_15), (4, .int v4_15), (5, .int v5_15), (0, rv E (some o))] → k v1_15 v2_15 v3_15 v4_15 v5_15 w = some (r, w') → W p l e ({ frames := 5, cells := 0, slots := 0, locals := 128 } : Room) s m args below meth c H locs 0 0 (MQ below (QI E K z w' r) args s 0 0 (hA E)) (F0 m 58 ls [])) : ∀ (n : Nat) (v1_15 : Option Nat) (v2_15 : Int32) (v3_15 : Int32) (v4_15 : Int32) (v5_15 : Int32) (w : Wd) (H : Heap) (locs : List Loc) (ls : Array Slot), HQ E K z w s H locs → lv_has ls 6 [(1, rv E v1_15), (2, .int v2_15), (3, .int v3_15), (4, .int v4_15), (5, .int v5_15), (0, rv E (some o))] → f_X6_planWaiting_L15 K o k n v1_15 v2_15 v3_15 v4_15 v5_15 w = some (r, w') → W p l e ({ frames := 5, cells := 0, slots := 0, locals := 128 } : Room) s m args below meth c H locs 0 0 (MQ below (QI E K z w' r) args s 0 0 (hA E)) (F0 m 15 ls []) := by
  obtain ⟨hx, hb, hml, hown, hts, hKs, hT, hb0, hlocks, hret⟩ := id C
  intro n
  induction n with
  | zero =>
    intro v1_15 v2_15 v3_15 v4_15 v5_15 w H locs ls hH hl hf
    cases hf
  | succ n ih =>
    intro v1_15 v2_15 v3_15 v4_15 v5_15 w H locs ls hH hl hf
    rw [f_X6_planWaiting_L15] at hf
    refine lv_iload hx hb dX6_planWaiting_15 (lv_at hl 4 rfl) ?_
    refine lv_iload_n hx hb dX6_planWaiting_17 rfl (lv_at hl 2 rfl) ?_
    refine lv_icmp_ge (tgt := 58) hx hb dX6_planWaiting_18 (by decide) (fun c4 => ?_) (fun c4 => ?_)
    · replace hf := (if_pos c4).symm.trans hf
      exact hk v1_15 v2_15 v3_15 v4_15 v5_15 _ _ _ _ hH (lv_sub hl [0, 1, 2, 3, 4, 5] rfl) hf
    · replace hf := (if_neg c4).symm.trans hf
      refine hl_aload_n hx hb dX6_planWaiting_21 rfl (lv_at hl 5 rfl) ?_
      refine hl_aload_n hx hb dX6_planWaiting_22 rfl (lv_at hl 0 rfl) ?_
      refine hl_aload_n hx hb dX6_planWaiting_23 rfl (lv_at hl 5 rfl) ?_
      refine g6_3 hx hb hts hown hKs hH rfl ho m2_159 dX6_planWaiting_24 ?_
      refine lv_iload hx hb dX6_planWaiting_27 (lv_at hl 4 rfl) ?_
      obtain ⟨a5, ha5, hf⟩ := bnd hf
      replace ha5 := cha_some ha5
      obtain ⟨j6, hj6, hf⟩ := bnd hf
      refine hw_iald hx hb hKs hH ha5.1 ha5.2 hj6 dX6_planWaiting_29 ?_
      refine lv_iload_n hx hb dX6_planWaiting_30 rfl (lv_at hl 1 rfl) ?_
      obtain ⟨q7, hq7, hf⟩ := bnd hf
      refine hcV_i hx hb hml hown hts hKs hT hb0 hH (As := [rv E v1_15, .int ((aI w a5.1 j6)), .int v2_15]) (rest := []) (k_X6_findFirst l E K H.size o v1_15 (aI w a5.1 j6) v2_15 w ho hq7) (gV m4_110 m4_111 m4_112 m1_14 m4_113) hd_X6_findFirst ⟨Nat.le_of_ble_eq_true rfl, Nat.le_of_ble_eq_true rfl, rfl, rfl⟩ rfl ho rfl rfl rfl hl.1 rfl rc0 rfl dX6_planWaiting_31 ⟨Nat.zero_le _, Nat.zero_le _⟩ (fun H locs hH => ?_)
      refine lv_if_eq (tgt := 52) hx hb dX6_planWaiting_34 (by decide) (fun c8 => ?_) (fun c8 => ?_)
      · replace hf := (if_pos c8).symm.trans hf
        refine lv_iinc (v := (v5_15 + 1)) (lv' := [(5, .int ((v5_15 + 1))), (1, rv E v1_15), (2, .int v2_15), (3, .int v3_15), (4, .int v4_15), (0, rv E (some o))]) hx hb dX6_planWaiting_52 hl (k := 4) rfl rfl (by decide) rfl (fun ls hl => ?_)
        refine lv_goto (tgt := 15) hx hb dX6_planWaiting_55 (by decide) ?_
        exact ih v1_15 v2_15 v3_15 v4_15 (v5_15 + 1) _ _ _ _ hH (lv_sub hl [1, 2, 3, 4, 0, 5] rfl) hf
      · replace hf := (if_neg c8).symm.trans hf
        refine hl_aload_n hx hb dX6_planWaiting_37 rfl (lv_at hl 5 rfl) ?_
        refine hl_aload_n hx hb dX6_planWaiting_38 rfl (lv_at hl 0 rfl) ?_
        refine hl_aload_n hx hb dX6_planWaiting_39 rfl (lv_at hl 5 rfl) ?_
        refine g6_3 hx hb hts hown hKs hH rfl ho m2_159 dX6_planWaiting_40 ?_
        refine lv_iload hx hb dX6_planWaiting_43 (lv_at hl 4 rfl) ?_
        obtain ⟨a9, ha9, hf⟩ := bnd hf
        replace ha9 := cha_some ha9
        obtain ⟨j10, hj10, hf⟩ := bnd hf
        refine hw_iald hx hb hKs hH ha9.1 ha9.2 hj10 dX6_planWaiting_45 ?_
        obtain ⟨q11, hq11, hf⟩ := bnd hf
        refine hcV_v hx hb hml hown hts hKs hT hb0 hH (As := [rv E v1_15, .int ((aI q7.2 a9.1 j10))]) (rest := []) (k_X6_setFound l E K H.size o v1_15 (aI q7.2 a9.1 j10) q7.2 ho hq11) (gV m4_181 m4_182 m4_183 m1_14 m4_184) hd_X6_setFound ⟨Nat.le_of_ble_eq_true rfl, Nat.le_of_ble_eq_true rfl, rfl, rfl⟩ rfl ho rfl rfl rfl hl.1 rfl rc0 rfl dX6_planWaiting_46 ⟨Nat.zero_le _, Nat.zero_le _⟩ (fun H locs hH => ?_)
        refine lv_iinc (v := (v4_15 + 1)) (lv' := [(4, .int ((v4_15 + 1))), (1, rv E v1_15), (2, .int v2_15), (3, .int v3_15), (5, .int v5_15), (0, rv E (some o))]) hx hb dX6_planWaiting_49 hl (k := 3) rfl rfl (by decide) rfl (fun ls hl => ?_)
        refine lv_iinc (v := (v5_15 + 1)) (lv' := [(5, .int ((v5_15 + 1))), (4, .int ((v4_15 + 1))), (1, rv E v1_15), (2, .int v2_15), (3, .int v3_15), (0, rv E (some o))]) hx hb dX6_planWaiting_52 hl (k := 4) rfl rfl (by decide) rfl (fun ls hl => ?_)
        refine lv_goto (tgt := 15) hx hb dX6_planWaiting_55 (by decide) ?_
        exact ih v1_15 v2_15 v3_15 (v4_15 + 1) (v5_15 + 1) _ _ _ _ hH (lv_sub hl [2, 3, 4, 1, 0, 5] rfl) hf
set_option maxHeartbeats 4000000 in
set_option maxRecDepth 100000 in
theorem k_X6_planWaiting (l : Launch) (E : Ev) (K : Kd) (z : Nat) (o : Nat) (a_1 : Option Nat) (a_2 : Int32) (w : Wd) (ho : K o = some (5, 0)) {r : Int32} {w' : Wd} (hf : f_X6_planWaiting K o a_1 a_2 w = some (r, w')) : Met l yX6_planWaiting (Cond.code yX6_planWaiting cX6_planWaiting 6 (Option.some Jvm.ClassFile.FieldType.int) :: bt) ({ frames := 5, cells := 0, slots := 0, locals := 128 } : Room) (va_Pc [rv E (some o), rv E a_1, .int a_2] (HB E K w z)) (QI E K z w' r) 0 0 (hA E) := by
  refine Met.ofW (cc := cX6_planWaiting) (maxL := 6) (ret := (Option.some Jvm.ClassFile.FieldType.int)) (by decide) rfl ?_
  intro p e s m args below meth c s₁ B hml hv
  obtain ⟨rfl, hz, hP, hKs, hT, hb0⟩ := hv
  have C : CX p l e s m _ meth c cX6_planWaiting 6 RX6 (Option.some Jvm.ClassFile.FieldType.int) E := ⟨B.exec, B.bytes, hml, findClass_of_methodNamed B.named, fun w h => atoms_spec (ws := Cond.code yX6_planWaiting cX6_planWaiting 6 (Option.some Jvm.ClassFile.FieldType.int) :: bt) B.pre w (List.mem_cons_of_mem _ h), hKs, hT, by rw [hz]; exact hb0, B.notSynchronized, B.returns⟩
  have hH : HQ E K z w s s.heap [] := ⟨hP, va_S.rf, hz⟩
  obtain ⟨hx, hb, hml, hown, hts, hKs, hT, hb0, hlocks, hret⟩ := id C
  have hl := lv_entry [rv E (some o), rv E a_1, .int a_2] (n := 6) (by simp [lg_len_nil, lg_len_i, lg_len_j, lg_len_q, lg_len_f, lg_len_d, lg_len_r])
  rw [lg_entry_eq]
  generalize (lg_sl [rv E (some o), rv E a_1, .int a_2] ++ List.replicate (6 - (lg_sl [rv E (some o), rv E a_1, .int a_2]).length) Slot.unset).toArray = ls at hl ⊢
  replace hl : lv_has ls 6 [(0, rv E (some o)), (1, rv E a_1), (2, .int a_2)] := by simpa only [lv_args, cat_q, cat_i, cat_j, reduceIte, Nat.reduceEqDiff, Nat.reduceAdd, Nat.zero_add] using hl
  generalize s.heap = H at hH ⊢
  unfold f_X6_planWaiting at hf
  refine hl_aload_n hx hb dX6_planWaiting_0 rfl (lv_at hl 1 rfl) ?_
  refine hl_aload_n hx hb dX6_planWaiting_1 rfl (lv_at hl 0 rfl) ?_
  refine g6_3 hx hb hts hown hKs hH rfl ho m2_159 dX6_planWaiting_2 ?_
  obtain ⟨a1, ha1, hf⟩ := bnd hf
  replace ha1 := chk_some ha1
  obtain ⟨q2, hq2, hf⟩ := bnd hf
  refine hcV_i hx hb hml hown hts hKs hT hb0 hH (As := [rv E (wR w 603 o)]) (rest := []) (k_X10_sortWaiting l E K H.size a1 (wR w 603 o) w ha1.2 hq2) (gV m4_99 m4_100 m4_101 m1_12 m4_102) hd_X10_sortWaiting ⟨Nat.le_of_ble_eq_true rfl, Nat.le_of_ble_eq_true rfl, rfl, rfl⟩ ha1.1 ha1.2 rfl rfl rfl hl.1 rfl rc0 rfl dX6_planWaiting_5 ⟨Nat.zero_le _, Nat.zero_le _⟩ (fun H locs hH => ?_)
  refine lv_istore_n (i := 3) (lv' := [(3, .int (q2.1)), (0, rv E (some o)), (1, rv E a_1), (2, .int a_2)]) hx hb dX6_planWaiting_8 rfl hl (by decide) rfl (fun ls hl => ?_)
  refine lv_iconst (v := 0) hx hb dX6_planWaiting_9 (by decide) ?_
  refine lv_istore (i := 4) (lv' := [(4, .int 0), (3, .int (q2.1)), (0, rv E (some o)), (1, rv E a_1), (2, .int a_2)]) hx hb dX6_planWaiting_10 hl (by decide) rfl (fun ls hl => ?_)
  refine lv_iconst (v := 0) hx hb dX6_planWaiting_12 (by decide) ?_
  refine lv_istore (i := 5) (lv' := [(5, .int 0), (4, .int 0), (3, .int (q2.1)), (0, rv E (some o)), (1, rv E a_1), (2, .int a_2)]) hx hb dX6_planWaiting_13 hl (by decide) rfl (fun ls hl => ?_)
  refine l_X6_planWaiting_L15  C ho _ (fun v1_15 v2_15 v3_15 v4_15 v5_15 w3 H locs ls hH hl hf => ?_) fu a_1 a_2 q2.1 0 0 q2.2 _ _ _ hH (lv_sub hl [4, 5, 2, 1, 0, 3] rfl) hf
  refine lv_iload hx hb dX6_planWaiting_58 (lv_at hl 3 rfl) ?_
  exact hw_iret hx hb hret hf hH hlocks dX6_planWaiting_60

theorem dL_problem_0 : decode cL_problem 0 = .ok (.aload 6, 2) := by decide +kernel
theorem dL_problem_2 : decode cL_problem 2 = .ok (.iconst 0, 1) := by decide +kernel
theorem dL_problem_3 : decode cL_problem 3 = .ok (.aload_n 0, 1) := by decide +kernel
theorem dL_problem_4 : decode cL_problem 4 = .ok (.iload_n 1, 1) := by decide +kernel
theorem dL_problem_5 : decode cL_problem 5 = .ok (.iload_n 2, 1) := by decide +kernel
theorem dL_problem_6 : decode cL_problem 6 = .ok (.iload_n 3, 1) := by decide +kernel
theorem dL_problem_7 : decode cL_problem 7 = .ok (.iload 4, 2) := by decide +kernel
theorem dL_problem_9 : decode cL_problem 9 = .ok (.iload 5, 2) := by decide +kernel
theorem dL_problem_11 : decode cL_problem 11 = .ok (.invokevirtual 54, 3) := by decide +kernel
theorem dL_problem_14 : decode cL_problem 14 = .ok (.i2l, 1) := by decide +kernel
theorem dL_problem_15 : decode cL_problem 15 = .ok (.lastore, 1) := by decide +kernel
theorem dL_problem_16 : decode cL_problem 16 = .ok (.goto 15, 3) := by decide +kernel
theorem dL_problem_19 : decode cL_problem 19 = .ok (.astore 7, 2) := by decide +kernel
theorem dL_problem_21 : decode cL_problem 21 = .ok (.iconst 1, 1) := by decide +kernel
theorem dL_problem_22 : decode cL_problem 22 = .ok (.ireturn, 1) := by decide +kernel
theorem dL_problem_23 : decode cL_problem 23 = .ok (.astore 7, 2) := by decide +kernel
theorem dL_problem_25 : decode cL_problem 25 = .ok (.iconst 2, 1) := by decide +kernel
theorem dL_problem_26 : decode cL_problem 26 = .ok (.ireturn, 1) := by decide +kernel
theorem dL_problem_27 : decode cL_problem 27 = .ok (.astore 7, 2) := by decide +kernel
theorem dL_problem_29 : decode cL_problem 29 = .ok (.iconst 3, 1) := by decide +kernel
theorem dL_problem_30 : decode cL_problem 30 = .ok (.ireturn, 1) := by decide +kernel
theorem dL_problem_31 : decode cL_problem 31 = .ok (.iconst 0, 1) := by decide +kernel
theorem dL_problem_32 : decode cL_problem 32 = .ok (.ireturn, 1) := by decide +kernel
theorem hs_L_problem : yL_problem.cls ≠ "java/lang/invoke/MethodHandle" ∧ yL_problem.cls ≠ "java/lang/invoke/VarHandle" ∧ (parseMethodDescriptor yL_problem.desc).map (fun d => d.parameters.length) = some 7 := by decide +kernel
set_option maxHeartbeats 4000000 in
set_option maxRecDepth 100000 in
theorem k_L_problem (l : Launch) (hls : l.stackTraces = false) (E : Ev) (K : Kd) (z : Nat) (a_0 : Option Nat) (a_1 : Int32) (a_2 : Int32) (a_3 : Int32) (a_4 : Int32) (a_5 : Int32) (a_6 : Option Nat) (w : Wd) {r : Int32} {w' : Wd} (hf : f_L_problem K a_0 a_1 a_2 a_3 a_4 a_5 a_6 w = some (r, w')) : Met l yL_problem (Cond.codeWith yL_problem cL_problem 8 (Option.some Jvm.ClassFile.FieldType.int) [(0, 16, 19, 29), (0, 16, 23, 13), (0, 16, 27, 58)] :: bt) ({ frames := 9, cells := 6, slots := 36, locals := 162 } : Room) (va_Pc [rv E a_0, .int a_1, .int a_2, .int a_3, .int a_4, .int a_5, rv E a_6] (HB E K w z)) (QW E K w' r) 6 36 (hA E) := by
  refine MetH_ofW (cc := cL_problem) (maxL := 8) (ret := (Option.some Jvm.ClassFile.FieldType.int)) (hh := [(0, 16, 19, 29), (0, 16, 23, 13), (0, 16, 27, 58)]) (by decide) rfl ?_
  intro p e s m args below meth c s₁ B hml htab hv
  obtain ⟨rfl, hz, hP, hKs, hT, hb0⟩ := hv
  have C : CX p l e s m _ meth c cL_problem 8 RL (Option.some Jvm.ClassFile.FieldType.int) E := ⟨B.exec, B.bytes, hml, findClass_of_methodNamed B.named, fun w h => atoms_spec (ws := Cond.codeWith yL_problem cL_problem 8 (Option.some Jvm.ClassFile.FieldType.int) [(0, 16, 19, 29), (0, 16, 23, 13), (0, 16, 27, 58)] :: bt) B.pre w (List.mem_cons_of_mem _ h), hKs, hT, by rw [hz]; exact hb0, B.notSynchronized, B.returns⟩
  have hH : HQ E K z w s s.heap [] := ⟨hP, va_S.rf, hz⟩
  obtain ⟨hx, hb, hml, hown, hts, hKs, hT, hb0, hlocks, hret⟩ := id C
  have hl := lv_entry [rv E a_0, .int a_1, .int a_2, .int a_3, .int a_4, .int a_5, rv E a_6] (n := 8) (by simp [lg_len_nil, lg_len_i, lg_len_j, lg_len_q, lg_len_f, lg_len_d, lg_len_r])
  rw [lg_entry_eq]
  generalize (lg_sl [rv E a_0, .int a_1, .int a_2, .int a_3, .int a_4, .int a_5, rv E a_6] ++ List.replicate (8 - (lg_sl [rv E a_0, .int a_1, .int a_2, .int a_3, .int a_4, .int a_5, rv E a_6]).length) Slot.unset).toArray = ls at hl ⊢
  replace hl : lv_has ls 8 [(0, rv E a_0), (1, .int a_1), (2, .int a_2), (3, .int a_3), (4, .int a_4), (5, .int a_5), (6, rv E a_6)] := by simpa only [lv_args, cat_q, cat_i, cat_j, reduceIte, Nat.reduceEqDiff, Nat.reduceAdd, Nat.zero_add] using hl
  generalize s.heap = H at hH ⊢
  unfold f_L_problem at hf
  refine hl_aload hx hb dL_problem_0 (lv_at hl 6 rfl) ?_
  refine lv_iconst (v := 0) hx hb dL_problem_2 (by decide) ?_
  refine hl_aload_n hx hb dL_problem_3 rfl (lv_at hl 0 rfl) ?_
  refine lv_iload_n hx hb dL_problem_4 rfl (lv_at hl 1 rfl) ?_
  refine lv_iload_n hx hb dL_problem_5 rfl (lv_at hl 2 rfl) ?_
  refine lv_iload_n hx hb dL_problem_6 rfl (lv_at hl 3 rfl) ?_
  refine lv_iload hx hb dL_problem_7 (lv_at hl 4 rfl) ?_
  refine lv_iload hx hb dL_problem_9 (lv_at hl 5 rfl) ?_
  obtain ⟨a1, ha1, hf⟩ := bnd hf
  replace ha1 := chk_some ha1
  obtain ⟨q2, hq2, hf⟩ := bnd hf
  refine hxC_i hx hb hml hown hts hKs hT hb0 hH (As := [.int a_1, .int a_2, .int a_3, .int a_4, .int a_5]) (rest := [.int 0, rv E a_6]) (k_X12_problem l hls E K H.size a1 a_1 a_2 a_3 a_4 a_5 w ha1.2 hq2) (gV m5_182 m5_183 m5_184 m1_1 m5_185) hd_X12_problem ⟨Nat.le_of_ble_eq_true rfl, Nat.le_of_ble_eq_true rfl, rfl, rfl⟩ ha1.1 ha1.2 rfl rfl rfl hl.1 rfl (rcI (rcV rc0)) rfl dL_problem_11 ⟨Nat.le_of_ble_eq_true rfl, Nat.le_of_ble_eq_true rfl⟩ (fun c4 hc4 H locs q9 ce9 hH hc9 hv9 hf9 => ?_) (fun v3 hv3 H locs hH => ?_)
  · replace hf := (xh_inr hc4).symm.trans hf
    by_cases h5 : c4 = 1
    · subst h5
      replace hf := (if_pos rfl).symm.trans hf
      refine vx_catch (name := "java/lang/IndexOutOfBoundsException") hown [] ⟨0, 16, 19, 29⟩ [⟨0, 16, 23, 13⟩, ⟨0, 16, 27, 58⟩] htab pass0 (by decide) (by decide) (hts _ m5_85) (va_Nw.use rfl (hKs.2.1 _ m5_96)) hc9 hv9 hf9 ?_
      refine lv_astore (i := 7) (lv' := [(7, .ref q9), (0, rv E a_0), (1, .int a_1), (2, .int a_2), (3, .int a_3), (4, .int a_4), (5, .int a_5), (6, rv E a_6)]) hx hb dL_problem_19 hl (by decide) (by simp [List.filter_cons, cat_q, cat_i, cat_j, imax, imin]) (fun ls hl => ?_)
      refine lv_iconst (v := 1) hx hb dL_problem_21 (by decide) ?_
      exact hw_wret hx hb (Nat.le_of_ble_eq_true rfl) (Nat.le_of_ble_eq_true rfl) hret hf hH hlocks dL_problem_22
    replace hf := (if_neg h5).symm.trans hf
    by_cases h6 : c4 = 2
    · subst h6
      replace hf := (if_pos rfl).symm.trans hf
      refine vx_catch (name := "java/lang/IllegalArgumentException") hown [⟨0, 16, 19, 29⟩] ⟨0, 16, 23, 13⟩ [⟨0, 16, 27, 58⟩] htab (pass1 (Or.inr ⟨by decide, "java/lang/IndexOutOfBoundsException", hts _ m5_85, hKs.2.2.2.1 ("java/lang/IllegalArgumentException", "java/lang/IndexOutOfBoundsException") (by decide)⟩) pass0) (by decide) (by decide) (hts _ m4_212) (va_Nw.use rfl (hKs.2.1 _ m4_219)) hc9 hv9 hf9 ?_
      refine lv_astore (i := 7) (lv' := [(7, .ref q9), (0, rv E a_0), (1, .int a_1), (2, .int a_2), (3, .int a_3), (4, .int a_4), (5, .int a_5), (6, rv E a_6)]) hx hb dL_problem_23 hl (by decide) (by simp [List.filter_cons, cat_q, cat_i, cat_j, imax, imin]) (fun ls hl => ?_)
      refine lv_iconst (v := 2) hx hb dL_problem_25 (by decide) ?_
      exact hw_wret hx hb (Nat.le_of_ble_eq_true rfl) (Nat.le_of_ble_eq_true rfl) hret hf hH hlocks dL_problem_26
    replace hf := (if_neg h6).symm.trans hf
    by_cases h7 : c4 = 3
    · subst h7
      replace hf := (if_pos rfl).symm.trans hf
      refine vx_catch (name := "java/lang/IllegalStateException") hown [⟨0, 16, 19, 29⟩, ⟨0, 16, 23, 13⟩] ⟨0, 16, 27, 58⟩ [] htab (pass1 (Or.inr ⟨by decide, "java/lang/IndexOutOfBoundsException", hts _ m5_85, hKs.2.2.2.1 ("java/lang/IllegalStateException", "java/lang/IndexOutOfBoundsException") (by decide)⟩) (pass1 (Or.inr ⟨by decide, "java/lang/IllegalArgumentException", hts _ m4_212, hKs.2.2.2.1 ("java/lang/IllegalStateException", "java/lang/IllegalArgumentException") (by decide)⟩) pass0)) (by decide) (by decide) (hts _ m5_181) (va_Nw.use rfl (hKs.2.1 _ m5_196)) hc9 hv9 hf9 ?_
      refine lv_astore (i := 7) (lv' := [(7, .ref q9), (0, rv E a_0), (1, .int a_1), (2, .int a_2), (3, .int a_3), (4, .int a_4), (5, .int a_5), (6, rv E a_6)]) hx hb dL_problem_27 hl (by decide) (by simp [List.filter_cons, cat_q, cat_i, cat_j, imax, imin]) (fun ls hl => ?_)
      refine lv_iconst (v := 3) hx hb dL_problem_29 (by decide) ?_
      exact hw_wret hx hb (Nat.le_of_ble_eq_true rfl) (Nat.le_of_ble_eq_true rfl) hret hf hH hlocks dL_problem_30
    replace hf := (if_neg h7).symm.trans hf
    cases hf
  · replace hf := (xh_inl hv3).symm.trans hf
    refine lv_i2l (v := (v3.toInt64)) hx hb dL_problem_14 rfl ?_
    obtain ⟨a8, ha8, hf⟩ := bnd hf
    replace ha8 := cha_some ha8
    obtain ⟨j9, hj9, hf⟩ := bnd hf
    obtain ⟨w10, hw10, hf⟩ := bnd hf
    replace hw10 := Option.some.inj hw10
    refine hw_last (x := (v3.toInt64)) hx hb hKs hH ha8.1 ha8.2 hj9 dL_problem_15 (fun H locs hH => ?_)
    rw [hw10] at hH
    refine lv_goto (tgt := 31) hx hb dL_problem_16 (by decide) ?_
    refine lv_iconst (v := 0) hx hb dL_problem_31 (by decide) ?_
    exact hw_wret hx hb (Nat.le_of_ble_eq_true rfl) (Nat.le_of_ble_eq_true rfl) hret hf hH hlocks dL_problem_32

theorem dL_plan_0 : decode cL_plan 0 = .ok (.aload 6, 2) := by decide +kernel
theorem dL_plan_2 : decode cL_plan 2 = .ok (.iconst 0, 1) := by decide +kernel
theorem dL_plan_3 : decode cL_plan 3 = .ok (.aload_n 0, 1) := by decide +kernel
theorem dL_plan_4 : decode cL_plan 4 = .ok (.iload_n 1, 1) := by decide +kernel
theorem dL_plan_5 : decode cL_plan 5 = .ok (.iload_n 2, 1) := by decide +kernel
theorem dL_plan_6 : decode cL_plan 6 = .ok (.iload_n 3, 1) := by decide +kernel
theorem dL_plan_7 : decode cL_plan 7 = .ok (.iload 4, 2) := by decide +kernel
theorem dL_plan_9 : decode cL_plan 9 = .ok (.iload 5, 2) := by decide +kernel
theorem dL_plan_11 : decode cL_plan 11 = .ok (.invokevirtual 84, 3) := by decide +kernel
theorem dL_plan_14 : decode cL_plan 14 = .ok (.i2l, 1) := by decide +kernel
theorem dL_plan_15 : decode cL_plan 15 = .ok (.lastore, 1) := by decide +kernel
theorem dL_plan_16 : decode cL_plan 16 = .ok (.goto 15, 3) := by decide +kernel
theorem dL_plan_19 : decode cL_plan 19 = .ok (.astore 7, 2) := by decide +kernel
theorem dL_plan_21 : decode cL_plan 21 = .ok (.iconst 1, 1) := by decide +kernel
theorem dL_plan_22 : decode cL_plan 22 = .ok (.ireturn, 1) := by decide +kernel
theorem dL_plan_23 : decode cL_plan 23 = .ok (.astore 7, 2) := by decide +kernel
theorem dL_plan_25 : decode cL_plan 25 = .ok (.iconst 2, 1) := by decide +kernel
theorem dL_plan_26 : decode cL_plan 26 = .ok (.ireturn, 1) := by decide +kernel
theorem dL_plan_27 : decode cL_plan 27 = .ok (.astore 7, 2) := by decide +kernel
theorem dL_plan_29 : decode cL_plan 29 = .ok (.iconst 3, 1) := by decide +kernel
theorem dL_plan_30 : decode cL_plan 30 = .ok (.ireturn, 1) := by decide +kernel
theorem dL_plan_31 : decode cL_plan 31 = .ok (.iconst 0, 1) := by decide +kernel
theorem dL_plan_32 : decode cL_plan 32 = .ok (.ireturn, 1) := by decide +kernel
theorem hs_L_plan : yL_plan.cls ≠ "java/lang/invoke/MethodHandle" ∧ yL_plan.cls ≠ "java/lang/invoke/VarHandle" ∧ (parseMethodDescriptor yL_plan.desc).map (fun d => d.parameters.length) = some 7 := by decide +kernel
set_option maxHeartbeats 4000000 in
set_option maxRecDepth 100000 in
theorem k_L_plan (l : Launch) (hls : l.stackTraces = false) (E : Ev) (K : Kd) (z : Nat) (a_0 : Option Nat) (a_1 : Int32) (a_2 : Int32) (a_3 : Int32) (a_4 : Int32) (a_5 : Int32) (a_6 : Option Nat) (w : Wd) {r : Int32} {w' : Wd} (hf : f_L_plan K a_0 a_1 a_2 a_3 a_4 a_5 a_6 w = some (r, w')) : Met l yL_plan (Cond.codeWith yL_plan cL_plan 8 (Option.some Jvm.ClassFile.FieldType.int) [(0, 16, 19, 29), (0, 16, 23, 13), (0, 16, 27, 58)] :: bt) ({ frames := 9, cells := 7, slots := 42, locals := 162 } : Room) (va_Pc [rv E a_0, .int a_1, .int a_2, .int a_3, .int a_4, .int a_5, rv E a_6] (HB E K w z)) (QW E K w' r) 7 42 (hA E) := by
  refine MetH_ofW (cc := cL_plan) (maxL := 8) (ret := (Option.some Jvm.ClassFile.FieldType.int)) (hh := [(0, 16, 19, 29), (0, 16, 23, 13), (0, 16, 27, 58)]) (by decide) rfl ?_
  intro p e s m args below meth c s₁ B hml htab hv
  obtain ⟨rfl, hz, hP, hKs, hT, hb0⟩ := hv
  have C : CX p l e s m _ meth c cL_plan 8 RL (Option.some Jvm.ClassFile.FieldType.int) E := ⟨B.exec, B.bytes, hml, findClass_of_methodNamed B.named, fun w h => atoms_spec (ws := Cond.codeWith yL_plan cL_plan 8 (Option.some Jvm.ClassFile.FieldType.int) [(0, 16, 19, 29), (0, 16, 23, 13), (0, 16, 27, 58)] :: bt) B.pre w (List.mem_cons_of_mem _ h), hKs, hT, by rw [hz]; exact hb0, B.notSynchronized, B.returns⟩
  have hH : HQ E K z w s s.heap [] := ⟨hP, va_S.rf, hz⟩
  obtain ⟨hx, hb, hml, hown, hts, hKs, hT, hb0, hlocks, hret⟩ := id C
  have hl := lv_entry [rv E a_0, .int a_1, .int a_2, .int a_3, .int a_4, .int a_5, rv E a_6] (n := 8) (by simp [lg_len_nil, lg_len_i, lg_len_j, lg_len_q, lg_len_f, lg_len_d, lg_len_r])
  rw [lg_entry_eq]
  generalize (lg_sl [rv E a_0, .int a_1, .int a_2, .int a_3, .int a_4, .int a_5, rv E a_6] ++ List.replicate (8 - (lg_sl [rv E a_0, .int a_1, .int a_2, .int a_3, .int a_4, .int a_5, rv E a_6]).length) Slot.unset).toArray = ls at hl ⊢
  replace hl : lv_has ls 8 [(0, rv E a_0), (1, .int a_1), (2, .int a_2), (3, .int a_3), (4, .int a_4), (5, .int a_5), (6, rv E a_6)] := by simpa only [lv_args, cat_q, cat_i, cat_j, reduceIte, Nat.reduceEqDiff, Nat.reduceAdd, Nat.zero_add] using hl
  generalize s.heap = H at hH ⊢
  unfold f_L_plan at hf
  refine hl_aload hx hb dL_plan_0 (lv_at hl 6 rfl) ?_
  refine lv_iconst (v := 0) hx hb dL_plan_2 (by decide) ?_
  refine hl_aload_n hx hb dL_plan_3 rfl (lv_at hl 0 rfl) ?_
  refine lv_iload_n hx hb dL_plan_4 rfl (lv_at hl 1 rfl) ?_
  refine lv_iload_n hx hb dL_plan_5 rfl (lv_at hl 2 rfl) ?_
  refine lv_iload_n hx hb dL_plan_6 rfl (lv_at hl 3 rfl) ?_
  refine lv_iload hx hb dL_plan_7 (lv_at hl 4 rfl) ?_
  refine lv_iload hx hb dL_plan_9 (lv_at hl 5 rfl) ?_
  obtain ⟨a1, ha1, hf⟩ := bnd hf
  replace ha1 := chk_some ha1
  obtain ⟨q2, hq2, hf⟩ := bnd hf
  refine hxC_i hx hb hml hown hts hKs hT hb0 hH (As := [.int a_1, .int a_2, .int a_3, .int a_4, .int a_5]) (rest := [.int 0, rv E a_6]) (k_X12_plan l hls E K H.size a1 a_1 a_2 a_3 a_4 a_5 w ha1.2 hq2) (gV m6_60 m6_61 m6_62 m1_1 m6_63) hd_X12_plan ⟨Nat.le_of_ble_eq_true rfl, Nat.le_of_ble_eq_true rfl, rfl, rfl⟩ ha1.1 ha1.2 rfl rfl rfl hl.1 rfl (rcI (rcV rc0)) rfl dL_plan_11 ⟨Nat.le_of_ble_eq_true rfl, Nat.le_of_ble_eq_true rfl⟩ (fun c4 hc4 H locs q9 ce9 hH hc9 hv9 hf9 => ?_) (fun v3 hv3 H locs hH => ?_)
  · replace hf := (xh_inr hc4).symm.trans hf
    by_cases h5 : c4 = 1
    · subst h5
      replace hf := (if_pos rfl).symm.trans hf
      refine vx_catch (name := "java/lang/IndexOutOfBoundsException") hown [] ⟨0, 16, 19, 29⟩ [⟨0, 16, 23, 13⟩, ⟨0, 16, 27, 58⟩] htab pass0 (by decide) (by decide) (hts _ m5_85) (va_Nw.use rfl (hKs.2.1 _ m5_96)) hc9 hv9 hf9 ?_
      refine lv_astore (i := 7) (lv' := [(7, .ref q9), (0, rv E a_0), (1, .int a_1), (2, .int a_2), (3, .int a_3), (4, .int a_4), (5, .int a_5), (6, rv E a_6)]) hx hb dL_plan_19 hl (by decide) (by simp [List.filter_cons, cat_q, cat_i, cat_j, imax, imin]) (fun ls hl => ?_)
      refine lv_iconst (v := 1) hx hb dL_plan_21 (by decide) ?_
      exact hw_wret hx hb (Nat.le_of_ble_eq_true rfl) (Nat.le_of_ble_eq_true rfl) hret hf hH hlocks dL_plan_22
    replace hf := (if_neg h5).symm.trans hf
    by_cases h6 : c4 = 2
    · subst h6
      replace hf := (if_pos rfl).symm.trans hf
      refine vx_catch (name := "java/lang/IllegalArgumentException") hown [⟨0, 16, 19, 29⟩] ⟨0, 16, 23, 13⟩ [⟨0, 16, 27, 58⟩] htab (pass1 (Or.inr ⟨by decide, "java/lang/IndexOutOfBoundsException", hts _ m5_85, hKs.2.2.2.1 ("java/lang/IllegalArgumentException", "java/lang/IndexOutOfBoundsException") (by decide)⟩) pass0) (by decide) (by decide) (hts _ m4_212) (va_Nw.use rfl (hKs.2.1 _ m4_219)) hc9 hv9 hf9 ?_
      refine lv_astore (i := 7) (lv' := [(7, .ref q9), (0, rv E a_0), (1, .int a_1), (2, .int a_2), (3, .int a_3), (4, .int a_4), (5, .int a_5), (6, rv E a_6)]) hx hb dL_plan_23 hl (by decide) (by simp [List.filter_cons, cat_q, cat_i, cat_j, imax, imin]) (fun ls hl => ?_)
      refine lv_iconst (v := 2) hx hb dL_plan_25 (by decide) ?_
      exact hw_wret hx hb (Nat.le_of_ble_eq_true rfl) (Nat.le_of_ble_eq_true rfl) hret hf hH hlocks dL_plan_26
    replace hf := (if_neg h6).symm.trans hf
    by_cases h7 : c4 = 3
    · subst h7
      replace hf := (if_pos rfl).symm.trans hf
      refine vx_catch (name := "java/lang/IllegalStateException") hown [⟨0, 16, 19, 29⟩, ⟨0, 16, 23, 13⟩] ⟨0, 16, 27, 58⟩ [] htab (pass1 (Or.inr ⟨by decide, "java/lang/IndexOutOfBoundsException", hts _ m5_85, hKs.2.2.2.1 ("java/lang/IllegalStateException", "java/lang/IndexOutOfBoundsException") (by decide)⟩) (pass1 (Or.inr ⟨by decide, "java/lang/IllegalArgumentException", hts _ m4_212, hKs.2.2.2.1 ("java/lang/IllegalStateException", "java/lang/IllegalArgumentException") (by decide)⟩) pass0)) (by decide) (by decide) (hts _ m5_181) (va_Nw.use rfl (hKs.2.1 _ m5_196)) hc9 hv9 hf9 ?_
      refine lv_astore (i := 7) (lv' := [(7, .ref q9), (0, rv E a_0), (1, .int a_1), (2, .int a_2), (3, .int a_3), (4, .int a_4), (5, .int a_5), (6, rv E a_6)]) hx hb dL_plan_27 hl (by decide) (by simp [List.filter_cons, cat_q, cat_i, cat_j, imax, imin]) (fun ls hl => ?_)
      refine lv_iconst (v := 3) hx hb dL_plan_29 (by decide) ?_
      exact hw_wret hx hb (Nat.le_of_ble_eq_true rfl) (Nat.le_of_ble_eq_true rfl) hret hf hH hlocks dL_plan_30
    replace hf := (if_neg h7).symm.trans hf
    cases hf
  · replace hf := (xh_inl hv3).symm.trans hf
    refine lv_i2l (v := (v3.toInt64)) hx hb dL_plan_14 rfl ?_
    obtain ⟨a8, ha8, hf⟩ := bnd hf
    replace ha8 := cha_some ha8
    obtain ⟨j9, hj9, hf⟩ := bnd hf
    obtain ⟨w10, hw10, hf⟩ := bnd hf
    replace hw10 := Option.some.inj hw10
    refine hw_last (x := (v3.toInt64)) hx hb hKs hH ha8.1 ha8.2 hj9 dL_plan_15 (fun H locs hH => ?_)
    rw [hw10] at hH
    refine lv_goto (tgt := 31) hx hb dL_plan_16 (by decide) ?_
    refine lv_iconst (v := 0) hx hb dL_plan_31 (by decide) ?_
    exact hw_wret hx hb (Nat.le_of_ble_eq_true rfl) (Nat.le_of_ble_eq_true rfl) hret hf hH hlocks dL_plan_32

theorem dL_printDay_0 : decode cL_printDay 0 = .ok (.aload_n 2, 1) := by decide +kernel
theorem dL_printDay_1 : decode cL_printDay 1 = .ok (.iconst 0, 1) := by decide +kernel
theorem dL_printDay_2 : decode cL_printDay 2 = .ok (.aload_n 0, 1) := by decide +kernel
theorem dL_printDay_3 : decode cL_printDay 3 = .ok (.iload_n 1, 1) := by decide +kernel
theorem dL_printDay_4 : decode cL_printDay 4 = .ok (.invokevirtual 109, 3) := by decide +kernel
theorem dL_printDay_7 : decode cL_printDay 7 = .ok (.i2l, 1) := by decide +kernel
theorem dL_printDay_8 : decode cL_printDay 8 = .ok (.lastore, 1) := by decide +kernel
theorem dL_printDay_9 : decode cL_printDay 9 = .ok (.goto 6, 3) := by decide +kernel
theorem dL_printDay_12 : decode cL_printDay 12 = .ok (.astore_n 3, 1) := by decide +kernel
theorem dL_printDay_13 : decode cL_printDay 13 = .ok (.iconst 1, 1) := by decide +kernel
theorem dL_printDay_14 : decode cL_printDay 14 = .ok (.ireturn, 1) := by decide +kernel
theorem dL_printDay_15 : decode cL_printDay 15 = .ok (.iconst 0, 1) := by decide +kernel
theorem dL_printDay_16 : decode cL_printDay 16 = .ok (.ireturn, 1) := by decide +kernel
theorem hs_L_printDay : yL_printDay.cls ≠ "java/lang/invoke/MethodHandle" ∧ yL_printDay.cls ≠ "java/lang/invoke/VarHandle" ∧ (parseMethodDescriptor yL_printDay.desc).map (fun d => d.parameters.length) = some 3 := by decide +kernel
set_option maxHeartbeats 4000000 in
set_option maxRecDepth 100000 in
theorem k_L_printDay (l : Launch) (hls : l.stackTraces = false) (E : Ev) (K : Kd) (z : Nat) (a_0 : Option Nat) (a_1 : Int32) (a_2 : Option Nat) (w : Wd) {r : Int32} {w' : Wd} (hf : f_L_printDay K a_0 a_1 a_2 w = some (r, w')) : Met l yL_printDay (Cond.codeWith yL_printDay cL_printDay 4 (Option.some Jvm.ClassFile.FieldType.int) [(0, 9, 12, 13)] :: bt) ({ frames := 8, cells := 1, slots := 6, locals := 135 } : Room) (va_Pc [rv E a_0, .int a_1, rv E a_2] (HB E K w z)) (QW E K w' r) 1 6 (hA E) := by
  refine MetH_ofW (cc := cL_printDay) (maxL := 4) (ret := (Option.some Jvm.ClassFile.FieldType.int)) (hh := [(0, 9, 12, 13)]) (by decide) rfl ?_
  intro p e s m args below meth c s₁ B hml htab hv
  obtain ⟨rfl, hz, hP, hKs, hT, hb0⟩ := hv
  have C : CX p l e s m _ meth c cL_printDay 4 RL (Option.some Jvm.ClassFile.FieldType.int) E := ⟨B.exec, B.bytes, hml, findClass_of_methodNamed B.named, fun w h => atoms_spec (ws := Cond.codeWith yL_printDay cL_printDay 4 (Option.some Jvm.ClassFile.FieldType.int) [(0, 9, 12, 13)] :: bt) B.pre w (List.mem_cons_of_mem _ h), hKs, hT, by rw [hz]; exact hb0, B.notSynchronized, B.returns⟩
  have hH : HQ E K z w s s.heap [] := ⟨hP, va_S.rf, hz⟩
  obtain ⟨hx, hb, hml, hown, hts, hKs, hT, hb0, hlocks, hret⟩ := id C
  have hl := lv_entry [rv E a_0, .int a_1, rv E a_2] (n := 4) (by simp [lg_len_nil, lg_len_i, lg_len_j, lg_len_q, lg_len_f, lg_len_d, lg_len_r])
  rw [lg_entry_eq]
  generalize (lg_sl [rv E a_0, .int a_1, rv E a_2] ++ List.replicate (4 - (lg_sl [rv E a_0, .int a_1, rv E a_2]).length) Slot.unset).toArray = ls at hl ⊢
  replace hl : lv_has ls 4 [(0, rv E a_0), (1, .int a_1), (2, rv E a_2)] := by simpa only [lv_args, cat_q, cat_i, cat_j, reduceIte, Nat.reduceEqDiff, Nat.reduceAdd, Nat.zero_add] using hl
  generalize s.heap = H at hH ⊢
  unfold f_L_printDay at hf
  refine hl_aload_n hx hb dL_printDay_0 rfl (lv_at hl 2 rfl) ?_
  refine lv_iconst (v := 0) hx hb dL_printDay_1 (by decide) ?_
  refine hl_aload_n hx hb dL_printDay_2 rfl (lv_at hl 0 rfl) ?_
  refine lv_iload_n hx hb dL_printDay_3 rfl (lv_at hl 1 rfl) ?_
  obtain ⟨a1, ha1, hf⟩ := bnd hf
  replace ha1 := chk_some ha1
  obtain ⟨q2, hq2, hf⟩ := bnd hf
  refine hxC_i hx hb hml hown hts hKs hT hb0 hH (As := [.int a_1]) (rest := [.int 0, rv E a_2]) (k_X12_printDay l hls E K H.size a1 a_1 w ha1.2 hq2) (gV m6_134 m6_135 m6_136 m1_1 m6_137) hd_X12_printDay ⟨Nat.le_of_ble_eq_true rfl, Nat.le_of_ble_eq_true rfl, rfl, rfl⟩ ha1.1 ha1.2 rfl rfl rfl hl.1 rfl (rcI (rcV rc0)) rfl dL_printDay_4 ⟨Nat.le_of_ble_eq_true rfl, Nat.le_of_ble_eq_true rfl⟩ (fun c4 hc4 H locs q9 ce9 hH hc9 hv9 hf9 => ?_) (fun v3 hv3 H locs hH => ?_)
  · replace hf := (xh_inr hc4).symm.trans hf
    by_cases h5 : c4 = 2
    · subst h5
      replace hf := (if_pos rfl).symm.trans hf
      refine vx_catch (name := "java/lang/IllegalArgumentException") hown [] ⟨0, 9, 12, 13⟩ [] htab pass0 (by decide) (by decide) (hts _ m4_212) (va_Nw.use rfl (hKs.2.1 _ m4_219)) hc9 hv9 hf9 ?_
      refine lv_astore_n (i := 3) (lv' := [(3, .ref q9), (0, rv E a_0), (1, .int a_1), (2, rv E a_2)]) hx hb dL_printDay_12 rfl hl (by decide) (by simp [List.filter_cons, cat_q, cat_i, cat_j, imax, imin]) (fun ls hl => ?_)
      refine lv_iconst (v := 1) hx hb dL_printDay_13 (by decide) ?_
      exact hw_wret hx hb (Nat.le_of_ble_eq_true rfl) (Nat.le_of_ble_eq_true rfl) hret hf hH hlocks dL_printDay_14
    replace hf := (if_neg h5).symm.trans hf
    cases hf
  · replace hf := (xh_inl hv3).symm.trans hf
    refine lv_i2l (v := (v3.toInt64)) hx hb dL_printDay_7 rfl ?_
    obtain ⟨a6, ha6, hf⟩ := bnd hf
    replace ha6 := cha_some ha6
    obtain ⟨j7, hj7, hf⟩ := bnd hf
    obtain ⟨w8, hw8, hf⟩ := bnd hf
    replace hw8 := Option.some.inj hw8
    refine hw_last (x := (v3.toInt64)) hx hb hKs hH ha6.1 ha6.2 hj7 dL_printDay_8 (fun H locs hH => ?_)
    rw [hw8] at hH
    refine lv_goto (tgt := 15) hx hb dL_printDay_9 (by decide) ?_
    refine lv_iconst (v := 0) hx hb dL_printDay_15 (by decide) ?_
    exact hw_wret hx hb (Nat.le_of_ble_eq_true rfl) (Nat.le_of_ble_eq_true rfl) hret hf hH hlocks dL_printDay_16

theorem dX12_init_0 : decode cX12_init 0 = .ok (.aload_n 0, 1) := by decide +kernel
theorem dX12_init_1 : decode cX12_init 1 = .ok (.invokespecial 3, 3) := by decide +kernel
theorem dX12_init_4 : decode cX12_init 4 = .ok (.new 9, 3) := by decide +kernel
theorem dX12_init_7 : decode cX12_init 7 = .ok (.dup, 1) := by decide +kernel
theorem dX12_init_8 : decode cX12_init 8 = .ok (.invokespecial 11, 3) := by decide +kernel
theorem dX12_init_11 : decode cX12_init 11 = .ok (.astore_n 1, 1) := by decide +kernel
theorem dX12_init_12 : decode cX12_init 12 = .ok (.aload_n 0, 1) := by decide +kernel
theorem dX12_init_13 : decode cX12_init 13 = .ok (.sipush 900, 3) := by decide +kernel
theorem dX12_init_16 : decode cX12_init 16 = .ok (.newarray .byte, 2) := by decide +kernel
theorem dX12_init_18 : decode cX12_init 18 = .ok (.putfield 12, 3) := by decide +kernel
theorem dX12_init_21 : decode cX12_init 21 = .ok (.aload_n 0, 1) := by decide +kernel
theorem dX12_init_22 : decode cX12_init 22 = .ok (.new 16, 3) := by decide +kernel
theorem dX12_init_25 : decode cX12_init 25 = .ok (.dup, 1) := by decide +kernel
theorem dX12_init_26 : decode cX12_init 26 = .ok (.invokespecial 18, 3) := by decide +kernel
theorem dX12_init_29 : decode cX12_init 29 = .ok (.putfield 19, 3) := by decide +kernel
theorem dX12_init_32 : decode cX12_init 32 = .ok (.aload_n 0, 1) := by decide +kernel
theorem dX12_init_33 : decode cX12_init 33 = .ok (.iconst 0, 1) := by decide +kernel
theorem dX12_init_34 : decode cX12_init 34 = .ok (.putfield 23, 3) := by decide +kernel
theorem dX12_init_37 : decode cX12_init 37 = .ok (.aload_n 0, 1) := by decide +kernel
theorem dX12_init_38 : decode cX12_init 38 = .ok (.iconst (-1), 1) := by decide +kernel
theorem dX12_init_39 : decode cX12_init 39 = .ok (.putfield 27, 3) := by decide +kernel
theorem dX12_init_42 : decode cX12_init 42 = .ok (.aload_n 0, 1) := by decide +kernel
theorem dX12_init_43 : decode cX12_init 43 = .ok (.new 30, 3) := by decide +kernel
theorem dX12_init_46 : decode cX12_init 46 = .ok (.dup, 1) := by decide +kernel
theorem dX12_init_47 : decode cX12_init 47 = .ok (.aload_n 1, 1) := by decide +kernel
theorem dX12_init_48 : decode cX12_init 48 = .ok (.invokespecial 32, 3) := by decide +kernel
theorem dX12_init_51 : decode cX12_init 51 = .ok (.putfield 35, 3) := by decide +kernel
theorem dX12_init_54 : decode cX12_init 54 = .ok (.aload_n 0, 1) := by decide +kernel
theorem dX12_init_55 : decode cX12_init 55 = .ok (.new 30, 3) := by decide +kernel
theorem dX12_init_58 : decode cX12_init 58 = .ok (.dup, 1) := by decide +kernel
theorem dX12_init_59 : decode cX12_init 59 = .ok (.aload_n 1, 1) := by decide +kernel
theorem dX12_init_60 : decode cX12_init 60 = .ok (.invokespecial 32, 3) := by decide +kernel
theorem dX12_init_63 : decode cX12_init 63 = .ok (.putfield 39, 3) := by decide +kernel
theorem dX12_init_66 : decode cX12_init 66 = .ok (.aload_n 0, 1) := by decide +kernel
theorem dX12_init_67 : decode cX12_init 67 = .ok (.new 30, 3) := by decide +kernel
theorem dX12_init_70 : decode cX12_init 70 = .ok (.dup, 1) := by decide +kernel
theorem dX12_init_71 : decode cX12_init 71 = .ok (.aload_n 1, 1) := by decide +kernel
theorem dX12_init_72 : decode cX12_init 72 = .ok (.invokespecial 32, 3) := by decide +kernel
theorem dX12_init_75 : decode cX12_init 75 = .ok (.putfield 42, 3) := by decide +kernel
theorem dX12_init_78 : decode cX12_init 78 = .ok (.aload_n 0, 1) := by decide +kernel
theorem dX12_init_79 : decode cX12_init 79 = .ok (.bipush 8, 2) := by decide +kernel
theorem dX12_init_81 : decode cX12_init 81 = .ok (.anewarray 30, 3) := by decide +kernel
theorem dX12_init_84 : decode cX12_init 84 = .ok (.putfield 45, 3) := by decide +kernel
theorem dX12_init_87 : decode cX12_init 87 = .ok (.iconst 0, 1) := by decide +kernel
theorem dX12_init_88 : decode cX12_init 88 = .ok (.istore_n 2, 1) := by decide +kernel
theorem dX12_init_89 : decode cX12_init 89 = .ok (.iload_n 2, 1) := by decide +kernel
theorem dX12_init_90 : decode cX12_init 90 = .ok (.bipush 8, 2) := by decide +kernel
theorem dX12_init_92 : decode cX12_init 92 = .ok (.if_icmp .ge 23, 3) := by decide +kernel
theorem dX12_init_95 : decode cX12_init 95 = .ok (.aload_n 0, 1) := by decide +kernel
theorem dX12_init_96 : decode cX12_init 96 = .ok (.getfield 45, 3) := by decide +kernel
theorem dX12_init_99 : decode cX12_init 99 = .ok (.iload_n 2, 1) := by decide +kernel
theorem dX12_init_100 : decode cX12_init 100 = .ok (.new 30, 3) := by decide +kernel
theorem dX12_init_103 : decode cX12_init 103 = .ok (.dup, 1) := by decide +kernel
theorem dX12_init_104 : decode cX12_init 104 = .ok (.aload_n 1, 1) := by decide +kernel
theorem dX12_init_105 : decode cX12_init 105 = .ok (.invokespecial 32, 3) := by decide +kernel
theorem dX12_init_108 : decode cX12_init 108 = .ok (.aastore, 1) := by decide +kernel
theorem dX12_init_109 : decode cX12_init 109 = .ok (.iinc 2 1, 3) := by decide +kernel
theorem dX12_init_112 : decode cX12_init 112 = .ok (.goto (-23), 3) := by decide +kernel
theorem dX12_init_115 : decode cX12_init 115 = .ok (.aload_n 0, 1) := by decide +kernel
theorem dX12_init_116 : decode cX12_init 116 = .ok (.new 49, 3) := by decide +kernel
theorem dX12_init_119 : decode cX12_init 119 = .ok (.dup, 1) := by decide +kernel
theorem dX12_init_120 : decode cX12_init 120 = .ok (.invokespecial 51, 3) := by decide +kernel
theorem dX12_init_123 : decode cX12_init 123 = .ok (.putfield 52, 3) := by decide +kernel
theorem dX12_init_126 : decode cX12_init 126 = .ok (.aload_n 0, 1) := by decide +kernel
theorem dX12_init_127 : decode cX12_init 127 = .ok (.new 56, 3) := by decide +kernel
theorem dX12_init_130 : decode cX12_init 130 = .ok (.dup, 1) := by decide +kernel
theorem dX12_init_131 : decode cX12_init 131 = .ok (.invokespecial 58, 3) := by decide +kernel
theorem dX12_init_134 : decode cX12_init 134 = .ok (.putfield 59, 3) := by decide +kernel
theorem dX12_init_137 : decode cX12_init 137 = .ok (.aload_n 0, 1) := by decide +kernel
theorem dX12_init_138 : decode cX12_init 138 = .ok (.bipush 12, 2) := by decide +kernel
theorem dX12_init_140 : decode cX12_init 140 = .ok (.newarray .int, 2) := by decide +kernel
theorem dX12_init_142 : decode cX12_init 142 = .ok (.putfield 63, 3) := by decide +kernel
theorem dX12_init_145 : decode cX12_init 145 = .ok (.aload_n 0, 1) := by decide +kernel
theorem dX12_init_146 : decode cX12_init 146 = .ok (.sipush 348, 3) := by decide +kernel
theorem dX12_init_149 : decode cX12_init 149 = .ok (.newarray .byte, 2) := by decide +kernel
theorem dX12_init_151 : decode cX12_init 151 = .ok (.putfield 67, 3) := by decide +kernel
theorem dX12_init_154 : decode cX12_init 154 = .ok (.return_, 1) := by decide +kernel
theorem hd_X12_init : yX12_init.cls = RX12 ∧ yX12_init.cls ≠ "java/lang/invoke/MethodHandle" ∧ yX12_init.cls ≠ "java/lang/invoke/VarHandle" ∧ (parseMethodDescriptor yX12_init.desc).map (fun d => d.parameters.length) = some 0 := by decide +kernel
theorem hs_X12_init : yX12_init.cls ≠ "java/lang/invoke/MethodHandle" ∧ yX12_init.cls ≠ "java/lang/invoke/VarHandle" ∧ (parseMethodDescriptor yX12_init.desc).map (fun d => d.parameters.length) = some 0 := by decide +kernel
set_option maxHeartbeats 4000000 in
set_option maxRecDepth 100000 in
theorem k_X12_init (l : Launch) (E : Ev) (K : Kd) (n : Nat) (o : Nat) (w : Wd) {K' : Kd} {n' : Nat} {w' : Wd} (hf : f_X12_init K n o w = some (K', n', w')) : Met l yX12_init (Cond.code yX12_init cX12_init 3 (Option.none : Option Jvm.ClassFile.FieldType) :: bt) ({ frames := 5, cells := 414, slots := 6467, locals := 105 } : Room) (va_Pc [rv E (some o)] (HB E K w (E.2.1 + n))) (QV E K' (E.2.1 + n') w') 414 6467 (hA E) := by
  refine Met.ofW (cc := cX12_init) (maxL := 3) (ret := (Option.none : Option Jvm.ClassFile.FieldType)) (by decide) rfl ?_
  intro p e s m args below meth c s₁ B hml hv
  have hn2 : meth.name = "<init>" := (name_of_methodNamed B.named B.method).1
  obtain ⟨rfl, hz, hP, hKs, hT, hb0⟩ := hv
  have C : CX p l e s m _ meth c cX12_init 3 RX12 (Option.none : Option Jvm.ClassFile.FieldType) E := ⟨B.exec, B.bytes, hml, findClass_of_methodNamed B.named, fun w h => atoms_spec (ws := Cond.code yX12_init cX12_init 3 (Option.none : Option Jvm.ClassFile.FieldType) :: bt) B.pre w (List.mem_cons_of_mem _ h), hKs, hT, by rw [hz]; exact hb0, B.notSynchronized, B.returns⟩
  have hH : HQ E K (E.2.1 + n) w s s.heap [] := ⟨hP, va_S.rf, hz⟩
  obtain ⟨hx, hb, hml, hown, hts, hKs, hT, hb0, hlocks, hret⟩ := id C
  have hl := lv_entry [rv E (some o)] (n := 3) (by simp [lg_len_nil, lg_len_i, lg_len_j, lg_len_q, lg_len_f, lg_len_d, lg_len_r])
  rw [lg_entry_eq]
  generalize (lg_sl [rv E (some o)] ++ List.replicate (3 - (lg_sl [rv E (some o)]).length) Slot.unset).toArray = ls at hl ⊢
  replace hl : lv_has ls 3 [(0, rv E (some o))] := by simpa only [lv_args, cat_q, cat_i, cat_j, reduceIte, Nat.reduceEqDiff, Nat.reduceAdd, Nat.zero_add] using hl
  generalize s.heap = H at hH ⊢
  unfold f_X12_init at hf
  refine hl_aload_n hx hb dX12_init_0 rfl (lv_at hl 0 rfl) ?_
  refine hw_obj hx hb hml hl.1 hown hts m1_36 m1_37 m1_38 dX12_init_1 (Nat.le_of_ble_eq_true rfl) (Nat.le_of_ble_eq_true rfl) ?_
  refine hw_new (ci := 8) (C := RX9) (T := TX9) (N := 15) hx hb hts iX9 tyX9 tyX9_ok hown m1_39 (hts _ m1_40) m1_2 hKs hb0 hH rfl rfl (fun j hj => dfX9 j hj) (Nat.le_of_ble_eq_true rfl) (Nat.le_of_ble_eq_true rfl) dX12_init_4 (fun H hH => ?_)
  obtain ⟨K1, hK1, hf⟩ := bnd hf
  replace hK1 := Option.some.inj hK1
  obtain ⟨w2, hw2, hf⟩ := bnd hf
  replace hw2 := Option.some.inj hw2
  rw [hK1, hw2] at hH
  refine lv_dup hx hb dX12_init_7 rv_cat ?_
  obtain ⟨q3, hq3, hf⟩ := bnd hf
  refine hcA hH (va_runI (As := []) (rest := [rv E (some n)]) ⟨hx, hb, hml, hown, hts⟩ (k_X9_init l E K1 (n + 1) n w2 hq3) (cwI _ hts (gC m1_43) rfl rfl rfl (hts _ m1_2) (hts _ m1_41) (hts _ m1_42) rfl hs_X9_init ⟨Nat.le_of_ble_eq_true rfl, Nat.le_of_ble_eq_true rfl⟩) ⟨HB.blind, HB.preN hKs hT hb0 hH⟩ rfl rfl hl.1 rfl (lv_room (rcV rc0)) dX12_init_8 ⟨Nat.le_of_ble_eq_true rfl, Nat.le_of_ble_eq_true rfl⟩) (fun H locs hH => ?_)
  refine hl_astore_n (i := 1) (lv' := [(1, rv E (some n)), (0, rv E (some o))]) hx hb dX12_init_11 rfl hl (by decide) rfl (fun ls hl => ?_)
  refine hl_aload_n hx hb dX12_init_12 rfl (lv_at hl 1 rfl) ?_
  refine lv_sipush (v := 900) hx hb dX12_init_13 (by decide) ?_
  refine hw_newa21 (N := 900) hx hb hts m2_27 hKs hH (by decide) (by decide) (Nat.le_of_ble_eq_true rfl) (Nat.le_of_ble_eq_true rfl) (Nat.le_of_ble_eq_true rfl) dX12_init_16 (fun H hH => ?_)
  obtain ⟨K4, hK4, hf⟩ := bnd hf
  replace hK4 := Option.some.inj hK4
  obtain ⟨w5, hw5, hf⟩ := bnd hf
  replace hw5 := Option.some.inj hw5
  rw [hK4, hw5] at hH
  obtain ⟨a6, ha6, hf⟩ := bnd hf
  replace ha6 := chk_some ha6
  obtain ⟨w7, hw7, hf⟩ := bnd hf
  replace hw7 := Option.some.inj hw7
  refine pf12_0 (v := (some q3.2.1)) hx hb hts hown hKs hH ha6.1 ha6.2 hn2 m2_219 dX12_init_18 (fun H locs hH => ?_)
  rw [hw7] at hH
  refine hl_aload_n hx hb dX12_init_21 rfl (lv_at hl 1 rfl) ?_
  refine hw_new (ci := 4) (C := RX5) (T := TX5) (N := 7) hx hb hts iX5 tyX5 tyX5_ok hown m1_227 (hts _ m1_228) m1_8 hKs hb0 hH rfl rfl (fun j hj => dfX5 j hj) (Nat.le_of_ble_eq_true rfl) (Nat.le_of_ble_eq_true rfl) dX12_init_22 (fun H hH => ?_)
  obtain ⟨K8, hK8, hf⟩ := bnd hf
  replace hK8 := Option.some.inj hK8
  obtain ⟨w9, hw9, hf⟩ := bnd hf
  replace hw9 := Option.some.inj hw9
  rw [hK8, hw9] at hH
  refine lv_dup hx hb dX12_init_25 rv_cat ?_
  obtain ⟨q10, hq10, hf⟩ := bnd hf
  refine hcA hH (va_runIN (As := []) (rest := [rv E (some (q3.2.1 + 1)), rv E (some o)]) ⟨hx, hb, hml, hown, hts⟩ (k_X5_init l E K8 ((q3.2.1 + 1) + 1) (q3.2.1 + 1) w9 hq10) ⟨va_cnB _ hts (gC m1_231) rfl rfl rfl (hKs.2.1 _ m1_229) (hts _ m1_8) hs_X5_init ⟨Nat.le_of_ble_eq_true rfl, Nat.le_of_ble_eq_true rfl⟩, rfl, hts _ m1_230⟩ ⟨HB.blind, HB.preN hKs hT hb0 hH⟩ rfl rfl hl.1 rfl (lv_room (rcV (rcV rc0))) dX12_init_26 ⟨Nat.le_of_ble_eq_true rfl, Nat.le_of_ble_eq_true rfl⟩) (fun H locs hH => ?_)
  obtain ⟨a11, ha11, hf⟩ := bnd hf
  replace ha11 := chk_some ha11
  obtain ⟨w12, hw12, hf⟩ := bnd hf
  replace hw12 := Option.some.inj hw12
  refine pf12_2 (v := (some (q3.2.1 + 1))) hx hb hts hown hKs hH ha11.1 ha11.2 hn2 m2_221 dX12_init_29 (fun H locs hH => ?_)
  rw [hw12] at hH
  refine hl_aload_n hx hb dX12_init_32 rfl (lv_at hl 1 rfl) ?_
  refine lv_iconst (v := 0) hx hb dX12_init_33 (by decide) ?_
  obtain ⟨w13, hw13, hf⟩ := bnd hf
  replace hw13 := Option.some.inj hw13
  refine p12_3 (v := 0) hx hb hts hown hKs hH ha11.1 ha11.2 m2_222 dX12_init_34 (fun H locs hH => ?_)
  rw [hw13] at hH
  refine hl_aload_n hx hb dX12_init_37 rfl (lv_at hl 1 rfl) ?_
  refine lv_iconst (v := (-1)) hx hb dX12_init_38 (by decide) ?_
  obtain ⟨w14, hw14, hf⟩ := bnd hf
  replace hw14 := Option.some.inj hw14
  refine p12_4 (v := (-1)) hx hb hts hown hKs hH ha11.1 ha11.2 m2_223 dX12_init_39 (fun H locs hH => ?_)
  rw [hw14] at hH
  refine hl_aload_n hx hb dX12_init_42 rfl (lv_at hl 1 rfl) ?_
  refine hw_new (ci := 9) (C := RX10) (T := TX10) (N := 6) hx hb hts iX10 tyX10 tyX10_ok hown m2_54 (hts _ m2_55) m1_12 hKs hb0 hH rfl rfl (fun j hj => dfX10 j hj) (Nat.le_of_ble_eq_true rfl) (Nat.le_of_ble_eq_true rfl) dX12_init_43 (fun H hH => ?_)
  obtain ⟨K15, hK15, hf⟩ := bnd hf
  replace hK15 := Option.some.inj hK15
  obtain ⟨w16, hw16, hf⟩ := bnd hf
  replace hw16 := Option.some.inj hw16
  rw [hK15, hw16] at hH
  refine lv_dup hx hb dX12_init_46 rv_cat ?_
  refine hl_aload_n hx hb dX12_init_47 rfl (lv_at hl 0 rfl) ?_
  obtain ⟨q17, hq17, hf⟩ := bnd hf
  refine hcA hH (va_runI (As := [rv E (some n)]) (rest := [rv E (some q10.2.1), rv E (some o)]) ⟨hx, hb, hml, hown, hts⟩ (k_X10_init l E K15 (q10.2.1 + 1) q10.2.1 (some n) w16 hq17) (cwI _ hts (gC m2_58) rfl rfl rfl (hts _ m1_12) (hts _ m2_56) (hts _ m2_57) rfl hs_X10_init ⟨Nat.le_of_ble_eq_true rfl, Nat.le_of_ble_eq_true rfl⟩) ⟨HB.blind, HB.preN hKs hT hb0 hH⟩ rfl rfl hl.1 rfl (lv_room (rcV (rcV rc0))) dX12_init_48 ⟨Nat.le_of_ble_eq_true rfl, Nat.le_of_ble_eq_true rfl⟩) (fun H locs hH => ?_)
  obtain ⟨a18, ha18, hf⟩ := bnd hf
  replace ha18 := chk_some ha18
  obtain ⟨w19, hw19, hf⟩ := bnd hf
  replace hw19 := Option.some.inj hw19
  refine pf12_5 (v := (some q10.2.1)) hx hb hts hown hKs hH ha18.1 ha18.2 hn2 m2_224 dX12_init_51 (fun H locs hH => ?_)
  rw [hw19] at hH
  refine hl_aload_n hx hb dX12_init_54 rfl (lv_at hl 1 rfl) ?_
  refine hw_new (ci := 9) (C := RX10) (T := TX10) (N := 6) hx hb hts iX10 tyX10 tyX10_ok hown m2_54 (hts _ m2_55) m1_12 hKs hb0 hH rfl rfl (fun j hj => dfX10 j hj) (Nat.le_of_ble_eq_true rfl) (Nat.le_of_ble_eq_true rfl) dX12_init_55 (fun H hH => ?_)
  obtain ⟨K20, hK20, hf⟩ := bnd hf
  replace hK20 := Option.some.inj hK20
  obtain ⟨w21, hw21, hf⟩ := bnd hf
  replace hw21 := Option.some.inj hw21
  rw [hK20, hw21] at hH
  refine lv_dup hx hb dX12_init_58 rv_cat ?_
  refine hl_aload_n hx hb dX12_init_59 rfl (lv_at hl 0 rfl) ?_
  obtain ⟨q22, hq22, hf⟩ := bnd hf
  refine hcA hH (va_runI (As := [rv E (some n)]) (rest := [rv E (some q17.2.1), rv E (some o)]) ⟨hx, hb, hml, hown, hts⟩ (k_X10_init l E K20 (q17.2.1 + 1) q17.2.1 (some n) w21 hq22) (cwI _ hts (gC m2_58) rfl rfl rfl (hts _ m1_12) (hts _ m2_56) (hts _ m2_57) rfl hs_X10_init ⟨Nat.le_of_ble_eq_true rfl, Nat.le_of_ble_eq_true rfl⟩) ⟨HB.blind, HB.preN hKs hT hb0 hH⟩ rfl rfl hl.1 rfl (lv_room (rcV (rcV rc0))) dX12_init_60 ⟨Nat.le_of_ble_eq_true rfl, Nat.le_of_ble_eq_true rfl⟩) (fun H locs hH => ?_)
  obtain ⟨a23, ha23, hf⟩ := bnd hf
  replace ha23 := chk_some ha23
  obtain ⟨w24, hw24, hf⟩ := bnd hf
  replace hw24 := Option.some.inj hw24
  refine pf12_6 (v := (some q17.2.1)) hx hb hts hown hKs hH ha23.1 ha23.2 hn2 m2_225 dX12_init_63 (fun H locs hH => ?_)
  rw [hw24] at hH
  refine hl_aload_n hx hb dX12_init_66 rfl (lv_at hl 1 rfl) ?_
  refine hw_new (ci := 9) (C := RX10) (T := TX10) (N := 6) hx hb hts iX10 tyX10 tyX10_ok hown m2_54 (hts _ m2_55) m1_12 hKs hb0 hH rfl rfl (fun j hj => dfX10 j hj) (Nat.le_of_ble_eq_true rfl) (Nat.le_of_ble_eq_true rfl) dX12_init_67 (fun H hH => ?_)
  obtain ⟨K25, hK25, hf⟩ := bnd hf
  replace hK25 := Option.some.inj hK25
  obtain ⟨w26, hw26, hf⟩ := bnd hf
  replace hw26 := Option.some.inj hw26
  rw [hK25, hw26] at hH
  refine lv_dup hx hb dX12_init_70 rv_cat ?_
  refine hl_aload_n hx hb dX12_init_71 rfl (lv_at hl 0 rfl) ?_
  obtain ⟨q27, hq27, hf⟩ := bnd hf
  refine hcA hH (va_runI (As := [rv E (some n)]) (rest := [rv E (some q22.2.1), rv E (some o)]) ⟨hx, hb, hml, hown, hts⟩ (k_X10_init l E K25 (q22.2.1 + 1) q22.2.1 (some n) w26 hq27) (cwI _ hts (gC m2_58) rfl rfl rfl (hts _ m1_12) (hts _ m2_56) (hts _ m2_57) rfl hs_X10_init ⟨Nat.le_of_ble_eq_true rfl, Nat.le_of_ble_eq_true rfl⟩) ⟨HB.blind, HB.preN hKs hT hb0 hH⟩ rfl rfl hl.1 rfl (lv_room (rcV (rcV rc0))) dX12_init_72 ⟨Nat.le_of_ble_eq_true rfl, Nat.le_of_ble_eq_true rfl⟩) (fun H locs hH => ?_)
  obtain ⟨a28, ha28, hf⟩ := bnd hf
  replace ha28 := chk_some ha28
  obtain ⟨w29, hw29, hf⟩ := bnd hf
  replace hw29 := Option.some.inj hw29
  refine pf12_8 (v := (some q22.2.1)) hx hb hts hown hKs hH ha28.1 ha28.2 hn2 m2_227 dX12_init_75 (fun H locs hH => ?_)
  rw [hw29] at hH
  refine hl_aload_n hx hb dX12_init_78 rfl (lv_at hl 1 rfl) ?_
  refine lv_bipush (v := 8) hx hb dX12_init_79 (by decide) ?_
  refine hw_newq28 (N := 8) hx hb hts hown m2_54 (va_AO.use (hKs.2.2.2.2.2 _ (by decide))) hKs hH (by decide) (by decide) (Nat.le_of_ble_eq_true rfl) (Nat.le_of_ble_eq_true rfl) (Nat.le_of_ble_eq_true rfl) dX12_init_81 (fun H hH => ?_)
  obtain ⟨K30, hK30, hf⟩ := bnd hf
  replace hK30 := Option.some.inj hK30
  obtain ⟨w31, hw31, hf⟩ := bnd hf
  replace hw31 := Option.some.inj hw31
  rw [hK30, hw31] at hH
  obtain ⟨a32, ha32, hf⟩ := bnd hf
  replace ha32 := chk_some ha32
  obtain ⟨w33, hw33, hf⟩ := bnd hf
  replace hw33 := Option.some.inj hw33
  refine pf12_9 (v := (some q27.2.1)) hx hb hts hown hKs hH ha32.1 ha32.2 hn2 m2_228 dX12_init_84 (fun H locs hH => ?_)
  rw [hw33] at hH
  refine lv_iconst (v := 0) hx hb dX12_init_87 (by decide) ?_
  refine lv_istore_n (i := 2) (lv' := [(2, .int 0), (1, rv E (some n)), (0, rv E (some o))]) hx hb dX12_init_88 rfl hl (by decide) (by simp [List.filter_cons, cat_q, cat_i, cat_j, imax, imin]) (fun ls hl => ?_)
  refine lv_iload_n hx hb dX12_init_89 rfl (lv_at hl 0 rfl) ?_
  refine lv_bipush (v := 8) hx hb dX12_init_90 (by decide) ?_
  refine lv_icmp_ge (tgt := 115) hx hb dX12_init_92 (by decide) (fun c34 => ?_) (fun c34 => ?_)
  · exact (by revert c34; decide : False).elim
  · skip
    refine hl_aload_n hx hb dX12_init_95 rfl (lv_at hl 2 rfl) ?_
    refine g12_9 hx hb hts hown hKs hH ha32.1 ha32.2 m2_228 dX12_init_96 ?_
    refine lv_iload_n hx hb dX12_init_99 rfl (lv_at hl 0 rfl) ?_
    refine hw_new (ci := 9) (C := RX10) (T := TX10) (N := 6) hx hb hts iX10 tyX10 tyX10_ok hown m2_54 (hts _ m2_55) m1_12 hKs hb0 hH rfl rfl (fun j hj => dfX10 j hj) (Nat.le_of_ble_eq_true rfl) (Nat.le_of_ble_eq_true rfl) dX12_init_100 (fun H hH => ?_)
    obtain ⟨K35, hK35, hf⟩ := bnd hf
    replace hK35 := Option.some.inj hK35
    obtain ⟨w36, hw36, hf⟩ := bnd hf
    replace hw36 := Option.some.inj hw36
    rw [hK35, hw36] at hH
    refine lv_dup hx hb dX12_init_103 rv_cat ?_
    refine hl_aload_n hx hb dX12_init_104 rfl (lv_at hl 1 rfl) ?_
    obtain ⟨q37, hq37, hf⟩ := bnd hf
    refine hcA hH (va_runI (As := [rv E (some n)]) (rest := [rv E (some (q27.2.1 + 1)), .int 0, rv E (wR w33 1209 a32)]) ⟨hx, hb, hml, hown, hts⟩ (k_X10_init l E K35 ((q27.2.1 + 1) + 1) (q27.2.1 + 1) (some n) w36 hq37) (cwI _ hts (gC m2_58) rfl rfl rfl (hts _ m1_12) (hts _ m2_56) (hts _ m2_57) rfl hs_X10_init ⟨Nat.le_of_ble_eq_true rfl, Nat.le_of_ble_eq_true rfl⟩) ⟨HB.blind, HB.preN hKs hT hb0 hH⟩ rfl rfl hl.1 rfl (lv_room (rcV (rcI (rcV rc0)))) dX12_init_105 ⟨Nat.le_of_ble_eq_true rfl, Nat.le_of_ble_eq_true rfl⟩) (fun H locs hH => ?_)
    obtain ⟨a38, ha38, hf⟩ := bnd hf
    replace ha38 := cha_some ha38
    obtain ⟨j39, hj39, hf⟩ := bnd hf
    obtain ⟨a40, ha40, hf⟩ := bnd hf
    replace ha40 := chk_some ha40
    obtain ⟨w41, hw41, hf⟩ := bnd hf
    replace hw41 := Option.some.inj hw41
    refine hw_aast28 hx hb hKs hH ha38.1 ha38.2 ha40.1 ha40.2 hj39 dX12_init_108 (fun H locs hH => ?_)
    rw [hw41] at hH
    refine lv_iinc (v := 1) (lv' := [(2, .int 1), (1, rv E (some n)), (0, rv E (some o))]) hx hb dX12_init_109 hl (k := 0) rfl rfl (by decide) (by simp [List.filter_cons, cat_q, cat_i, cat_j, imax, imin]) (fun ls hl => ?_)
    refine lv_goto (tgt := 89) hx hb dX12_init_112 (by decide) ?_
    refine lv_iload_n hx hb dX12_init_89 rfl (lv_at hl 0 rfl) ?_
    refine lv_bipush (v := 8) hx hb dX12_init_90 (by decide) ?_
    refine lv_icmp_ge (tgt := 115) hx hb dX12_init_92 (by decide) (fun c42 => ?_) (fun c42 => ?_)
    · exact (by revert c42; decide : False).elim
    · skip
      refine hl_aload_n hx hb dX12_init_95 rfl (lv_at hl 2 rfl) ?_
      obtain ⟨a43, ha43, hf⟩ := bnd hf
      replace ha43 := chk_some ha43
      refine g12_9 hx hb hts hown hKs hH ha43.1 ha43.2 m2_228 dX12_init_96 ?_
      refine lv_iload_n hx hb dX12_init_99 rfl (lv_at hl 0 rfl) ?_
      refine hw_new (ci := 9) (C := RX10) (T := TX10) (N := 6) hx hb hts iX10 tyX10 tyX10_ok hown m2_54 (hts _ m2_55) m1_12 hKs hb0 hH rfl rfl (fun j hj => dfX10 j hj) (Nat.le_of_ble_eq_true rfl) (Nat.le_of_ble_eq_true rfl) dX12_init_100 (fun H hH => ?_)
      obtain ⟨K44, hK44, hf⟩ := bnd hf
      replace hK44 := Option.some.inj hK44
      obtain ⟨w45, hw45, hf⟩ := bnd hf
      replace hw45 := Option.some.inj hw45
      rw [hK44, hw45] at hH
      refine lv_dup hx hb dX12_init_103 rv_cat ?_
      refine hl_aload_n hx hb dX12_init_104 rfl (lv_at hl 1 rfl) ?_
      obtain ⟨q46, hq46, hf⟩ := bnd hf
      refine hcA hH (va_runI (As := [rv E (some n)]) (rest := [rv E (some q37.2.1), .int 1, rv E (wR w41 1209 a43)]) ⟨hx, hb, hml, hown, hts⟩ (k_X10_init l E K44 (q37.2.1 + 1) q37.2.1 (some n) w45 hq46) (cwI _ hts (gC m2_58) rfl rfl rfl (hts _ m1_12) (hts _ m2_56) (hts _ m2_57) rfl hs_X10_init ⟨Nat.le_of_ble_eq_true rfl, Nat.le_of_ble_eq_true rfl⟩) ⟨HB.blind, HB.preN hKs hT hb0 hH⟩ rfl rfl hl.1 rfl (lv_room (rcV (rcI (rcV rc0)))) dX12_init_105 ⟨Nat.le_of_ble_eq_true rfl, Nat.le_of_ble_eq_true rfl⟩) (fun H locs hH => ?_)
      obtain ⟨a47, ha47, hf⟩ := bnd hf
      replace ha47 := cha_some ha47
      obtain ⟨j48, hj48, hf⟩ := bnd hf
      obtain ⟨a49, ha49, hf⟩ := bnd hf
      replace ha49 := chk_some ha49
      obtain ⟨w50, hw50, hf⟩ := bnd hf
      replace hw50 := Option.some.inj hw50
      refine hw_aast28 hx hb hKs hH ha47.1 ha47.2 ha49.1 ha49.2 hj48 dX12_init_108 (fun H locs hH => ?_)
      rw [hw50] at hH
      refine lv_iinc (v := 2) (lv' := [(2, .int 2), (1, rv E (some n)), (0, rv E (some o))]) hx hb dX12_init_109 hl (k := 0) rfl rfl (by decide) (by simp [List.filter_cons, cat_q, cat_i, cat_j, imax, imin]) (fun ls hl => ?_)
      refine lv_goto (tgt := 89) hx hb dX12_init_112 (by decide) ?_
      refine lv_iload_n hx hb dX12_init_89 rfl (lv_at hl 0 rfl) ?_
      refine lv_bipush (v := 8) hx hb dX12_init_90 (by decide) ?_
      refine lv_icmp_ge (tgt := 115) hx hb dX12_init_92 (by decide) (fun c51 => ?_) (fun c51 => ?_)
      · exact (by revert c51; decide : False).elim
      · skip
        refine hl_aload_n hx hb dX12_init_95 rfl (lv_at hl 2 rfl) ?_
        obtain ⟨a52, ha52, hf⟩ := bnd hf
        replace ha52 := chk_some ha52
        refine g12_9 hx hb hts hown hKs hH ha52.1 ha52.2 m2_228 dX12_init_96 ?_
        refine lv_iload_n hx hb dX12_init_99 rfl (lv_at hl 0 rfl) ?_
        refine hw_new (ci := 9) (C := RX10) (T := TX10) (N := 6) hx hb hts iX10 tyX10 tyX10_ok hown m2_54 (hts _ m2_55) m1_12 hKs hb0 hH rfl rfl (fun j hj => dfX10 j hj) (Nat.le_of_ble_eq_true rfl) (Nat.le_of_ble_eq_true rfl) dX12_init_100 (fun H hH => ?_)
        obtain ⟨K53, hK53, hf⟩ := bnd hf
        replace hK53 := Option.some.inj hK53
        obtain ⟨w54, hw54, hf⟩ := bnd hf
        replace hw54 := Option.some.inj hw54
        rw [hK53, hw54] at hH
        refine lv_dup hx hb dX12_init_103 rv_cat ?_
        refine hl_aload_n hx hb dX12_init_104 rfl (lv_at hl 1 rfl) ?_
        obtain ⟨q55, hq55, hf⟩ := bnd hf
        refine hcA hH (va_runI (As := [rv E (some n)]) (rest := [rv E (some q46.2.1), .int 2, rv E (wR w50 1209 a52)]) ⟨hx, hb, hml, hown, hts⟩ (k_X10_init l E K53 (q46.2.1 + 1) q46.2.1 (some n) w54 hq55) (cwI _ hts (gC m2_58) rfl rfl rfl (hts _ m1_12) (hts _ m2_56) (hts _ m2_57) rfl hs_X10_init ⟨Nat.le_of_ble_eq_true rfl, Nat.le_of_ble_eq_true rfl⟩) ⟨HB.blind, HB.preN hKs hT hb0 hH⟩ rfl rfl hl.1 rfl (lv_room (rcV (rcI (rcV rc0)))) dX12_init_105 ⟨Nat.le_of_ble_eq_true rfl, Nat.le_of_ble_eq_true rfl⟩) (fun H locs hH => ?_)
        obtain ⟨a56, ha56, hf⟩ := bnd hf
        replace ha56 := cha_some ha56
        obtain ⟨j57, hj57, hf⟩ := bnd hf
        obtain ⟨a58, ha58, hf⟩ := bnd hf
        replace ha58 := chk_some ha58
        obtain ⟨w59, hw59, hf⟩ := bnd hf
        replace hw59 := Option.some.inj hw59
        refine hw_aast28 hx hb hKs hH ha56.1 ha56.2 ha58.1 ha58.2 hj57 dX12_init_108 (fun H locs hH => ?_)
        rw [hw59] at hH
        refine lv_iinc (v := 3) (lv' := [(2, .int 3), (1, rv E (some n)), (0, rv E (some o))]) hx hb dX12_init_109 hl (k := 0) rfl rfl (by decide) (by simp [List.filter_cons, cat_q, cat_i, cat_j, imax, imin]) (fun ls hl => ?_)
        refine lv_goto (tgt := 89) hx hb dX12_init_112 (by decide) ?_
        refine lv_iload_n hx hb dX12_init_89 rfl (lv_at hl 0 rfl) ?_
        refine lv_bipush (v := 8) hx hb dX12_init_90 (by decide) ?_
        refine lv_icmp_ge (tgt := 115) hx hb dX12_init_92 (by decide) (fun c60 => ?_) (fun c60 => ?_)
        · exact (by revert c60; decide : False).elim
        · skip
          refine hl_aload_n hx hb dX12_init_95 rfl (lv_at hl 2 rfl) ?_
          obtain ⟨a61, ha61, hf⟩ := bnd hf
          replace ha61 := chk_some ha61
          refine g12_9 hx hb hts hown hKs hH ha61.1 ha61.2 m2_228 dX12_init_96 ?_
          refine lv_iload_n hx hb dX12_init_99 rfl (lv_at hl 0 rfl) ?_
          refine hw_new (ci := 9) (C := RX10) (T := TX10) (N := 6) hx hb hts iX10 tyX10 tyX10_ok hown m2_54 (hts _ m2_55) m1_12 hKs hb0 hH rfl rfl (fun j hj => dfX10 j hj) (Nat.le_of_ble_eq_true rfl) (Nat.le_of_ble_eq_true rfl) dX12_init_100 (fun H hH => ?_)
          obtain ⟨K62, hK62, hf⟩ := bnd hf
          replace hK62 := Option.some.inj hK62
          obtain ⟨w63, hw63, hf⟩ := bnd hf
          replace hw63 := Option.some.inj hw63
          rw [hK62, hw63] at hH
          refine lv_dup hx hb dX12_init_103 rv_cat ?_
          refine hl_aload_n hx hb dX12_init_104 rfl (lv_at hl 1 rfl) ?_
          obtain ⟨q64, hq64, hf⟩ := bnd hf
          refine hcA hH (va_runI (As := [rv E (some n)]) (rest := [rv E (some q55.2.1), .int 3, rv E (wR w59 1209 a61)]) ⟨hx, hb, hml, hown, hts⟩ (k_X10_init l E K62 (q55.2.1 + 1) q55.2.1 (some n) w63 hq64) (cwI _ hts (gC m2_58) rfl rfl rfl (hts _ m1_12) (hts _ m2_56) (hts _ m2_57) rfl hs_X10_init ⟨Nat.le_of_ble_eq_true rfl, Nat.le_of_ble_eq_true rfl⟩) ⟨HB.blind, HB.preN hKs hT hb0 hH⟩ rfl rfl hl.1 rfl (lv_room (rcV (rcI (rcV rc0)))) dX12_init_105 ⟨Nat.le_of_ble_eq_true rfl, Nat.le_of_ble_eq_true rfl⟩) (fun H locs hH => ?_)
          obtain ⟨a65, ha65, hf⟩ := bnd hf
          replace ha65 := cha_some ha65
          obtain ⟨j66, hj66, hf⟩ := bnd hf
          obtain ⟨a67, ha67, hf⟩ := bnd hf
          replace ha67 := chk_some ha67
          obtain ⟨w68, hw68, hf⟩ := bnd hf
          replace hw68 := Option.some.inj hw68
          refine hw_aast28 hx hb hKs hH ha65.1 ha65.2 ha67.1 ha67.2 hj66 dX12_init_108 (fun H locs hH => ?_)
          rw [hw68] at hH
          refine lv_iinc (v := 4) (lv' := [(2, .int 4), (1, rv E (some n)), (0, rv E (some o))]) hx hb dX12_init_109 hl (k := 0) rfl rfl (by decide) (by simp [List.filter_cons, cat_q, cat_i, cat_j, imax, imin]) (fun ls hl => ?_)
          refine lv_goto (tgt := 89) hx hb dX12_init_112 (by decide) ?_
          refine lv_iload_n hx hb dX12_init_89 rfl (lv_at hl 0 rfl) ?_
          refine lv_bipush (v := 8) hx hb dX12_init_90 (by decide) ?_
          refine lv_icmp_ge (tgt := 115) hx hb dX12_init_92 (by decide) (fun c69 => ?_) (fun c69 => ?_)
          · exact (by revert c69; decide : False).elim
          · skip
            refine hl_aload_n hx hb dX12_init_95 rfl (lv_at hl 2 rfl) ?_
            obtain ⟨a70, ha70, hf⟩ := bnd hf
            replace ha70 := chk_some ha70
            refine g12_9 hx hb hts hown hKs hH ha70.1 ha70.2 m2_228 dX12_init_96 ?_
            refine lv_iload_n hx hb dX12_init_99 rfl (lv_at hl 0 rfl) ?_
            refine hw_new (ci := 9) (C := RX10) (T := TX10) (N := 6) hx hb hts iX10 tyX10 tyX10_ok hown m2_54 (hts _ m2_55) m1_12 hKs hb0 hH rfl rfl (fun j hj => dfX10 j hj) (Nat.le_of_ble_eq_true rfl) (Nat.le_of_ble_eq_true rfl) dX12_init_100 (fun H hH => ?_)
            obtain ⟨K71, hK71, hf⟩ := bnd hf
            replace hK71 := Option.some.inj hK71
            obtain ⟨w72, hw72, hf⟩ := bnd hf
            replace hw72 := Option.some.inj hw72
            rw [hK71, hw72] at hH
            refine lv_dup hx hb dX12_init_103 rv_cat ?_
            refine hl_aload_n hx hb dX12_init_104 rfl (lv_at hl 1 rfl) ?_
            obtain ⟨q73, hq73, hf⟩ := bnd hf
            refine hcA hH (va_runI (As := [rv E (some n)]) (rest := [rv E (some q64.2.1), .int 4, rv E (wR w68 1209 a70)]) ⟨hx, hb, hml, hown, hts⟩ (k_X10_init l E K71 (q64.2.1 + 1) q64.2.1 (some n) w72 hq73) (cwI _ hts (gC m2_58) rfl rfl rfl (hts _ m1_12) (hts _ m2_56) (hts _ m2_57) rfl hs_X10_init ⟨Nat.le_of_ble_eq_true rfl, Nat.le_of_ble_eq_true rfl⟩) ⟨HB.blind, HB.preN hKs hT hb0 hH⟩ rfl rfl hl.1 rfl (lv_room (rcV (rcI (rcV rc0)))) dX12_init_105 ⟨Nat.le_of_ble_eq_true rfl, Nat.le_of_ble_eq_true rfl⟩) (fun H locs hH => ?_)
            obtain ⟨a74, ha74, hf⟩ := bnd hf
            replace ha74 := cha_some ha74
            obtain ⟨j75, hj75, hf⟩ := bnd hf
            obtain ⟨a76, ha76, hf⟩ := bnd hf
            replace ha76 := chk_some ha76
            obtain ⟨w77, hw77, hf⟩ := bnd hf
            replace hw77 := Option.some.inj hw77
            refine hw_aast28 hx hb hKs hH ha74.1 ha74.2 ha76.1 ha76.2 hj75 dX12_init_108 (fun H locs hH => ?_)
            rw [hw77] at hH
            refine lv_iinc (v := 5) (lv' := [(2, .int 5), (1, rv E (some n)), (0, rv E (some o))]) hx hb dX12_init_109 hl (k := 0) rfl rfl (by decide) (by simp [List.filter_cons, cat_q, cat_i, cat_j, imax, imin]) (fun ls hl => ?_)
            refine lv_goto (tgt := 89) hx hb dX12_init_112 (by decide) ?_
            refine lv_iload_n hx hb dX12_init_89 rfl (lv_at hl 0 rfl) ?_
            refine lv_bipush (v := 8) hx hb dX12_init_90 (by decide) ?_
            refine lv_icmp_ge (tgt := 115) hx hb dX12_init_92 (by decide) (fun c78 => ?_) (fun c78 => ?_)
            · exact (by revert c78; decide : False).elim
            · skip
              refine hl_aload_n hx hb dX12_init_95 rfl (lv_at hl 2 rfl) ?_
              obtain ⟨a79, ha79, hf⟩ := bnd hf
              replace ha79 := chk_some ha79
              refine g12_9 hx hb hts hown hKs hH ha79.1 ha79.2 m2_228 dX12_init_96 ?_
              refine lv_iload_n hx hb dX12_init_99 rfl (lv_at hl 0 rfl) ?_
              refine hw_new (ci := 9) (C := RX10) (T := TX10) (N := 6) hx hb hts iX10 tyX10 tyX10_ok hown m2_54 (hts _ m2_55) m1_12 hKs hb0 hH rfl rfl (fun j hj => dfX10 j hj) (Nat.le_of_ble_eq_true rfl) (Nat.le_of_ble_eq_true rfl) dX12_init_100 (fun H hH => ?_)
              obtain ⟨K80, hK80, hf⟩ := bnd hf
              replace hK80 := Option.some.inj hK80
              obtain ⟨w81, hw81, hf⟩ := bnd hf
              replace hw81 := Option.some.inj hw81
              rw [hK80, hw81] at hH
              refine lv_dup hx hb dX12_init_103 rv_cat ?_
              refine hl_aload_n hx hb dX12_init_104 rfl (lv_at hl 1 rfl) ?_
              obtain ⟨q82, hq82, hf⟩ := bnd hf
              refine hcA hH (va_runI (As := [rv E (some n)]) (rest := [rv E (some q73.2.1), .int 5, rv E (wR w77 1209 a79)]) ⟨hx, hb, hml, hown, hts⟩ (k_X10_init l E K80 (q73.2.1 + 1) q73.2.1 (some n) w81 hq82) (cwI _ hts (gC m2_58) rfl rfl rfl (hts _ m1_12) (hts _ m2_56) (hts _ m2_57) rfl hs_X10_init ⟨Nat.le_of_ble_eq_true rfl, Nat.le_of_ble_eq_true rfl⟩) ⟨HB.blind, HB.preN hKs hT hb0 hH⟩ rfl rfl hl.1 rfl (lv_room (rcV (rcI (rcV rc0)))) dX12_init_105 ⟨Nat.le_of_ble_eq_true rfl, Nat.le_of_ble_eq_true rfl⟩) (fun H locs hH => ?_)
              obtain ⟨a83, ha83, hf⟩ := bnd hf
              replace ha83 := cha_some ha83
              obtain ⟨j84, hj84, hf⟩ := bnd hf
              obtain ⟨a85, ha85, hf⟩ := bnd hf
              replace ha85 := chk_some ha85
              obtain ⟨w86, hw86, hf⟩ := bnd hf
              replace hw86 := Option.some.inj hw86
              refine hw_aast28 hx hb hKs hH ha83.1 ha83.2 ha85.1 ha85.2 hj84 dX12_init_108 (fun H locs hH => ?_)
              rw [hw86] at hH
              refine lv_iinc (v := 6) (lv' := [(2, .int 6), (1, rv E (some n)), (0, rv E (some o))]) hx hb dX12_init_109 hl (k := 0) rfl rfl (by decide) (by simp [List.filter_cons, cat_q, cat_i, cat_j, imax, imin]) (fun ls hl => ?_)
              refine lv_goto (tgt := 89) hx hb dX12_init_112 (by decide) ?_
              refine lv_iload_n hx hb dX12_init_89 rfl (lv_at hl 0 rfl) ?_
              refine lv_bipush (v := 8) hx hb dX12_init_90 (by decide) ?_
              refine lv_icmp_ge (tgt := 115) hx hb dX12_init_92 (by decide) (fun c87 => ?_) (fun c87 => ?_)
              · exact (by revert c87; decide : False).elim
              · skip
                refine hl_aload_n hx hb dX12_init_95 rfl (lv_at hl 2 rfl) ?_
                obtain ⟨a88, ha88, hf⟩ := bnd hf
                replace ha88 := chk_some ha88
                refine g12_9 hx hb hts hown hKs hH ha88.1 ha88.2 m2_228 dX12_init_96 ?_
                refine lv_iload_n hx hb dX12_init_99 rfl (lv_at hl 0 rfl) ?_
                refine hw_new (ci := 9) (C := RX10) (T := TX10) (N := 6) hx hb hts iX10 tyX10 tyX10_ok hown m2_54 (hts _ m2_55) m1_12 hKs hb0 hH rfl rfl (fun j hj => dfX10 j hj) (Nat.le_of_ble_eq_true rfl) (Nat.le_of_ble_eq_true rfl) dX12_init_100 (fun H hH => ?_)
                obtain ⟨K89, hK89, hf⟩ := bnd hf
                replace hK89 := Option.some.inj hK89
                obtain ⟨w90, hw90, hf⟩ := bnd hf
                replace hw90 := Option.some.inj hw90
                rw [hK89, hw90] at hH
                refine lv_dup hx hb dX12_init_103 rv_cat ?_
                refine hl_aload_n hx hb dX12_init_104 rfl (lv_at hl 1 rfl) ?_
                obtain ⟨q91, hq91, hf⟩ := bnd hf
                refine hcA hH (va_runI (As := [rv E (some n)]) (rest := [rv E (some q82.2.1), .int 6, rv E (wR w86 1209 a88)]) ⟨hx, hb, hml, hown, hts⟩ (k_X10_init l E K89 (q82.2.1 + 1) q82.2.1 (some n) w90 hq91) (cwI _ hts (gC m2_58) rfl rfl rfl (hts _ m1_12) (hts _ m2_56) (hts _ m2_57) rfl hs_X10_init ⟨Nat.le_of_ble_eq_true rfl, Nat.le_of_ble_eq_true rfl⟩) ⟨HB.blind, HB.preN hKs hT hb0 hH⟩ rfl rfl hl.1 rfl (lv_room (rcV (rcI (rcV rc0)))) dX12_init_105 ⟨Nat.le_of_ble_eq_true rfl, Nat.le_of_ble_eq_true rfl⟩) (fun H locs hH => ?_)
                obtain ⟨a92, ha92, hf⟩ := bnd hf
                replace ha92 := cha_some ha92
                obtain ⟨j93, hj93, hf⟩ := bnd hf
                obtain ⟨a94, ha94, hf⟩ := bnd hf
                replace ha94 := chk_some ha94
                obtain ⟨w95, hw95, hf⟩ := bnd hf
                replace hw95 := Option.some.inj hw95
                refine hw_aast28 hx hb hKs hH ha92.1 ha92.2 ha94.1 ha94.2 hj93 dX12_init_108 (fun H locs hH => ?_)
                rw [hw95] at hH
                refine lv_iinc (v := 7) (lv' := [(2, .int 7), (1, rv E (some n)), (0, rv E (some o))]) hx hb dX12_init_109 hl (k := 0) rfl rfl (by decide) (by simp [List.filter_cons, cat_q, cat_i, cat_j, imax, imin]) (fun ls hl => ?_)
                refine lv_goto (tgt := 89) hx hb dX12_init_112 (by decide) ?_
                refine lv_iload_n hx hb dX12_init_89 rfl (lv_at hl 0 rfl) ?_
                refine lv_bipush (v := 8) hx hb dX12_init_90 (by decide) ?_
                refine lv_icmp_ge (tgt := 115) hx hb dX12_init_92 (by decide) (fun c96 => ?_) (fun c96 => ?_)
                · exact (by revert c96; decide : False).elim
                · skip
                  refine hl_aload_n hx hb dX12_init_95 rfl (lv_at hl 2 rfl) ?_
                  obtain ⟨a97, ha97, hf⟩ := bnd hf
                  replace ha97 := chk_some ha97
                  refine g12_9 hx hb hts hown hKs hH ha97.1 ha97.2 m2_228 dX12_init_96 ?_
                  refine lv_iload_n hx hb dX12_init_99 rfl (lv_at hl 0 rfl) ?_
                  refine hw_new (ci := 9) (C := RX10) (T := TX10) (N := 6) hx hb hts iX10 tyX10 tyX10_ok hown m2_54 (hts _ m2_55) m1_12 hKs hb0 hH rfl rfl (fun j hj => dfX10 j hj) (Nat.le_of_ble_eq_true rfl) (Nat.le_of_ble_eq_true rfl) dX12_init_100 (fun H hH => ?_)
                  obtain ⟨K98, hK98, hf⟩ := bnd hf
                  replace hK98 := Option.some.inj hK98
                  obtain ⟨w99, hw99, hf⟩ := bnd hf
                  replace hw99 := Option.some.inj hw99
                  rw [hK98, hw99] at hH
                  refine lv_dup hx hb dX12_init_103 rv_cat ?_
                  refine hl_aload_n hx hb dX12_init_104 rfl (lv_at hl 1 rfl) ?_
                  obtain ⟨q100, hq100, hf⟩ := bnd hf
                  refine hcA hH (va_runI (As := [rv E (some n)]) (rest := [rv E (some q91.2.1), .int 7, rv E (wR w95 1209 a97)]) ⟨hx, hb, hml, hown, hts⟩ (k_X10_init l E K98 (q91.2.1 + 1) q91.2.1 (some n) w99 hq100) (cwI _ hts (gC m2_58) rfl rfl rfl (hts _ m1_12) (hts _ m2_56) (hts _ m2_57) rfl hs_X10_init ⟨Nat.le_of_ble_eq_true rfl, Nat.le_of_ble_eq_true rfl⟩) ⟨HB.blind, HB.preN hKs hT hb0 hH⟩ rfl rfl hl.1 rfl (lv_room (rcV (rcI (rcV rc0)))) dX12_init_105 ⟨Nat.le_of_ble_eq_true rfl, Nat.le_of_ble_eq_true rfl⟩) (fun H locs hH => ?_)
                  obtain ⟨a101, ha101, hf⟩ := bnd hf
                  replace ha101 := cha_some ha101
                  obtain ⟨j102, hj102, hf⟩ := bnd hf
                  obtain ⟨a103, ha103, hf⟩ := bnd hf
                  replace ha103 := chk_some ha103
                  obtain ⟨w104, hw104, hf⟩ := bnd hf
                  replace hw104 := Option.some.inj hw104
                  refine hw_aast28 hx hb hKs hH ha101.1 ha101.2 ha103.1 ha103.2 hj102 dX12_init_108 (fun H locs hH => ?_)
                  rw [hw104] at hH
                  refine lv_iinc (v := 8) (lv' := [(2, .int 8), (1, rv E (some n)), (0, rv E (some o))]) hx hb dX12_init_109 hl (k := 0) rfl rfl (by decide) (by simp [List.filter_cons, cat_q, cat_i, cat_j, imax, imin]) (fun ls hl => ?_)
                  refine lv_goto (tgt := 89) hx hb dX12_init_112 (by decide) ?_
                  refine lv_iload_n hx hb dX12_init_89 rfl (lv_at hl 0 rfl) ?_
                  refine lv_bipush (v := 8) hx hb dX12_init_90 (by decide) ?_
                  refine lv_icmp_ge (tgt := 115) hx hb dX12_init_92 (by decide) (fun c105 => ?_) (fun c105 => ?_)
                  · skip
                    refine hl_aload_n hx hb dX12_init_115 rfl (lv_at hl 2 rfl) ?_
                    refine hw_new (ci := 5) (C := RX6) (T := TX6) (N := 12) hx hb hts iX6 tyX6 tyX6_ok hown m2_150 (hts _ m2_151) m1_14 hKs hb0 hH rfl rfl (fun j hj => dfX6 j hj) (Nat.le_of_ble_eq_true rfl) (Nat.le_of_ble_eq_true rfl) dX12_init_116 (fun H hH => ?_)
                    obtain ⟨K106, hK106, hf⟩ := bnd hf
                    replace hK106 := Option.some.inj hK106
                    obtain ⟨w107, hw107, hf⟩ := bnd hf
                    replace hw107 := Option.some.inj hw107
                    rw [hK106, hw107] at hH
                    refine lv_dup hx hb dX12_init_119 rv_cat ?_
                    obtain ⟨q108, hq108, hf⟩ := bnd hf
                    refine hcA hH (va_runIN (As := []) (rest := [rv E (some q100.2.1), rv E (some o)]) ⟨hx, hb, hml, hown, hts⟩ (k_X6_init l E K106 (q100.2.1 + 1) q100.2.1 w107 hq108) ⟨va_cnB _ hts (gC m2_154) rfl rfl rfl (hKs.2.1 _ m2_152) (hts _ m1_14) hs_X6_init ⟨Nat.le_of_ble_eq_true rfl, Nat.le_of_ble_eq_true rfl⟩, rfl, hts _ m2_153⟩ ⟨HB.blind, HB.preN hKs hT hb0 hH⟩ rfl rfl hl.1 rfl (lv_room (rcV (rcV rc0))) dX12_init_120 ⟨Nat.le_of_ble_eq_true rfl, Nat.le_of_ble_eq_true rfl⟩) (fun H locs hH => ?_)
                    obtain ⟨a109, ha109, hf⟩ := bnd hf
                    replace ha109 := chk_some ha109
                    obtain ⟨w110, hw110, hf⟩ := bnd hf
                    replace hw110 := Option.some.inj hw110
                    refine pf12_11 (v := (some q100.2.1)) hx hb hts hown hKs hH ha109.1 ha109.2 hn2 m2_230 dX12_init_123 (fun H locs hH => ?_)
                    rw [hw110] at hH
                    refine hl_aload_n hx hb dX12_init_126 rfl (lv_at hl 2 rfl) ?_
                    refine hw_new (ci := 0) (C := RX1) (T := TX1) (N := 5) hx hb hts iX1 tyX1 tyX1_ok hown m2_197 (hts _ m2_198) m1_15 hKs hb0 hH rfl rfl (fun j hj => dfX1 j hj) (Nat.le_of_ble_eq_true rfl) (Nat.le_of_ble_eq_true rfl) dX12_init_127 (fun H hH => ?_)
                    obtain ⟨K111, hK111, hf⟩ := bnd hf
                    replace hK111 := Option.some.inj hK111
                    obtain ⟨w112, hw112, hf⟩ := bnd hf
                    replace hw112 := Option.some.inj hw112
                    rw [hK111, hw112] at hH
                    refine lv_dup hx hb dX12_init_130 rv_cat ?_
                    obtain ⟨q113, hq113, hf⟩ := bnd hf
                    refine hcA hH (va_runIN (As := []) (rest := [rv E (some q108.2.1), rv E (some o)]) ⟨hx, hb, hml, hown, hts⟩ (k_X1_init l E K111 (q108.2.1 + 1) q108.2.1 w112 hq113) ⟨va_cnB _ hts (gC m2_201) rfl rfl rfl (hKs.2.1 _ m2_199) (hts _ m1_15) hs_X1_init ⟨Nat.le_of_ble_eq_true rfl, Nat.le_of_ble_eq_true rfl⟩, rfl, hts _ m2_200⟩ ⟨HB.blind, HB.preN hKs hT hb0 hH⟩ rfl rfl hl.1 rfl (lv_room (rcV (rcV rc0))) dX12_init_131 ⟨Nat.le_of_ble_eq_true rfl, Nat.le_of_ble_eq_true rfl⟩) (fun H locs hH => ?_)
                    obtain ⟨a114, ha114, hf⟩ := bnd hf
                    replace ha114 := chk_some ha114
                    obtain ⟨w115, hw115, hf⟩ := bnd hf
                    replace hw115 := Option.some.inj hw115
                    refine pf12_12 (v := (some q108.2.1)) hx hb hts hown hKs hH ha114.1 ha114.2 hn2 m2_231 dX12_init_134 (fun H locs hH => ?_)
                    rw [hw115] at hH
                    refine hl_aload_n hx hb dX12_init_137 rfl (lv_at hl 2 rfl) ?_
                    refine lv_bipush (v := 12) hx hb dX12_init_138 (by decide) ?_
                    refine hw_newa20 (N := 12) hx hb hts m1_64 hKs hH (by decide) (by decide) (Nat.le_of_ble_eq_true rfl) (Nat.le_of_ble_eq_true rfl) (Nat.le_of_ble_eq_true rfl) dX12_init_140 (fun H hH => ?_)
                    obtain ⟨K116, hK116, hf⟩ := bnd hf
                    replace hK116 := Option.some.inj hK116
                    obtain ⟨w117, hw117, hf⟩ := bnd hf
                    replace hw117 := Option.some.inj hw117
                    rw [hK116, hw117] at hH
                    obtain ⟨a118, ha118, hf⟩ := bnd hf
                    replace ha118 := chk_some ha118
                    obtain ⟨w119, hw119, hf⟩ := bnd hf
                    replace hw119 := Option.some.inj hw119
                    refine pf12_13 (v := (some q113.2.1)) hx hb hts hown hKs hH ha118.1 ha118.2 hn2 m2_232 dX12_init_142 (fun H locs hH => ?_)
                    rw [hw119] at hH
                    refine hl_aload_n hx hb dX12_init_145 rfl (lv_at hl 2 rfl) ?_
                    refine lv_sipush (v := 348) hx hb dX12_init_146 (by decide) ?_
                    refine hw_newa21 (N := 348) hx hb hts m2_27 hKs hH (by decide) (by decide) (Nat.le_of_ble_eq_true rfl) (Nat.le_of_ble_eq_true rfl) (Nat.le_of_ble_eq_true rfl) dX12_init_149 (fun H hH => ?_)
                    obtain ⟨K120, hK120, hf⟩ := bnd hf
                    replace hK120 := Option.some.inj hK120
                    obtain ⟨w121, hw121, hf⟩ := bnd hf
                    replace hw121 := Option.some.inj hw121
                    rw [hK120, hw121] at hH
                    obtain ⟨a122, ha122, hf⟩ := bnd hf
                    replace ha122 := chk_some ha122
                    obtain ⟨w123, hw123, hf⟩ := bnd hf
                    replace hw123 := Option.some.inj hw123
                    refine pf12_14 (v := (some (q113.2.1 + 1))) hx hb hts hown hKs hH ha122.1 ha122.2 hn2 m2_233 dX12_init_151 (fun H locs hH => ?_)
                    rw [hw123] at hH
                    exact hw_aret hx hb (Nat.le_of_ble_eq_true rfl) (Nat.le_of_ble_eq_true rfl) hret hf hH hlocks dX12_init_154
                  · exact (by revert c105; decide : False).elim

theorem dX12_opening_0 : decode cX12_opening 0 = .ok (.aload_n 0, 1) := by decide +kernel
theorem dX12_opening_1 : decode cX12_opening 1 = .ok (.iconst 3, 1) := by decide +kernel
theorem dX12_opening_2 : decode cX12_opening 2 = .ok (.iload_n 1, 1) := by decide +kernel
theorem dX12_opening_3 : decode cX12_opening 3 = .ok (.invokevirtual 175, 3) := by decide +kernel
theorem dX12_opening_6 : decode cX12_opening 6 = .ok (.iload_n 2, 1) := by decide +kernel
theorem dX12_opening_7 : decode cX12_opening 7 = .ok (.ifCond .lt 8, 3) := by decide +kernel
theorem dX12_opening_10 : decode cX12_opening 10 = .ok (.iload_n 2, 1) := by decide +kernel
theorem dX12_opening_11 : decode cX12_opening 11 = .ok (.iconst 3, 1) := by decide +kernel
theorem dX12_opening_12 : decode cX12_opening 12 = .ok (.if_icmp .le 11, 3) := by decide +kernel
theorem dX12_opening_15 : decode cX12_opening 15 = .ok (.new 193, 3) := by decide +kernel
theorem dX12_opening_18 : decode cX12_opening 18 = .ok (.dup, 1) := by decide +kernel
theorem dX12_opening_19 : decode cX12_opening 19 = .ok (.invokespecial 195, 3) := by decide +kernel
theorem dX12_opening_22 : decode cX12_opening 22 = .ok (.athrow, 1) := by decide +kernel
theorem dX12_opening_23 : decode cX12_opening 23 = .ok (.aload_n 0, 1) := by decide +kernel
theorem dX12_opening_24 : decode cX12_opening 24 = .ok (.iload_n 1, 1) := by decide +kernel
theorem dX12_opening_25 : decode cX12_opening 25 = .ok (.invokevirtual 280, 3) := by decide +kernel
theorem dX12_opening_28 : decode cX12_opening 28 = .ok (.aload_n 0, 1) := by decide +kernel
theorem dX12_opening_29 : decode cX12_opening 29 = .ok (.getfield 52, 3) := by decide +kernel
theorem dX12_opening_32 : decode cX12_opening 32 = .ok (.aload_n 0, 1) := by decide +kernel
theorem dX12_opening_33 : decode cX12_opening 33 = .ok (.getfield 35, 3) := by decide +kernel
theorem dX12_opening_36 : decode cX12_opening 36 = .ok (.iload_n 1, 1) := by decide +kernel
theorem dX12_opening_37 : decode cX12_opening 37 = .ok (.iconst 0, 1) := by decide +kernel
theorem dX12_opening_38 : decode cX12_opening 38 = .ok (.invokevirtual 287, 3) := by decide +kernel
theorem dX12_opening_41 : decode cX12_opening 41 = .ok (.ifCond .ne 5, 3) := by decide +kernel
theorem dX12_opening_44 : decode cX12_opening 44 = .ok (.iconst (-1), 1) := by decide +kernel
theorem dX12_opening_45 : decode cX12_opening 45 = .ok (.ireturn, 1) := by decide +kernel
theorem dX12_opening_46 : decode cX12_opening 46 = .ok (.iload_n 2, 1) := by decide +kernel
theorem dX12_opening_47 : decode cX12_opening 47 = .ok (.tableswitch 49 0 2 #[25, 33, 41], 25) := by decide +kernel
theorem dX12_opening_72 : decode cX12_opening 72 = .ok (.aload_n 0, 1) := by decide +kernel
theorem dX12_opening_73 : decode cX12_opening 73 = .ok (.getfield 52, 3) := by decide +kernel
theorem dX12_opening_76 : decode cX12_opening 76 = .ok (.getfield 291, 3) := by decide +kernel
theorem dX12_opening_79 : decode cX12_opening 79 = .ok (.ireturn, 1) := by decide +kernel
theorem dX12_opening_80 : decode cX12_opening 80 = .ok (.aload_n 0, 1) := by decide +kernel
theorem dX12_opening_81 : decode cX12_opening 81 = .ok (.getfield 52, 3) := by decide +kernel
theorem dX12_opening_84 : decode cX12_opening 84 = .ok (.getfield 292, 3) := by decide +kernel
theorem dX12_opening_87 : decode cX12_opening 87 = .ok (.ireturn, 1) := by decide +kernel
theorem dX12_opening_88 : decode cX12_opening 88 = .ok (.aload_n 0, 1) := by decide +kernel
theorem dX12_opening_89 : decode cX12_opening 89 = .ok (.getfield 52, 3) := by decide +kernel
theorem dX12_opening_92 : decode cX12_opening 92 = .ok (.getfield 293, 3) := by decide +kernel
theorem dX12_opening_95 : decode cX12_opening 95 = .ok (.ireturn, 1) := by decide +kernel
theorem dX12_opening_96 : decode cX12_opening 96 = .ok (.aload_n 0, 1) := by decide +kernel
theorem dX12_opening_97 : decode cX12_opening 97 = .ok (.getfield 52, 3) := by decide +kernel
theorem dX12_opening_100 : decode cX12_opening 100 = .ok (.getfield 294, 3) := by decide +kernel
theorem dX12_opening_103 : decode cX12_opening 103 = .ok (.ireturn, 1) := by decide +kernel
theorem hd_X12_opening : yX12_opening.cls = RX12 ∧ yX12_opening.cls ≠ "java/lang/invoke/MethodHandle" ∧ yX12_opening.cls ≠ "java/lang/invoke/VarHandle" ∧ (parseMethodDescriptor yX12_opening.desc).map (fun d => d.parameters.length) = some 2 := by decide +kernel
theorem hs_X12_opening : yX12_opening.cls ≠ "java/lang/invoke/MethodHandle" ∧ yX12_opening.cls ≠ "java/lang/invoke/VarHandle" ∧ (parseMethodDescriptor yX12_opening.desc).map (fun d => d.parameters.length) = some 2 := by decide +kernel
set_option maxHeartbeats 4000000 in
set_option maxRecDepth 100000 in
theorem k_X12_opening (l : Launch) (hls : l.stackTraces = false) (E : Ev) (K : Kd) (z : Nat) (o : Nat) (a_1 : Int32) (a_2 : Int32) (w : Wd) (ho : K o = some (10, 0)) {r : Int32 ⊕ Nat} {w' : Wd} (hf : f_X12_opening K o a_1 a_2 w = some (r, w')) : vx_Met l yX12_opening (Cond.code yX12_opening cX12_opening 3 (Option.some Jvm.ClassFile.FieldType.int) :: bt) ({ frames := 7, cells := 2, slots := 12, locals := 128 } : Room) (va_Pc [rv E (some o), .int a_1, .int a_2] (HB E K w z)) (XI E K z w' r) (XX E K w' r) 2 12 (hA E) := by
  refine vx_ofW (cc := cX12_opening) (maxL := 3) (ret := (Option.some Jvm.ClassFile.FieldType.int)) (by decide) rfl ?_
  intro p e s m args below meth c s₁ B hml hout hv
  obtain ⟨rfl, hz, hP, hKs, hT, hb0⟩ := hv
  have C : CX p l e s m _ meth c cX12_opening 3 RX12 (Option.some Jvm.ClassFile.FieldType.int) E := ⟨B.exec, B.bytes, hml, findClass_of_methodNamed B.named, fun w h => atoms_spec (ws := Cond.code yX12_opening cX12_opening 3 (Option.some Jvm.ClassFile.FieldType.int) :: bt) B.pre w (List.mem_cons_of_mem _ h), hKs, hT, by rw [hz]; exact hb0, B.notSynchronized, B.returns⟩
  have hH : HQ E K z w s s.heap [] := ⟨hP, va_S.rf, hz⟩
  obtain ⟨hx, hb, hml, hown, hts, hKs, hT, hb0, hlocks, hret⟩ := id C
  have hl := lv_entry [rv E (some o), .int a_1, .int a_2] (n := 3) (by simp [lg_len_nil, lg_len_i, lg_len_j, lg_len_q, lg_len_f, lg_len_d, lg_len_r])
  rw [lg_entry_eq]
  generalize (lg_sl [rv E (some o), .int a_1, .int a_2] ++ List.replicate (3 - (lg_sl [rv E (some o), .int a_1, .int a_2]).length) Slot.unset).toArray = ls at hl ⊢
  replace hl : lv_has ls 3 [(0, rv E (some o)), (1, .int a_1), (2, .int a_2)] := by simpa only [lv_args, cat_q, cat_i, cat_j, reduceIte, Nat.reduceEqDiff, Nat.reduceAdd, Nat.zero_add] using hl
  generalize s.heap = H at hH ⊢
  unfold f_X12_opening at hf
  refine hl_aload_n hx hb dX12_opening_0 rfl (lv_at hl 0 rfl) ?_
  refine lv_iconst (v := 3) hx hb dX12_opening_1 (by decide) ?_
  refine lv_iload_n hx hb dX12_opening_2 rfl (lv_at hl 1 rfl) ?_
  obtain ⟨q1, hq1, hf⟩ := bnd hf
  refine hxV_v hx hb hml hown hts hKs hT hb0 hH (As := [.int 3, .int a_1]) (rest := []) (k_X12_requireExisting l hls E K H.size o 3 a_1 w ho hq1) (gV m5_90 m5_92 ms_36 m1_1 m5_93) hd_X12_requireExisting ⟨Nat.le_of_ble_eq_true rfl, Nat.le_of_ble_eq_true rfl, rfl, rfl⟩ rfl ho rfl rfl rfl hl.1 rfl rc0 rfl dX12_opening_3 ⟨Nat.le_of_ble_eq_true rfl, Nat.le_of_ble_eq_true rfl⟩ ⟨Nat.le_of_ble_eq_true rfl, Nat.le_of_ble_eq_true rfl⟩ hout hlocks (fun x hx9 => (fun h9 => ⟨(congrArg Prod.fst h9).symm, (congrArg Prod.snd h9).symm⟩) (Option.some.inj ((xk_inr hx9).symm.trans hf))) (fun v2 hv2 H locs hH => ?_)
  replace hf := (xk_inl hv2).symm.trans hf
  refine lv_iload_n hx hb dX12_opening_6 rfl (lv_at hl 2 rfl) ?_
  refine lv_if_lt (tgt := 15) hx hb dX12_opening_7 (by decide) (fun c3 => ?_) (fun c3 => ?_)
  · replace hf := (if_pos c3).symm.trans hf
    exact hx_throw hx hb hls (code := 1) hml hl.1 hown hts hKs hT hb0 hH (by decide) rfl m5_94 m1_28 hat_RX12_195 dX12_opening_15 dX12_opening_18 dX12_opening_19 dX12_opening_22 hout (Nat.le_of_ble_eq_true rfl) rc0 (Nat.le_of_ble_eq_true rfl) (Nat.le_of_ble_eq_true rfl) (Nat.le_of_ble_eq_true rfl) hlocks hf (Nat.le_of_ble_eq_true rfl) (Nat.le_of_ble_eq_true rfl)
  · replace hf := (if_neg c3).symm.trans hf
    refine lv_iload_n hx hb dX12_opening_10 rfl (lv_at hl 2 rfl) ?_
    refine lv_iconst (v := 3) hx hb dX12_opening_11 (by decide) ?_
    refine lv_icmp_le (tgt := 23) hx hb dX12_opening_12 (by decide) (fun c4 => ?_) (fun c4 => ?_)
    · replace hf := (if_pos c4).symm.trans hf
      refine hl_aload_n hx hb dX12_opening_23 rfl (lv_at hl 0 rfl) ?_
      refine lv_iload_n hx hb dX12_opening_24 rfl (lv_at hl 1 rfl) ?_
      obtain ⟨q5, hq5, hf⟩ := bnd hf
      refine hxV_v hx hb hml hown hts hKs hT hb0 hH (As := [.int a_1]) (rest := []) (k_X12_requireUnfinished l hls E K H.size o a_1 q1.2 ho hq5) (gV m5_190 m5_192 ms_39 m1_1 m5_193) hd_X12_requireUnfinished ⟨Nat.le_of_ble_eq_true rfl, Nat.le_of_ble_eq_true rfl, rfl, rfl⟩ rfl ho rfl rfl rfl hl.1 rfl rc0 rfl dX12_opening_25 ⟨Nat.le_of_ble_eq_true rfl, Nat.le_of_ble_eq_true rfl⟩ ⟨Nat.le_of_ble_eq_true rfl, Nat.le_of_ble_eq_true rfl⟩ hout hlocks (fun x hx9 => (fun h9 => ⟨(congrArg Prod.fst h9).symm, (congrArg Prod.snd h9).symm⟩) (Option.some.inj ((xk_inr hx9).symm.trans hf))) (fun v6 hv6 H locs hH => ?_)
      replace hf := (xk_inl hv6).symm.trans hf
      refine hl_aload_n hx hb dX12_opening_28 rfl (lv_at hl 0 rfl) ?_
      refine g12_11 hx hb hts hown hKs hH rfl ho m2_230 dX12_opening_29 ?_
      refine hl_aload_n hx hb dX12_opening_32 rfl (lv_at hl 0 rfl) ?_
      refine g12_5 hx hb hts hown hKs hH rfl ho m2_224 dX12_opening_33 ?_
      refine lv_iload_n hx hb dX12_opening_36 rfl (lv_at hl 1 rfl) ?_
      refine lv_iconst (v := 0) hx hb dX12_opening_37 (by decide) ?_
      obtain ⟨a7, ha7, hf⟩ := bnd hf
      replace ha7 := chk_some ha7
      obtain ⟨q8, hq8, hf⟩ := bnd hf
      refine hcV_i hx hb hml hown hts hKs hT hb0 hH (As := [rv E (wR q5.2 1205 o), .int a_1, .int 0]) (rest := []) (k_X6_findFirst l E K H.size a7 (wR q5.2 1205 o) a_1 0 q5.2 ha7.2 hq8) (gV m5_220 m4_111 m4_112 m1_14 m4_113) hd_X6_findFirst ⟨Nat.le_of_ble_eq_true rfl, Nat.le_of_ble_eq_true rfl, rfl, rfl⟩ ha7.1 ha7.2 rfl rfl rfl hl.1 rfl rc0 rfl dX12_opening_38 ⟨Nat.le_of_ble_eq_true rfl, Nat.le_of_ble_eq_true rfl⟩ (fun H locs hH => ?_)
      refine lv_if_ne (tgt := 46) hx hb dX12_opening_41 (by decide) (fun c9 => ?_) (fun c9 => ?_)
      · replace hf := (if_neg c9).symm.trans hf
        refine lv_iload_n hx hb dX12_opening_46 rfl (lv_at hl 2 rfl) ?_
        by_cases c10 : (a_2 < 0 ∨ 2 < a_2)
        · replace hf := (if_pos c10).symm.trans hf
          refine hl_tabOut (tgt := 96) hx hb dX12_opening_47 c10 (by decide) (by decide) (by decide) ?_
          refine hl_aload_n hx hb dX12_opening_96 rfl (lv_at hl 0 rfl) ?_
          refine g12_11 hx hb hts hown hKs hH rfl ho m2_230 dX12_opening_97 ?_
          obtain ⟨a11, ha11, hf⟩ := bnd hf
          replace ha11 := chk_some ha11
          refine gn6_11 hx hb hts hown hKs hH ha11.1 ha11.2 m2_171 dX12_opening_100 ?_
          exact hx_iret hx hb (Nat.le_of_ble_eq_true rfl) (Nat.le_of_ble_eq_true rfl) hret hf hH hlocks dX12_opening_103
        replace hf := (if_neg c10).symm.trans hf
        by_cases c12 : a_2 = 0
        · replace hf := (if_pos c12).symm.trans hf
          refine hl_tabIn (tgt := 72) hx hb dX12_opening_47 c12 (by decide) (by decide) rfl (by decide) ?_
          refine hl_aload_n hx hb dX12_opening_72 rfl (lv_at hl 0 rfl) ?_
          refine g12_11 hx hb hts hown hKs hH rfl ho m2_230 dX12_opening_73 ?_
          obtain ⟨a13, ha13, hf⟩ := bnd hf
          replace ha13 := chk_some ha13
          refine gn6_8 hx hb hts hown hKs hH ha13.1 ha13.2 m2_165 dX12_opening_76 ?_
          exact hx_iret hx hb (Nat.le_of_ble_eq_true rfl) (Nat.le_of_ble_eq_true rfl) hret hf hH hlocks dX12_opening_79
        replace hf := (if_neg c12).symm.trans hf
        by_cases c14 : a_2 = 1
        · replace hf := (if_pos c14).symm.trans hf
          refine hl_tabIn (tgt := 80) hx hb dX12_opening_47 c14 (by decide) (by decide) rfl (by decide) ?_
          refine hl_aload_n hx hb dX12_opening_80 rfl (lv_at hl 0 rfl) ?_
          refine g12_11 hx hb hts hown hKs hH rfl ho m2_230 dX12_opening_81 ?_
          obtain ⟨a15, ha15, hf⟩ := bnd hf
          replace ha15 := chk_some ha15
          refine gn6_9 hx hb hts hown hKs hH ha15.1 ha15.2 m2_167 dX12_opening_84 ?_
          exact hx_iret hx hb (Nat.le_of_ble_eq_true rfl) (Nat.le_of_ble_eq_true rfl) hret hf hH hlocks dX12_opening_87
        replace hf := (if_neg c14).symm.trans hf
        by_cases c16 : a_2 = 2
        · replace hf := (if_pos c16).symm.trans hf
          refine hl_tabIn (tgt := 88) hx hb dX12_opening_47 c16 (by decide) (by decide) rfl (by decide) ?_
          refine hl_aload_n hx hb dX12_opening_88 rfl (lv_at hl 0 rfl) ?_
          refine g12_11 hx hb hts hown hKs hH rfl ho m2_230 dX12_opening_89 ?_
          obtain ⟨a17, ha17, hf⟩ := bnd hf
          replace ha17 := chk_some ha17
          refine gn6_10 hx hb hts hown hKs hH ha17.1 ha17.2 m2_169 dX12_opening_92 ?_
          exact hx_iret hx hb (Nat.le_of_ble_eq_true rfl) (Nat.le_of_ble_eq_true rfl) hret hf hH hlocks dX12_opening_95
        replace hf := (if_neg c16).symm.trans hf
        cases hf
      · replace hf := (if_pos c9).symm.trans hf
        refine lv_iconst (v := (-1)) hx hb dX12_opening_44 (by decide) ?_
        exact hx_iret hx hb (Nat.le_of_ble_eq_true rfl) (Nat.le_of_ble_eq_true rfl) hret hf hH hlocks dX12_opening_45
    · replace hf := (if_neg c4).symm.trans hf
      exact hx_throw hx hb hls (code := 1) hml hl.1 hown hts hKs hT hb0 hH (by decide) rfl m5_94 m1_28 hat_RX12_195 dX12_opening_15 dX12_opening_18 dX12_opening_19 dX12_opening_22 hout (Nat.le_of_ble_eq_true rfl) rc0 (Nat.le_of_ble_eq_true rfl) (Nat.le_of_ble_eq_true rfl) (Nat.le_of_ble_eq_true rfl) hlocks hf (Nat.le_of_ble_eq_true rfl) (Nat.le_of_ble_eq_true rfl)

theorem dX12_openDays_0 : decode cX12_openDays 0 = .ok (.aload_n 0, 1) := by decide +kernel
theorem dX12_openDays_1 : decode cX12_openDays 1 = .ok (.iconst 3, 1) := by decide +kernel
theorem dX12_openDays_2 : decode cX12_openDays 2 = .ok (.iload_n 1, 1) := by decide +kernel
theorem dX12_openDays_3 : decode cX12_openDays 3 = .ok (.invokevirtual 175, 3) := by decide +kernel
theorem dX12_openDays_6 : decode cX12_openDays 6 = .ok (.aload_n 0, 1) := by decide +kernel
theorem dX12_openDays_7 : decode cX12_openDays 7 = .ok (.iload_n 1, 1) := by decide +kernel
theorem dX12_openDays_8 : decode cX12_openDays 8 = .ok (.invokevirtual 280, 3) := by decide +kernel
theorem dX12_openDays_11 : decode cX12_openDays 11 = .ok (.aload_n 0, 1) := by decide +kernel
theorem dX12_openDays_12 : decode cX12_openDays 12 = .ok (.getfield 52, 3) := by decide +kernel
theorem dX12_openDays_15 : decode cX12_openDays 15 = .ok (.aload_n 0, 1) := by decide +kernel
theorem dX12_openDays_16 : decode cX12_openDays 16 = .ok (.getfield 35, 3) := by decide +kernel
theorem dX12_openDays_19 : decode cX12_openDays 19 = .ok (.iload_n 1, 1) := by decide +kernel
theorem dX12_openDays_20 : decode cX12_openDays 20 = .ok (.invokevirtual 295, 3) := by decide +kernel
theorem dX12_openDays_23 : decode cX12_openDays 23 = .ok (.ireturn, 1) := by decide +kernel
theorem hd_X12_openDays : yX12_openDays.cls = RX12 ∧ yX12_openDays.cls ≠ "java/lang/invoke/MethodHandle" ∧ yX12_openDays.cls ≠ "java/lang/invoke/VarHandle" ∧ (parseMethodDescriptor yX12_openDays.desc).map (fun d => d.parameters.length) = some 1 := by decide +kernel
theorem hs_X12_openDays : yX12_openDays.cls ≠ "java/lang/invoke/MethodHandle" ∧ yX12_openDays.cls ≠ "java/lang/invoke/VarHandle" ∧ (parseMethodDescriptor yX12_openDays.desc).map (fun d => d.parameters.length) = some 1 := by decide +kernel
set_option maxHeartbeats 4000000 in
set_option maxRecDepth 100000 in
theorem k_X12_openDays (l : Launch) (hls : l.stackTraces = false) (E : Ev) (K : Kd) (z : Nat) (o : Nat) (a_1 : Int32) (w : Wd) (ho : K o = some (10, 0)) {r : Int32 ⊕ Nat} {w' : Wd} (hf : f_X12_openDays K o a_1 w = some (r, w')) : vx_Met l yX12_openDays (Cond.code yX12_openDays cX12_openDays 2 (Option.some Jvm.ClassFile.FieldType.int) :: bt) ({ frames := 7, cells := 2, slots := 12, locals := 128 } : Room) (va_Pc [rv E (some o), .int a_1] (HB E K w z)) (XI E K z w' r) (XX E K w' r) 2 12 (hA E) := by
  refine vx_ofW (cc := cX12_openDays) (maxL := 2) (ret := (Option.some Jvm.ClassFile.FieldType.int)) (by decide) rfl ?_
  intro p e s m args below meth c s₁ B hml hout hv
  obtain ⟨rfl, hz, hP, hKs, hT, hb0⟩ := hv
  have C : CX p l e s m _ meth c cX12_openDays 2 RX12 (Option.some Jvm.ClassFile.FieldType.int) E := ⟨B.exec, B.bytes, hml, findClass_of_methodNamed B.named, fun w h => atoms_spec (ws := Cond.code yX12_openDays cX12_openDays 2 (Option.some Jvm.ClassFile.FieldType.int) :: bt) B.pre w (List.mem_cons_of_mem _ h), hKs, hT, by rw [hz]; exact hb0, B.notSynchronized, B.returns⟩
  have hH : HQ E K z w s s.heap [] := ⟨hP, va_S.rf, hz⟩
  obtain ⟨hx, hb, hml, hown, hts, hKs, hT, hb0, hlocks, hret⟩ := id C
  have hl := lv_entry [rv E (some o), .int a_1] (n := 2) (by simp [lg_len_nil, lg_len_i, lg_len_j, lg_len_q, lg_len_f, lg_len_d, lg_len_r])
  rw [lg_entry_eq]
  generalize (lg_sl [rv E (some o), .int a_1] ++ List.replicate (2 - (lg_sl [rv E (some o), .int a_1]).length) Slot.unset).toArray = ls at hl ⊢
  replace hl : lv_has ls 2 [(0, rv E (some o)), (1, .int a_1)] := by simpa only [lv_args, cat_q, cat_i, cat_j, reduceIte, Nat.reduceEqDiff, Nat.reduceAdd, Nat.zero_add] using hl
  generalize s.heap = H at hH ⊢
  unfold f_X12_openDays at hf
  refine hl_aload_n hx hb dX12_openDays_0 rfl (lv_at hl 0 rfl) ?_
  refine lv_iconst (v := 3) hx hb dX12_openDays_1 (by decide) ?_
  refine lv_iload_n hx hb dX12_openDays_2 rfl (lv_at hl 1 rfl) ?_
  obtain ⟨q1, hq1, hf⟩ := bnd hf
  refine hxV_v hx hb hml hown hts hKs hT hb0 hH (As := [.int 3, .int a_1]) (rest := []) (k_X12_requireExisting l hls E K H.size o 3 a_1 w ho hq1) (gV m5_90 m5_92 ms_36 m1_1 m5_93) hd_X12_requireExisting ⟨Nat.le_of_ble_eq_true rfl, Nat.le_of_ble_eq_true rfl, rfl, rfl⟩ rfl ho rfl rfl rfl hl.1 rfl rc0 rfl dX12_openDays_3 ⟨Nat.le_of_ble_eq_true rfl, Nat.le_of_ble_eq_true rfl⟩ ⟨Nat.le_of_ble_eq_true rfl, Nat.le_of_ble_eq_true rfl⟩ hout hlocks (fun x hx9 => (fun h9 => ⟨(congrArg Prod.fst h9).symm, (congrArg Prod.snd h9).symm⟩) (Option.some.inj ((xk_inr hx9).symm.trans hf))) (fun v2 hv2 H locs hH => ?_)
  replace hf := (xk_inl hv2).symm.trans hf
  refine hl_aload_n hx hb dX12_openDays_6 rfl (lv_at hl 0 rfl) ?_
  refine lv_iload_n hx hb dX12_openDays_7 rfl (lv_at hl 1 rfl) ?_
  obtain ⟨q3, hq3, hf⟩ := bnd hf
  refine hxV_v hx hb hml hown hts hKs hT hb0 hH (As := [.int a_1]) (rest := []) (k_X12_requireUnfinished l hls E K H.size o a_1 q1.2 ho hq3) (gV m5_190 m5_192 ms_39 m1_1 m5_193) hd_X12_requireUnfinished ⟨Nat.le_of_ble_eq_true rfl, Nat.le_of_ble_eq_true rfl, rfl, rfl⟩ rfl ho rfl rfl rfl hl.1 rfl rc0 rfl dX12_openDays_8 ⟨Nat.le_of_ble_eq_true rfl, Nat.le_of_ble_eq_true rfl⟩ ⟨Nat.le_of_ble_eq_true rfl, Nat.le_of_ble_eq_true rfl⟩ hout hlocks (fun x hx9 => (fun h9 => ⟨(congrArg Prod.fst h9).symm, (congrArg Prod.snd h9).symm⟩) (Option.some.inj ((xk_inr hx9).symm.trans hf))) (fun v4 hv4 H locs hH => ?_)
  replace hf := (xk_inl hv4).symm.trans hf
  refine hl_aload_n hx hb dX12_openDays_11 rfl (lv_at hl 0 rfl) ?_
  refine g12_11 hx hb hts hown hKs hH rfl ho m2_230 dX12_openDays_12 ?_
  refine hl_aload_n hx hb dX12_openDays_15 rfl (lv_at hl 0 rfl) ?_
  refine g12_5 hx hb hts hown hKs hH rfl ho m2_224 dX12_openDays_16 ?_
  refine lv_iload_n hx hb dX12_openDays_19 rfl (lv_at hl 1 rfl) ?_
  obtain ⟨a5, ha5, hf⟩ := bnd hf
  replace ha5 := chk_some ha5
  obtain ⟨q6, hq6, hf⟩ := bnd hf
  refine hcV_i hx hb hml hown hts hKs hT hb0 hH (As := [rv E (wR q3.2 1205 o), .int a_1]) (rest := []) (k_X6_countOpenDays l E K H.size a5 (wR q3.2 1205 o) a_1 q3.2 ha5.2 hq6) (gV m5_228 m5_229 m5_230 m1_14 m5_231) hd_X6_countOpenDays ⟨Nat.le_of_ble_eq_true rfl, Nat.le_of_ble_eq_true rfl, rfl, rfl⟩ ha5.1 ha5.2 rfl rfl rfl hl.1 rfl rc0 rfl dX12_openDays_20 ⟨Nat.le_of_ble_eq_true rfl, Nat.le_of_ble_eq_true rfl⟩ (fun H locs hH => ?_)
  exact hx_iret hx hb (Nat.le_of_ble_eq_true rfl) (Nat.le_of_ble_eq_true rfl) hret hf hH hlocks dX12_openDays_23

theorem dX12_fewestOfficers_0 : decode cX12_fewestOfficers 0 = .ok (.aload_n 0, 1) := by decide +kernel
theorem dX12_fewestOfficers_1 : decode cX12_fewestOfficers 1 = .ok (.getfield 59, 3) := by decide +kernel
theorem dX12_fewestOfficers_4 : decode cX12_fewestOfficers 4 = .ok (.aload_n 0, 1) := by decide +kernel
theorem dX12_fewestOfficers_5 : decode cX12_fewestOfficers 5 = .ok (.getfield 35, 3) := by decide +kernel
theorem dX12_fewestOfficers_8 : decode cX12_fewestOfficers 8 = .ok (.invokevirtual 312, 3) := by decide +kernel
theorem dX12_fewestOfficers_11 : decode cX12_fewestOfficers 11 = .ok (.ireturn, 1) := by decide +kernel
theorem hd_X12_fewestOfficers : yX12_fewestOfficers.cls = RX12 ∧ yX12_fewestOfficers.cls ≠ "java/lang/invoke/MethodHandle" ∧ yX12_fewestOfficers.cls ≠ "java/lang/invoke/VarHandle" ∧ (parseMethodDescriptor yX12_fewestOfficers.desc).map (fun d => d.parameters.length) = some 0 := by decide +kernel
theorem hs_X12_fewestOfficers : yX12_fewestOfficers.cls ≠ "java/lang/invoke/MethodHandle" ∧ yX12_fewestOfficers.cls ≠ "java/lang/invoke/VarHandle" ∧ (parseMethodDescriptor yX12_fewestOfficers.desc).map (fun d => d.parameters.length) = some 0 := by decide +kernel
set_option maxHeartbeats 4000000 in
set_option maxRecDepth 100000 in
theorem k_X12_fewestOfficers (l : Launch) (E : Ev) (K : Kd) (z : Nat) (o : Nat) (w : Wd) (ho : K o = some (10, 0)) {r : Int32} {w' : Wd} (hf : f_X12_fewestOfficers K o w = some (r, w')) : Met l yX12_fewestOfficers (Cond.code yX12_fewestOfficers cX12_fewestOfficers 1 (Option.some Jvm.ClassFile.FieldType.int) :: bt) ({ frames := 18, cells := 0, slots := 0, locals := 491 } : Room) (va_Pc [rv E (some o)] (HB E K w z)) (QI E K z w' r) 0 0 (hA E) := by
  refine Met.ofW (cc := cX12_fewestOfficers) (maxL := 1) (ret := (Option.some Jvm.ClassFile.FieldType.int)) (by decide) rfl ?_
  intro p e s m args below meth c s₁ B hml hv
  obtain ⟨rfl, hz, hP, hKs, hT, hb0⟩ := hv
  have C : CX p l e s m _ meth c cX12_fewestOfficers 1 RX12 (Option.some Jvm.ClassFile.FieldType.int) E := ⟨B.exec, B.bytes, hml, findClass_of_methodNamed B.named, fun w h => atoms_spec (ws := Cond.code yX12_fewestOfficers cX12_fewestOfficers 1 (Option.some Jvm.ClassFile.FieldType.int) :: bt) B.pre w (List.mem_cons_of_mem _ h), hKs, hT, by rw [hz]; exact hb0, B.notSynchronized, B.returns⟩
  have hH : HQ E K z w s s.heap [] := ⟨hP, va_S.rf, hz⟩
  obtain ⟨hx, hb, hml, hown, hts, hKs, hT, hb0, hlocks, hret⟩ := id C
  have hl := lv_entry [rv E (some o)] (n := 1) (by simp [lg_len_nil, lg_len_i, lg_len_j, lg_len_q, lg_len_f, lg_len_d, lg_len_r])
  rw [lg_entry_eq]
  generalize (lg_sl [rv E (some o)] ++ List.replicate (1 - (lg_sl [rv E (some o)]).length) Slot.unset).toArray = ls at hl ⊢
  replace hl : lv_has ls 1 [(0, rv E (some o))] := by simpa only [lv_args, cat_q, cat_i, cat_j, reduceIte, Nat.reduceEqDiff, Nat.reduceAdd, Nat.zero_add] using hl
  generalize s.heap = H at hH ⊢
  unfold f_X12_fewestOfficers at hf
  refine hl_aload_n hx hb dX12_fewestOfficers_0 rfl (lv_at hl 0 rfl) ?_
  refine g12_12 hx hb hts hown hKs hH rfl ho m2_231 dX12_fewestOfficers_1 ?_
  refine hl_aload_n hx hb dX12_fewestOfficers_4 rfl (lv_at hl 0 rfl) ?_
  refine g12_5 hx hb hts hown hKs hH rfl ho m2_224 dX12_fewestOfficers_5 ?_
  obtain ⟨a1, ha1, hf⟩ := bnd hf
  replace ha1 := chk_some ha1
  obtain ⟨q2, hq2, hf⟩ := bnd hf
  refine hcV_i hx hb hml hown hts hKs hT hb0 hH (As := [rv E (wR w 1205 o)]) (rest := []) (k_X1_countFewest l E K H.size a1 (wR w 1205 o) w ha1.2 hq2) (gV m4_27 m4_28 m4_29 m1_15 m4_30) hd_X1_countFewest ⟨Nat.le_of_ble_eq_true rfl, Nat.le_of_ble_eq_true rfl, rfl, rfl⟩ ha1.1 ha1.2 rfl rfl rfl hl.1 rfl rc0 rfl dX12_fewestOfficers_8 ⟨Nat.zero_le _, Nat.zero_le _⟩ (fun H locs hH => ?_)
  exact hw_iret hx hb hret hf hH hlocks dX12_fewestOfficers_11

theorem dX12_planNext_0 : decode cX12_planNext 0 = .ok (.aload_n 0, 1) := by decide +kernel
theorem dX12_planNext_1 : decode cX12_planNext 1 = .ok (.iconst 3, 1) := by decide +kernel
theorem dX12_planNext_2 : decode cX12_planNext 2 = .ok (.iload_n 1, 1) := by decide +kernel
theorem dX12_planNext_3 : decode cX12_planNext 3 = .ok (.invokevirtual 175, 3) := by decide +kernel
theorem dX12_planNext_6 : decode cX12_planNext 6 = .ok (.aload_n 0, 1) := by decide +kernel
theorem dX12_planNext_7 : decode cX12_planNext 7 = .ok (.getfield 35, 3) := by decide +kernel
theorem dX12_planNext_10 : decode cX12_planNext 10 = .ok (.getfield 213, 3) := by decide +kernel
theorem dX12_planNext_13 : decode cX12_planNext 13 = .ok (.iload_n 1, 1) := by decide +kernel
theorem dX12_planNext_14 : decode cX12_planNext 14 = .ok (.aaload, 1) := by decide +kernel
theorem dX12_planNext_15 : decode cX12_planNext 15 = .ok (.getfield 236, 3) := by decide +kernel
theorem dX12_planNext_18 : decode cX12_planNext 18 = .ok (.ifCond .eq 11, 3) := by decide +kernel
theorem dX12_planNext_21 : decode cX12_planNext 21 = .ok (.new 331, 3) := by decide +kernel
theorem dX12_planNext_24 : decode cX12_planNext 24 = .ok (.dup, 1) := by decide +kernel
theorem dX12_planNext_25 : decode cX12_planNext 25 = .ok (.invokespecial 333, 3) := by decide +kernel
theorem dX12_planNext_28 : decode cX12_planNext 28 = .ok (.athrow, 1) := by decide +kernel
theorem dX12_planNext_29 : decode cX12_planNext 29 = .ok (.aload_n 0, 1) := by decide +kernel
theorem dX12_planNext_30 : decode cX12_planNext 30 = .ok (.getfield 52, 3) := by decide +kernel
theorem dX12_planNext_33 : decode cX12_planNext 33 = .ok (.aload_n 0, 1) := by decide +kernel
theorem dX12_planNext_34 : decode cX12_planNext 34 = .ok (.getfield 35, 3) := by decide +kernel
theorem dX12_planNext_37 : decode cX12_planNext 37 = .ok (.iload_n 1, 1) := by decide +kernel
theorem dX12_planNext_38 : decode cX12_planNext 38 = .ok (.iconst 0, 1) := by decide +kernel
theorem dX12_planNext_39 : decode cX12_planNext 39 = .ok (.invokevirtual 287, 3) := by decide +kernel
theorem dX12_planNext_42 : decode cX12_planNext 42 = .ok (.ifCond .ne 11, 3) := by decide +kernel
theorem dX12_planNext_45 : decode cX12_planNext 45 = .ok (.new 303, 3) := by decide +kernel
theorem dX12_planNext_48 : decode cX12_planNext 48 = .ok (.dup, 1) := by decide +kernel
theorem dX12_planNext_49 : decode cX12_planNext 49 = .ok (.invokespecial 305, 3) := by decide +kernel
theorem dX12_planNext_52 : decode cX12_planNext 52 = .ok (.athrow, 1) := by decide +kernel
theorem dX12_planNext_53 : decode cX12_planNext 53 = .ok (.aload_n 0, 1) := by decide +kernel
theorem dX12_planNext_54 : decode cX12_planNext 54 = .ok (.invokevirtual 325, 3) := by decide +kernel
theorem dX12_planNext_57 : decode cX12_planNext 57 = .ok (.aload_n 0, 1) := by decide +kernel
theorem dX12_planNext_58 : decode cX12_planNext 58 = .ok (.getfield 52, 3) := by decide +kernel
theorem dX12_planNext_61 : decode cX12_planNext 61 = .ok (.aload_n 0, 1) := by decide +kernel
theorem dX12_planNext_62 : decode cX12_planNext 62 = .ok (.getfield 35, 3) := by decide +kernel
theorem dX12_planNext_65 : decode cX12_planNext 65 = .ok (.iload_n 1, 1) := by decide +kernel
theorem dX12_planNext_66 : decode cX12_planNext 66 = .ok (.invokevirtual 338, 3) := by decide +kernel
theorem dX12_planNext_69 : decode cX12_planNext 69 = .ok (.aload_n 0, 1) := by decide +kernel
theorem dX12_planNext_70 : decode cX12_planNext 70 = .ok (.getfield 52, 3) := by decide +kernel
theorem dX12_planNext_73 : decode cX12_planNext 73 = .ok (.getfield 291, 3) := by decide +kernel
theorem dX12_planNext_76 : decode cX12_planNext 76 = .ok (.ireturn, 1) := by decide +kernel
theorem hd_X12_planNext : yX12_planNext.cls = RX12 ∧ yX12_planNext.cls ≠ "java/lang/invoke/MethodHandle" ∧ yX12_planNext.cls ≠ "java/lang/invoke/VarHandle" ∧ (parseMethodDescriptor yX12_planNext.desc).map (fun d => d.parameters.length) = some 1 := by decide +kernel
theorem hs_X12_planNext : yX12_planNext.cls ≠ "java/lang/invoke/MethodHandle" ∧ yX12_planNext.cls ≠ "java/lang/invoke/VarHandle" ∧ (parseMethodDescriptor yX12_planNext.desc).map (fun d => d.parameters.length) = some 1 := by decide +kernel
set_option maxHeartbeats 4000000 in
set_option maxRecDepth 100000 in
theorem k_X12_planNext (l : Launch) (hls : l.stackTraces = false) (E : Ev) (K : Kd) (z : Nat) (o : Nat) (a_1 : Int32) (w : Wd) (ho : K o = some (10, 0)) {r : Int32 ⊕ Nat} {w' : Wd} (hf : f_X12_planNext K o a_1 w = some (r, w')) : vx_Met l yX12_planNext (Cond.code yX12_planNext cX12_planNext 2 (Option.some Jvm.ClassFile.FieldType.int) :: bt) ({ frames := 7, cells := 2, slots := 12, locals := 128 } : Room) (va_Pc [rv E (some o), .int a_1] (HB E K w z)) (XI E K z w' r) (XX E K w' r) 2 12 (hA E) := by
  refine vx_ofW (cc := cX12_planNext) (maxL := 2) (ret := (Option.some Jvm.ClassFile.FieldType.int)) (by decide) rfl ?_
  intro p e s m args below meth c s₁ B hml hout hv
  obtain ⟨rfl, hz, hP, hKs, hT, hb0⟩ := hv
  have C : CX p l e s m _ meth c cX12_planNext 2 RX12 (Option.some Jvm.ClassFile.FieldType.int) E := ⟨B.exec, B.bytes, hml, findClass_of_methodNamed B.named, fun w h => atoms_spec (ws := Cond.code yX12_planNext cX12_planNext 2 (Option.some Jvm.ClassFile.FieldType.int) :: bt) B.pre w (List.mem_cons_of_mem _ h), hKs, hT, by rw [hz]; exact hb0, B.notSynchronized, B.returns⟩
  have hH : HQ E K z w s s.heap [] := ⟨hP, va_S.rf, hz⟩
  obtain ⟨hx, hb, hml, hown, hts, hKs, hT, hb0, hlocks, hret⟩ := id C
  have hl := lv_entry [rv E (some o), .int a_1] (n := 2) (by simp [lg_len_nil, lg_len_i, lg_len_j, lg_len_q, lg_len_f, lg_len_d, lg_len_r])
  rw [lg_entry_eq]
  generalize (lg_sl [rv E (some o), .int a_1] ++ List.replicate (2 - (lg_sl [rv E (some o), .int a_1]).length) Slot.unset).toArray = ls at hl ⊢
  replace hl : lv_has ls 2 [(0, rv E (some o)), (1, .int a_1)] := by simpa only [lv_args, cat_q, cat_i, cat_j, reduceIte, Nat.reduceEqDiff, Nat.reduceAdd, Nat.zero_add] using hl
  generalize s.heap = H at hH ⊢
  unfold f_X12_planNext at hf
  refine hl_aload_n hx hb dX12_planNext_0 rfl (lv_at hl 0 rfl) ?_
  refine lv_iconst (v := 3) hx hb dX12_planNext_1 (by decide) ?_
  refine lv_iload_n hx hb dX12_planNext_2 rfl (lv_at hl 1 rfl) ?_
  obtain ⟨q1, hq1, hf⟩ := bnd hf
  refine hxV_v hx hb hml hown hts hKs hT hb0 hH (As := [.int 3, .int a_1]) (rest := []) (k_X12_requireExisting l hls E K H.size o 3 a_1 w ho hq1) (gV m5_90 m5_92 ms_36 m1_1 m5_93) hd_X12_requireExisting ⟨Nat.le_of_ble_eq_true rfl, Nat.le_of_ble_eq_true rfl, rfl, rfl⟩ rfl ho rfl rfl rfl hl.1 rfl rc0 rfl dX12_planNext_3 ⟨Nat.le_of_ble_eq_true rfl, Nat.le_of_ble_eq_true rfl⟩ ⟨Nat.le_of_ble_eq_true rfl, Nat.le_of_ble_eq_true rfl⟩ hout hlocks (fun x hx9 => (fun h9 => ⟨(congrArg Prod.fst h9).symm, (congrArg Prod.snd h9).symm⟩) (Option.some.inj ((xk_inr hx9).symm.trans hf))) (fun v2 hv2 H locs hH => ?_)
  replace hf := (xk_inl hv2).symm.trans hf
  refine hl_aload_n hx hb dX12_planNext_6 rfl (lv_at hl 0 rfl) ?_
  refine g12_5 hx hb hts hown hKs hH rfl ho m2_224 dX12_planNext_7 ?_
  obtain ⟨a3, ha3, hf⟩ := bnd hf
  replace ha3 := chk_some ha3
  refine gn10_5 hx hb hts hown hKs hH ha3.1 ha3.2 m2_135 dX12_planNext_10 ?_
  refine lv_iload_n hx hb dX12_planNext_13 rfl (lv_at hl 1 rfl) ?_
  obtain ⟨a4, ha4, hf⟩ := bnd hf
  replace ha4 := cha_some ha4
  obtain ⟨j5, hj5, hf⟩ := bnd hf
  refine hw_aald27 hx hb hKs hH ha4.1 ha4.2 hj5 dX12_planNext_14 ?_
  obtain ⟨a6, ha6, hf⟩ := bnd hf
  replace ha6 := chk_some ha6
  refine gn7_0 hx hb hts hown hKs hH ha6.1 ha6.2 m2_71 dX12_planNext_15 ?_
  refine lv_if_eq (tgt := 29) hx hb dX12_planNext_18 (by decide) (fun c7 => ?_) (fun c7 => ?_)
  · replace hf := (if_pos c7).symm.trans hf
    refine hl_aload_n hx hb dX12_planNext_29 rfl (lv_at hl 0 rfl) ?_
    refine g12_11 hx hb hts hown hKs hH rfl ho m2_230 dX12_planNext_30 ?_
    refine hl_aload_n hx hb dX12_planNext_33 rfl (lv_at hl 0 rfl) ?_
    refine g12_5 hx hb hts hown hKs hH rfl ho m2_224 dX12_planNext_34 ?_
    refine lv_iload_n hx hb dX12_planNext_37 rfl (lv_at hl 1 rfl) ?_
    refine lv_iconst (v := 0) hx hb dX12_planNext_38 (by decide) ?_
    obtain ⟨a8, ha8, hf⟩ := bnd hf
    replace ha8 := chk_some ha8
    obtain ⟨q9, hq9, hf⟩ := bnd hf
    refine hcV_i hx hb hml hown hts hKs hT hb0 hH (As := [rv E (wR q1.2 1205 o), .int a_1, .int 0]) (rest := []) (k_X6_findFirst l E K H.size a8 (wR q1.2 1205 o) a_1 0 q1.2 ha8.2 hq9) (gV m5_220 m4_111 m4_112 m1_14 m4_113) hd_X6_findFirst ⟨Nat.le_of_ble_eq_true rfl, Nat.le_of_ble_eq_true rfl, rfl, rfl⟩ ha8.1 ha8.2 rfl rfl rfl hl.1 rfl rc0 rfl dX12_planNext_39 ⟨Nat.le_of_ble_eq_true rfl, Nat.le_of_ble_eq_true rfl⟩ (fun H locs hH => ?_)
    refine lv_if_ne (tgt := 53) hx hb dX12_planNext_42 (by decide) (fun c10 => ?_) (fun c10 => ?_)
    · replace hf := (if_neg c10).symm.trans hf
      refine hl_aload_n hx hb dX12_planNext_53 rfl (lv_at hl 0 rfl) ?_
      obtain ⟨q11, hq11, hf⟩ := bnd hf
      refine hcV_v hx hb hml hown hts hKs hT hb0 hH (As := []) (rest := []) (k_X12_remember l E K H.size o q9.2 ho hq11) (gV m4_82 m4_84 ms_23 m1_1 m4_85) hd_X12_remember ⟨Nat.le_of_ble_eq_true rfl, Nat.le_of_ble_eq_true rfl, rfl, rfl⟩ rfl ho rfl rfl rfl hl.1 rfl rc0 rfl dX12_planNext_54 ⟨Nat.le_of_ble_eq_true rfl, Nat.le_of_ble_eq_true rfl⟩ (fun H locs hH => ?_)
      refine hl_aload_n hx hb dX12_planNext_57 rfl (lv_at hl 0 rfl) ?_
      refine g12_11 hx hb hts hown hKs hH rfl ho m2_230 dX12_planNext_58 ?_
      refine hl_aload_n hx hb dX12_planNext_61 rfl (lv_at hl 0 rfl) ?_
      refine g12_5 hx hb hts hown hKs hH rfl ho m2_224 dX12_planNext_62 ?_
      refine lv_iload_n hx hb dX12_planNext_65 rfl (lv_at hl 1 rfl) ?_
      obtain ⟨a12, ha12, hf⟩ := bnd hf
      replace ha12 := chk_some ha12
      obtain ⟨q13, hq13, hf⟩ := bnd hf
      refine hcV_v hx hb hml hown hts hKs hT hb0 hH (As := [rv E (wR q11 1205 o), .int a_1]) (rest := []) (k_X6_setFound l E K H.size a12 (wR q11 1205 o) a_1 q11 ha12.2 hq13) (gV m6_72 m4_182 m4_183 m1_14 m4_184) hd_X6_setFound ⟨Nat.le_of_ble_eq_true rfl, Nat.le_of_ble_eq_true rfl, rfl, rfl⟩ ha12.1 ha12.2 rfl rfl rfl hl.1 rfl rc0 rfl dX12_planNext_66 ⟨Nat.le_of_ble_eq_true rfl, Nat.le_of_ble_eq_true rfl⟩ (fun H locs hH => ?_)
      refine hl_aload_n hx hb dX12_planNext_69 rfl (lv_at hl 0 rfl) ?_
      refine g12_11 hx hb hts hown hKs hH rfl ho m2_230 dX12_planNext_70 ?_
      obtain ⟨a14, ha14, hf⟩ := bnd hf
      replace ha14 := chk_some ha14
      refine gn6_8 hx hb hts hown hKs hH ha14.1 ha14.2 m2_165 dX12_planNext_73 ?_
      exact hx_iret hx hb (Nat.le_of_ble_eq_true rfl) (Nat.le_of_ble_eq_true rfl) hret hf hH hlocks dX12_planNext_76
    · replace hf := (if_pos c10).symm.trans hf
      exact hx_throw hx hb hls (code := 4) hml hl.1 hown hts hKs hT hb0 hH (by decide) rfl m6_1 m1_30 hat_RX12_305 dX12_planNext_45 dX12_planNext_48 dX12_planNext_49 dX12_planNext_52 hout (Nat.le_of_ble_eq_true rfl) rc0 (Nat.le_of_ble_eq_true rfl) (Nat.le_of_ble_eq_true rfl) (Nat.le_of_ble_eq_true rfl) hlocks hf (Nat.le_of_ble_eq_true rfl) (Nat.le_of_ble_eq_true rfl)
  · replace hf := (if_neg c7).symm.trans hf
    exact hx_throw hx hb hls (code := 3) hml hl.1 hown hts hKs hT hb0 hH (by decide) rfl m5_194 m1_29 hat_RX12_333 dX12_planNext_21 dX12_planNext_24 dX12_planNext_25 dX12_planNext_28 hout (Nat.le_of_ble_eq_true rfl) rc0 (Nat.le_of_ble_eq_true rfl) (Nat.le_of_ble_eq_true rfl) (Nat.le_of_ble_eq_true rfl) hlocks hf (Nat.le_of_ble_eq_true rfl) (Nat.le_of_ble_eq_true rfl)

theorem dX12_planAll_0 : decode cX12_planAll 0 = .ok (.aload_n 0, 1) := by decide +kernel
theorem dX12_planAll_1 : decode cX12_planAll 1 = .ok (.invokevirtual 325, 3) := by decide +kernel
theorem dX12_planAll_4 : decode cX12_planAll 4 = .ok (.aload_n 0, 1) := by decide +kernel
theorem dX12_planAll_5 : decode cX12_planAll 5 = .ok (.getfield 52, 3) := by decide +kernel
theorem dX12_planAll_8 : decode cX12_planAll 8 = .ok (.aload_n 0, 1) := by decide +kernel
theorem dX12_planAll_9 : decode cX12_planAll 9 = .ok (.getfield 35, 3) := by decide +kernel
theorem dX12_planAll_12 : decode cX12_planAll 12 = .ok (.iconst 0, 1) := by decide +kernel
theorem dX12_planAll_13 : decode cX12_planAll 13 = .ok (.invokevirtual 342, 3) := by decide +kernel
theorem dX12_planAll_16 : decode cX12_planAll 16 = .ok (.ireturn, 1) := by decide +kernel
theorem hd_X12_planAll : yX12_planAll.cls = RX12 ∧ yX12_planAll.cls ≠ "java/lang/invoke/MethodHandle" ∧ yX12_planAll.cls ≠ "java/lang/invoke/VarHandle" ∧ (parseMethodDescriptor yX12_planAll.desc).map (fun d => d.parameters.length) = some 0 := by decide +kernel
theorem hs_X12_planAll : yX12_planAll.cls ≠ "java/lang/invoke/MethodHandle" ∧ yX12_planAll.cls ≠ "java/lang/invoke/VarHandle" ∧ (parseMethodDescriptor yX12_planAll.desc).map (fun d => d.parameters.length) = some 0 := by decide +kernel
set_option maxHeartbeats 4000000 in
set_option maxRecDepth 100000 in
theorem k_X12_planAll (l : Launch) (E : Ev) (K : Kd) (z : Nat) (o : Nat) (w : Wd) (ho : K o = some (10, 0)) {r : Int32} {w' : Wd} (hf : f_X12_planAll K o w = some (r, w')) : Met l yX12_planAll (Cond.code yX12_planAll cX12_planAll 1 (Option.some Jvm.ClassFile.FieldType.int) :: bt) ({ frames := 6, cells := 0, slots := 0, locals := 153 } : Room) (va_Pc [rv E (some o)] (HB E K w z)) (QI E K z w' r) 0 0 (hA E) := by
  refine Met.ofW (cc := cX12_planAll) (maxL := 1) (ret := (Option.some Jvm.ClassFile.FieldType.int)) (by decide) rfl ?_
  intro p e s m args below meth c s₁ B hml hv
  obtain ⟨rfl, hz, hP, hKs, hT, hb0⟩ := hv
  have C : CX p l e s m _ meth c cX12_planAll 1 RX12 (Option.some Jvm.ClassFile.FieldType.int) E := ⟨B.exec, B.bytes, hml, findClass_of_methodNamed B.named, fun w h => atoms_spec (ws := Cond.code yX12_planAll cX12_planAll 1 (Option.some Jvm.ClassFile.FieldType.int) :: bt) B.pre w (List.mem_cons_of_mem _ h), hKs, hT, by rw [hz]; exact hb0, B.notSynchronized, B.returns⟩
  have hH : HQ E K z w s s.heap [] := ⟨hP, va_S.rf, hz⟩
  obtain ⟨hx, hb, hml, hown, hts, hKs, hT, hb0, hlocks, hret⟩ := id C
  have hl := lv_entry [rv E (some o)] (n := 1) (by simp [lg_len_nil, lg_len_i, lg_len_j, lg_len_q, lg_len_f, lg_len_d, lg_len_r])
  rw [lg_entry_eq]
  generalize (lg_sl [rv E (some o)] ++ List.replicate (1 - (lg_sl [rv E (some o)]).length) Slot.unset).toArray = ls at hl ⊢
  replace hl : lv_has ls 1 [(0, rv E (some o))] := by simpa only [lv_args, cat_q, cat_i, cat_j, reduceIte, Nat.reduceEqDiff, Nat.reduceAdd, Nat.zero_add] using hl
  generalize s.heap = H at hH ⊢
  unfold f_X12_planAll at hf
  refine hl_aload_n hx hb dX12_planAll_0 rfl (lv_at hl 0 rfl) ?_
  obtain ⟨q1, hq1, hf⟩ := bnd hf
  refine hcV_v hx hb hml hown hts hKs hT hb0 hH (As := []) (rest := []) (k_X12_remember l E K H.size o w ho hq1) (gV m4_82 m4_84 ms_23 m1_1 m4_85) hd_X12_remember ⟨Nat.le_of_ble_eq_true rfl, Nat.le_of_ble_eq_true rfl, rfl, rfl⟩ rfl ho rfl rfl rfl hl.1 rfl rc0 rfl dX12_planAll_1 ⟨Nat.zero_le _, Nat.zero_le _⟩ (fun H locs hH => ?_)
  refine hl_aload_n hx hb dX12_planAll_4 rfl (lv_at hl 0 rfl) ?_
  refine g12_11 hx hb hts hown hKs hH rfl ho m2_230 dX12_planAll_5 ?_
  refine hl_aload_n hx hb dX12_planAll_8 rfl (lv_at hl 0 rfl) ?_
  refine g12_5 hx hb hts hown hKs hH rfl ho m2_224 dX12_planAll_9 ?_
  refine lv_iconst (v := 0) hx hb dX12_planAll_12 (by decide) ?_
  obtain ⟨a2, ha2, hf⟩ := bnd hf
  replace ha2 := chk_some ha2
  obtain ⟨q3, hq3, hf⟩ := bnd hf
  refine hcV_i hx hb hml hown hts hKs hT hb0 hH (As := [rv E (wR q1 1205 o), .int 0]) (rest := []) (k_X6_planWaiting l E K H.size a2 (wR q1 1205 o) 0 q1 ha2.2 hq3) (gV m4_95 m4_96 m4_97 m1_14 m4_98) hd_X6_planWaiting ⟨Nat.le_of_ble_eq_true rfl, Nat.le_of_ble_eq_true rfl, rfl, rfl⟩ ha2.1 ha2.2 rfl rfl rfl hl.1 rfl rc0 rfl dX12_planAll_13 ⟨Nat.zero_le _, Nat.zero_le _⟩ (fun H locs hH => ?_)
  exact hw_iret hx hb hret hf hH hlocks dX12_planAll_16

theorem dX12_forecastPlanned_0 : decode cX12_forecastPlanned 0 = .ok (.aload_n 0, 1) := by decide +kernel
theorem dX12_forecastPlanned_1 : decode cX12_forecastPlanned 1 = .ok (.getfield 42, 3) := by decide +kernel
theorem dX12_forecastPlanned_4 : decode cX12_forecastPlanned 4 = .ok (.aload_n 0, 1) := by decide +kernel
theorem dX12_forecastPlanned_5 : decode cX12_forecastPlanned 5 = .ok (.getfield 35, 3) := by decide +kernel
theorem dX12_forecastPlanned_8 : decode cX12_forecastPlanned 8 = .ok (.invokevirtual 362, 3) := by decide +kernel
theorem dX12_forecastPlanned_11 : decode cX12_forecastPlanned 11 = .ok (.aload_n 0, 1) := by decide +kernel
theorem dX12_forecastPlanned_12 : decode cX12_forecastPlanned 12 = .ok (.getfield 52, 3) := by decide +kernel
theorem dX12_forecastPlanned_15 : decode cX12_forecastPlanned 15 = .ok (.aload_n 0, 1) := by decide +kernel
theorem dX12_forecastPlanned_16 : decode cX12_forecastPlanned 16 = .ok (.getfield 42, 3) := by decide +kernel
theorem dX12_forecastPlanned_19 : decode cX12_forecastPlanned 19 = .ok (.iload_n 1, 1) := by decide +kernel
theorem dX12_forecastPlanned_20 : decode cX12_forecastPlanned 20 = .ok (.invokevirtual 342, 3) := by decide +kernel
theorem dX12_forecastPlanned_23 : decode cX12_forecastPlanned 23 = .ok (.ireturn, 1) := by decide +kernel
theorem hd_X12_forecastPlanned : yX12_forecastPlanned.cls = RX12 ∧ yX12_forecastPlanned.cls ≠ "java/lang/invoke/MethodHandle" ∧ yX12_forecastPlanned.cls ≠ "java/lang/invoke/VarHandle" ∧ (parseMethodDescriptor yX12_forecastPlanned.desc).map (fun d => d.parameters.length) = some 1 := by decide +kernel
theorem hs_X12_forecastPlanned : yX12_forecastPlanned.cls ≠ "java/lang/invoke/MethodHandle" ∧ yX12_forecastPlanned.cls ≠ "java/lang/invoke/VarHandle" ∧ (parseMethodDescriptor yX12_forecastPlanned.desc).map (fun d => d.parameters.length) = some 1 := by decide +kernel
set_option maxHeartbeats 4000000 in
set_option maxRecDepth 100000 in
theorem k_X12_forecastPlanned (l : Launch) (E : Ev) (K : Kd) (z : Nat) (o : Nat) (a_1 : Int32) (w : Wd) (ho : K o = some (10, 0)) {r : Int32} {w' : Wd} (hf : f_X12_forecastPlanned K o a_1 w = some (r, w')) : Met l yX12_forecastPlanned (Cond.code yX12_forecastPlanned cX12_forecastPlanned 2 (Option.some Jvm.ClassFile.FieldType.int) :: bt) ({ frames := 6, cells := 0, slots := 0, locals := 153 } : Room) (va_Pc [rv E (some o), .int a_1] (HB E K w z)) (QI E K z w' r) 0 0 (hA E) := by
  refine Met.ofW (cc := cX12_forecastPlanned) (maxL := 2) (ret := (Option.some Jvm.ClassFile.FieldType.int)) (by decide) rfl ?_
  intro p e s m args below meth c s₁ B hml hv
  obtain ⟨rfl, hz, hP, hKs, hT, hb0⟩ := hv
  have C : CX p l e s m _ meth c cX12_forecastPlanned 2 RX12 (Option.some Jvm.ClassFile.FieldType.int) E := ⟨B.exec, B.bytes, hml, findClass_of_methodNamed B.named, fun w h => atoms_spec (ws := Cond.code yX12_forecastPlanned cX12_forecastPlanned 2 (Option.some Jvm.ClassFile.FieldType.int) :: bt) B.pre w (List.mem_cons_of_mem _ h), hKs, hT, by rw [hz]; exact hb0, B.notSynchronized, B.returns⟩
  have hH : HQ E K z w s s.heap [] := ⟨hP, va_S.rf, hz⟩
  obtain ⟨hx, hb, hml, hown, hts, hKs, hT, hb0, hlocks, hret⟩ := id C
  have hl := lv_entry [rv E (some o), .int a_1] (n := 2) (by simp [lg_len_nil, lg_len_i, lg_len_j, lg_len_q, lg_len_f, lg_len_d, lg_len_r])
  rw [lg_entry_eq]
  generalize (lg_sl [rv E (some o), .int a_1] ++ List.replicate (2 - (lg_sl [rv E (some o), .int a_1]).length) Slot.unset).toArray = ls at hl ⊢
  replace hl : lv_has ls 2 [(0, rv E (some o)), (1, .int a_1)] := by simpa only [lv_args, cat_q, cat_i, cat_j, reduceIte, Nat.reduceEqDiff, Nat.reduceAdd, Nat.zero_add] using hl
  generalize s.heap = H at hH ⊢
  unfold f_X12_forecastPlanned at hf
  refine hl_aload_n hx hb dX12_forecastPlanned_0 rfl (lv_at hl 0 rfl) ?_
  refine g12_8 hx hb hts hown hKs hH rfl ho m2_227 dX12_forecastPlanned_1 ?_
  refine hl_aload_n hx hb dX12_forecastPlanned_4 rfl (lv_at hl 0 rfl) ?_
  refine g12_5 hx hb hts hown hKs hH rfl ho m2_224 dX12_forecastPlanned_5 ?_
  obtain ⟨a1, ha1, hf⟩ := bnd hf
  replace ha1 := chk_some ha1
  obtain ⟨q2, hq2, hf⟩ := bnd hf
  refine hcV_v hx hb hml hown hts hKs hT hb0 hH (As := [rv E (wR w 1205 o)]) (rest := []) (k_X10_copyFrom l E K H.size a1 (wR w 1205 o) w ha1.2 hq2) (gV m4_86 m4_87 m4_88 m1_12 m4_89) hd_X10_copyFrom ⟨Nat.le_of_ble_eq_true rfl, Nat.le_of_ble_eq_true rfl, rfl, rfl⟩ ha1.1 ha1.2 rfl rfl rfl hl.1 rfl rc0 rfl dX12_forecastPlanned_8 ⟨Nat.zero_le _, Nat.zero_le _⟩ (fun H locs hH => ?_)
  refine hl_aload_n hx hb dX12_forecastPlanned_11 rfl (lv_at hl 0 rfl) ?_
  refine g12_11 hx hb hts hown hKs hH rfl ho m2_230 dX12_forecastPlanned_12 ?_
  refine hl_aload_n hx hb dX12_forecastPlanned_15 rfl (lv_at hl 0 rfl) ?_
  refine g12_8 hx hb hts hown hKs hH rfl ho m2_227 dX12_forecastPlanned_16 ?_
  refine lv_iload_n hx hb dX12_forecastPlanned_19 rfl (lv_at hl 1 rfl) ?_
  obtain ⟨a3, ha3, hf⟩ := bnd hf
  replace ha3 := chk_some ha3
  obtain ⟨q4, hq4, hf⟩ := bnd hf
  refine hcV_i hx hb hml hown hts hKs hT hb0 hH (As := [rv E (wR q2 1208 o), .int a_1]) (rest := []) (k_X6_planWaiting l E K H.size a3 (wR q2 1208 o) a_1 q2 ha3.2 hq4) (gV m4_95 m4_96 m4_97 m1_14 m4_98) hd_X6_planWaiting ⟨Nat.le_of_ble_eq_true rfl, Nat.le_of_ble_eq_true rfl, rfl, rfl⟩ ha3.1 ha3.2 rfl rfl rfl hl.1 rfl rc0 rfl dX12_forecastPlanned_20 ⟨Nat.zero_le _, Nat.zero_le _⟩ (fun H locs hH => ?_)
  exact hw_iret hx hb hret hf hH hlocks dX12_forecastPlanned_23

theorem dX12_keyOfficer_0 : decode cX12_keyOfficer 0 = .ok (.aload_n 0, 1) := by decide +kernel
theorem dX12_keyOfficer_1 : decode cX12_keyOfficer 1 = .ok (.iconst 0, 1) := by decide +kernel
theorem dX12_keyOfficer_2 : decode cX12_keyOfficer 2 = .ok (.invokevirtual 366, 3) := by decide +kernel
theorem dX12_keyOfficer_5 : decode cX12_keyOfficer 5 = .ok (.istore_n 1, 1) := by decide +kernel
theorem dX12_keyOfficer_6 : decode cX12_keyOfficer 6 = .ok (.iconst (-1), 1) := by decide +kernel
theorem dX12_keyOfficer_7 : decode cX12_keyOfficer 7 = .ok (.istore_n 2, 1) := by decide +kernel
theorem dX12_keyOfficer_8 : decode cX12_keyOfficer 8 = .ok (.iconst 0, 1) := by decide +kernel
theorem dX12_keyOfficer_9 : decode cX12_keyOfficer 9 = .ok (.istore_n 3, 1) := by decide +kernel
theorem dX12_keyOfficer_10 : decode cX12_keyOfficer 10 = .ok (.iload_n 3, 1) := by decide +kernel
theorem dX12_keyOfficer_11 : decode cX12_keyOfficer 11 = .ok (.aload_n 0, 1) := by decide +kernel
theorem dX12_keyOfficer_12 : decode cX12_keyOfficer 12 = .ok (.getfield 35, 3) := by decide +kernel
theorem dX12_keyOfficer_15 : decode cX12_keyOfficer 15 = .ok (.getfield 87, 3) := by decide +kernel
theorem dX12_keyOfficer_18 : decode cX12_keyOfficer 18 = .ok (.iconst 1, 1) := by decide +kernel
theorem dX12_keyOfficer_19 : decode cX12_keyOfficer 19 = .ok (.invokevirtual 105, 3) := by decide +kernel
theorem dX12_keyOfficer_22 : decode cX12_keyOfficer 22 = .ok (.if_icmp .ge 29, 3) := by decide +kernel
theorem dX12_keyOfficer_25 : decode cX12_keyOfficer 25 = .ok (.aload_n 0, 1) := by decide +kernel
theorem dX12_keyOfficer_26 : decode cX12_keyOfficer 26 = .ok (.iconst 1, 1) := by decide +kernel
theorem dX12_keyOfficer_27 : decode cX12_keyOfficer 27 = .ok (.iload_n 3, 1) := by decide +kernel
theorem dX12_keyOfficer_28 : decode cX12_keyOfficer 28 = .ok (.ishl, 1) := by decide +kernel
theorem dX12_keyOfficer_29 : decode cX12_keyOfficer 29 = .ok (.invokevirtual 366, 3) := by decide +kernel
theorem dX12_keyOfficer_32 : decode cX12_keyOfficer 32 = .ok (.istore 4, 2) := by decide +kernel
theorem dX12_keyOfficer_34 : decode cX12_keyOfficer 34 = .ok (.iload 4, 2) := by decide +kernel
theorem dX12_keyOfficer_36 : decode cX12_keyOfficer 36 = .ok (.iload_n 1, 1) := by decide +kernel
theorem dX12_keyOfficer_37 : decode cX12_keyOfficer 37 = .ok (.if_icmp .ge 8, 3) := by decide +kernel
theorem dX12_keyOfficer_40 : decode cX12_keyOfficer 40 = .ok (.iload 4, 2) := by decide +kernel
theorem dX12_keyOfficer_42 : decode cX12_keyOfficer 42 = .ok (.istore_n 1, 1) := by decide +kernel
theorem dX12_keyOfficer_43 : decode cX12_keyOfficer 43 = .ok (.iload_n 3, 1) := by decide +kernel
theorem dX12_keyOfficer_44 : decode cX12_keyOfficer 44 = .ok (.istore_n 2, 1) := by decide +kernel
theorem dX12_keyOfficer_45 : decode cX12_keyOfficer 45 = .ok (.iinc 3 1, 3) := by decide +kernel
theorem dX12_keyOfficer_48 : decode cX12_keyOfficer 48 = .ok (.goto (-38), 3) := by decide +kernel
theorem dX12_keyOfficer_51 : decode cX12_keyOfficer 51 = .ok (.iload_n 2, 1) := by decide +kernel
theorem dX12_keyOfficer_52 : decode cX12_keyOfficer 52 = .ok (.ireturn, 1) := by decide +kernel
theorem hd_X12_keyOfficer : yX12_keyOfficer.cls = RX12 ∧ yX12_keyOfficer.cls ≠ "java/lang/invoke/MethodHandle" ∧ yX12_keyOfficer.cls ≠ "java/lang/invoke/VarHandle" ∧ (parseMethodDescriptor yX12_keyOfficer.desc).map (fun d => d.parameters.length) = some 0 := by decide +kernel
theorem hs_X12_keyOfficer : yX12_keyOfficer.cls ≠ "java/lang/invoke/MethodHandle" ∧ yX12_keyOfficer.cls ≠ "java/lang/invoke/VarHandle" ∧ (parseMethodDescriptor yX12_keyOfficer.desc).map (fun d => d.parameters.length) = some 0 := by decide +kernel
set_option maxHeartbeats 4000000 in
set_option maxRecDepth 100000 in
theorem l_X12_keyOfficer_L10 (C : CX p l e s m args meth c cX12_keyOfficer 5 RX12 (Option.some Jvm.ClassFile.FieldType.int) E) {o : Nat} (ho : K o = some (10, 0)) {r : Int32} {w' : Wd} (k : Int32 → Int32 → Int32 → Wd → Option (Int32 × Wd)) (hk : ∀ (v1_10 : Int32) (v2_10 : Int32) (v3_10 : Int32) (w : Wd) (H : Heap) (locs : List Loc) (ls : Array Slot), HQ E K z w s H locs → lv_has ls 5 [(1, .int v1_10), (2, .int v2_10), (3, .int v3_10), (0, rv E (some o))] → k v1_10 v2_10 v3_10 w = some (r, w') → W p l e ({ frames := 7, cells := 0, slots := 0, locals := 174 } : Room) s m args below meth c H locs 0 0 (MQ below (QI E K z w' r) args s 0 0 (hA E)) (F0 m 51 ls [])) : ∀ (n : Nat) (v1_10 : Int32) (v2_10 : Int32) (v3_10 : Int32) (w : Wd) (H : Heap) (locs : List Loc) (ls : Array Slot), HQ E K z w s H locs → lv_has ls 5 [(1, .int v1_10), (2, .int v2_10), (3, .int v3_10), (0, rv E (some o))] → f_X12_keyOfficer_L10 K o k n v1_10 v2_10 v3_10 w = some (r, w') → W p l e ({ frames := 7, cells := 0, slots := 0, locals := 174 } : Room) s m args below meth c H locs 0 0 (MQ below (QI E K z w' r) args s 0 0 (hA E)) (F0 m 10 ls []) := by
  obtain ⟨hx, hb, hml, hown, hts, hKs, hT, hb0, hlocks, hret⟩ := id C
  intro n
  induction n with
  | zero =>
    intro v1_10 v2_10 v3_10 w H locs ls hH hl hf
    cases hf
  | succ n ih =>
    intro v1_10 v2_10 v3_10 w H locs ls hH hl hf
    rw [f_X12_keyOfficer_L10] at hf
    refine lv_iload_n hx hb dX12_keyOfficer_10 rfl (lv_at hl 2 rfl) ?_
    refine hl_aload_n hx hb dX12_keyOfficer_11 rfl (lv_at hl 3 rfl) ?_
    refine g12_5 hx hb hts hown hKs hH rfl ho m2_224 dX12_keyOfficer_12 ?_
    obtain ⟨a3, ha3, hf⟩ := bnd hf
    replace ha3 := chk_some ha3
    refine gn10_0 hx hb hts hown hKs hH ha3.1 ha3.2 m2_122 dX12_keyOfficer_15 ?_
    refine lv_iconst (v := 1) hx hb dX12_keyOfficer_18 (by decide) ?_
    obtain ⟨a4, ha4, hf⟩ := bnd hf
    replace ha4 := chk_some ha4
    obtain ⟨q5, hq5, hf⟩ := bnd hf
    refine hcV_i hx hb hml hown hts hKs hT hb0 hH (As := [.int 1]) (rest := [.int v3_10]) (k_X9_size l E K H.size a4 1 w ha4.2 hq5) (gV m3_229 m3_151 m3_152 m1_2 m3_153) hd_X9_size ⟨Nat.le_of_ble_eq_true rfl, Nat.le_of_ble_eq_true rfl, rfl, rfl⟩ ha4.1 ha4.2 rfl rfl rfl hl.1 rfl (rcI rc0) rfl dX12_keyOfficer_19 ⟨Nat.zero_le _, Nat.zero_le _⟩ (fun H locs hH => ?_)
    refine lv_icmp_ge (tgt := 51) hx hb dX12_keyOfficer_22 (by decide) (fun c6 => ?_) (fun c6 => ?_)
    · replace hf := (if_pos c6).symm.trans hf
      exact hk v1_10 v2_10 v3_10 _ _ _ _ hH (lv_sub hl [0, 1, 2, 3] rfl) hf
    · replace hf := (if_neg c6).symm.trans hf
      refine hl_aload_n hx hb dX12_keyOfficer_25 rfl (lv_at hl 3 rfl) ?_
      refine lv_iconst (v := 1) hx hb dX12_keyOfficer_26 (by decide) ?_
      refine lv_iload_n hx hb dX12_keyOfficer_27 rfl (lv_at hl 2 rfl) ?_
      refine lv_ishl hx hb dX12_keyOfficer_28 ?_
      obtain ⟨q7, hq7, hf⟩ := bnd hf
      refine hcV_i hx hb hml hown hts hKs hT hb0 hH (As := [.int ((1 <<< (v3_10 &&& 31)))]) (rest := []) (k_X12_forecastPlanned l E K H.size o (1 <<< (v3_10 &&& 31)) q5.2 ho hq7) (gV m4_193 m4_195 ms_30 m1_1 m4_196) hd_X12_forecastPlanned ⟨Nat.le_of_ble_eq_true rfl, Nat.le_of_ble_eq_true rfl, rfl, rfl⟩ rfl ho rfl rfl rfl hl.1 rfl rc0 rfl dX12_keyOfficer_29 ⟨Nat.zero_le _, Nat.zero_le _⟩ (fun H locs hH => ?_)
      refine lv_istore (i := 4) (lv' := [(4, .int (q7.1)), (1, .int v1_10), (2, .int v2_10), (3, .int v3_10), (0, rv E (some o))]) hx hb dX12_keyOfficer_32 hl (by decide) rfl (fun ls hl => ?_)
      refine lv_iload hx hb dX12_keyOfficer_34 (lv_at hl 0 rfl) ?_
      refine lv_iload_n hx hb dX12_keyOfficer_36 rfl (lv_at hl 1 rfl) ?_
      refine lv_icmp_ge (tgt := 45) hx hb dX12_keyOfficer_37 (by decide) (fun c8 => ?_) (fun c8 => ?_)
      · replace hf := (if_pos c8).symm.trans hf
        refine lv_iinc (v := (v3_10 + 1)) (lv' := [(3, .int ((v3_10 + 1))), (4, .int (q7.1)), (1, .int v1_10), (2, .int v2_10), (0, rv E (some o))]) hx hb dX12_keyOfficer_45 hl (k := 3) rfl rfl (by decide) rfl (fun ls hl => ?_)
        refine lv_goto (tgt := 10) hx hb dX12_keyOfficer_48 (by decide) ?_
        exact ih v1_10 v2_10 (v3_10 + 1) _ _ _ _ hH (lv_sub hl [2, 3, 0, 4] rfl) hf
      · replace hf := (if_neg c8).symm.trans hf
        refine lv_iload hx hb dX12_keyOfficer_40 (lv_at hl 0 rfl) ?_
        refine lv_istore_n (i := 1) (lv' := [(1, .int (q7.1)), (4, .int (q7.1)), (2, .int v2_10), (3, .int v3_10), (0, rv E (some o))]) hx hb dX12_keyOfficer_42 rfl hl (by decide) rfl (fun ls hl => ?_)
        refine lv_iload_n hx hb dX12_keyOfficer_43 rfl (lv_at hl 3 rfl) ?_
        refine lv_istore_n (i := 2) (lv' := [(2, .int v3_10), (1, .int (q7.1)), (4, .int (q7.1)), (3, .int v3_10), (0, rv E (some o))]) hx hb dX12_keyOfficer_44 rfl hl (by decide) rfl (fun ls hl => ?_)
        refine lv_iinc (v := (v3_10 + 1)) (lv' := [(3, .int ((v3_10 + 1))), (2, .int v3_10), (1, .int (q7.1)), (4, .int (q7.1)), (0, rv E (some o))]) hx hb dX12_keyOfficer_45 hl (k := 3) rfl rfl (by decide) rfl (fun ls hl => ?_)
        refine lv_goto (tgt := 10) hx hb dX12_keyOfficer_48 (by decide) ?_
        exact ih q7.1 v3_10 (v3_10 + 1) _ _ _ _ hH (lv_sub hl [2, 1, 0, 4] rfl) hf
set_option maxHeartbeats 4000000 in
set_option maxRecDepth 100000 in
theorem k_X12_keyOfficer (l : Launch) (E : Ev) (K : Kd) (z : Nat) (o : Nat) (w : Wd) (ho : K o = some (10, 0)) {r : Int32} {w' : Wd} (hf : f_X12_keyOfficer K o w = some (r, w')) : Met l yX12_keyOfficer (Cond.code yX12_keyOfficer cX12_keyOfficer 5 (Option.some Jvm.ClassFile.FieldType.int) :: bt) ({ frames := 7, cells := 0, slots := 0, locals := 174 } : Room) (va_Pc [rv E (some o)] (HB E K w z)) (QI E K z w' r) 0 0 (hA E) := by
  refine Met.ofW (cc := cX12_keyOfficer) (maxL := 5) (ret := (Option.some Jvm.ClassFile.FieldType.int)) (by decide) rfl ?_
  intro p e s m args below meth c s₁ B hml hv
  obtain ⟨rfl, hz, hP, hKs, hT, hb0⟩ := hv
  have C : CX p l e s m _ meth c cX12_keyOfficer 5 RX12 (Option.some Jvm.ClassFile.FieldType.int) E := ⟨B.exec, B.bytes, hml, findClass_of_methodNamed B.named, fun w h => atoms_spec (ws := Cond.code yX12_keyOfficer cX12_keyOfficer 5 (Option.some Jvm.ClassFile.FieldType.int) :: bt) B.pre w (List.mem_cons_of_mem _ h), hKs, hT, by rw [hz]; exact hb0, B.notSynchronized, B.returns⟩
  have hH : HQ E K z w s s.heap [] := ⟨hP, va_S.rf, hz⟩
  obtain ⟨hx, hb, hml, hown, hts, hKs, hT, hb0, hlocks, hret⟩ := id C
  have hl := lv_entry [rv E (some o)] (n := 5) (by simp [lg_len_nil, lg_len_i, lg_len_j, lg_len_q, lg_len_f, lg_len_d, lg_len_r])
  rw [lg_entry_eq]
  generalize (lg_sl [rv E (some o)] ++ List.replicate (5 - (lg_sl [rv E (some o)]).length) Slot.unset).toArray = ls at hl ⊢
  replace hl : lv_has ls 5 [(0, rv E (some o))] := by simpa only [lv_args, cat_q, cat_i, cat_j, reduceIte, Nat.reduceEqDiff, Nat.reduceAdd, Nat.zero_add] using hl
  generalize s.heap = H at hH ⊢
  unfold f_X12_keyOfficer at hf
  refine hl_aload_n hx hb dX12_keyOfficer_0 rfl (lv_at hl 0 rfl) ?_
  refine lv_iconst (v := 0) hx hb dX12_keyOfficer_1 (by decide) ?_
  obtain ⟨q1, hq1, hf⟩ := bnd hf
  refine hcV_i hx hb hml hown hts hKs hT hb0 hH (As := [.int 0]) (rest := []) (k_X12_forecastPlanned l E K H.size o 0 w ho hq1) (gV m4_193 m4_195 ms_30 m1_1 m4_196) hd_X12_forecastPlanned ⟨Nat.le_of_ble_eq_true rfl, Nat.le_of_ble_eq_true rfl, rfl, rfl⟩ rfl ho rfl rfl rfl hl.1 rfl rc0 rfl dX12_keyOfficer_2 ⟨Nat.zero_le _, Nat.zero_le _⟩ (fun H locs hH => ?_)
  refine lv_istore_n (i := 1) (lv' := [(1, .int (q1.1)), (0, rv E (some o))]) hx hb dX12_keyOfficer_5 rfl hl (by decide) rfl (fun ls hl => ?_)
  refine lv_iconst (v := (-1)) hx hb dX12_keyOfficer_6 (by decide) ?_
  refine lv_istore_n (i := 2) (lv' := [(2, .int ((-1))), (1, .int (q1.1)), (0, rv E (some o))]) hx hb dX12_keyOfficer_7 rfl hl (by decide) rfl (fun ls hl => ?_)
  refine lv_iconst (v := 0) hx hb dX12_keyOfficer_8 (by decide) ?_
  refine lv_istore_n (i := 3) (lv' := [(3, .int 0), (2, .int ((-1))), (1, .int (q1.1)), (0, rv E (some o))]) hx hb dX12_keyOfficer_9 rfl hl (by decide) rfl (fun ls hl => ?_)
  refine l_X12_keyOfficer_L10  C ho _ (fun v1_10 v2_10 v3_10 w2 H locs ls hH hl hf => ?_) fu q1.1 (-1) 0 q1.2 _ _ _ hH (lv_sub hl [2, 1, 0, 3] rfl) hf
  refine lv_iload_n hx hb dX12_keyOfficer_51 rfl (lv_at hl 1 rfl) ?_
  exact hw_iret hx hb hret hf hH hlocks dX12_keyOfficer_52

theorem dX13_next_0 : decode cX13_next 0 = .ok (.aload_n 0, 1) := by decide +kernel
theorem dX13_next_1 : decode cX13_next 1 = .ok (.aload_n 0, 1) := by decide +kernel
theorem dX13_next_2 : decode cX13_next 2 = .ok (.getfield 337, 3) := by decide +kernel
theorem dX13_next_5 : decode cX13_next 5 = .ok (.invokevirtual 340, 3) := by decide +kernel
theorem dX13_next_8 : decode cX13_next 8 = .ok (.bipush 32, 2) := by decide +kernel
theorem dX13_next_10 : decode cX13_next 10 = .ok (.if_icmp .eq 16, 3) := by decide +kernel
theorem dX13_next_13 : decode cX13_next 13 = .ok (.aload_n 0, 1) := by decide +kernel
theorem dX13_next_14 : decode cX13_next 14 = .ok (.aload_n 0, 1) := by decide +kernel
theorem dX13_next_15 : decode cX13_next 15 = .ok (.getfield 337, 3) := by decide +kernel
theorem dX13_next_18 : decode cX13_next 18 = .ok (.invokevirtual 340, 3) := by decide +kernel
theorem dX13_next_21 : decode cX13_next 21 = .ok (.bipush 10, 2) := by decide +kernel
theorem dX13_next_23 : decode cX13_next 23 = .ok (.if_icmp .ne 16, 3) := by decide +kernel
theorem dX13_next_26 : decode cX13_next 26 = .ok (.aload_n 0, 1) := by decide +kernel
theorem dX13_next_27 : decode cX13_next 27 = .ok (.aload_n 0, 1) := by decide +kernel
theorem dX13_next_28 : decode cX13_next 28 = .ok (.getfield 337, 3) := by decide +kernel
theorem dX13_next_31 : decode cX13_next 31 = .ok (.iconst 1, 1) := by decide +kernel
theorem dX13_next_32 : decode cX13_next 32 = .ok (.iadd, 1) := by decide +kernel
theorem dX13_next_33 : decode cX13_next 33 = .ok (.putfield 337, 3) := by decide +kernel
theorem dX13_next_36 : decode cX13_next 36 = .ok (.goto (-36), 3) := by decide +kernel
theorem dX13_next_39 : decode cX13_next 39 = .ok (.aload_n 0, 1) := by decide +kernel
theorem dX13_next_40 : decode cX13_next 40 = .ok (.aload_n 0, 1) := by decide +kernel
theorem dX13_next_41 : decode cX13_next 41 = .ok (.getfield 337, 3) := by decide +kernel
theorem dX13_next_44 : decode cX13_next 44 = .ok (.putfield 343, 3) := by decide +kernel
theorem dX13_next_47 : decode cX13_next 47 = .ok (.aload_n 0, 1) := by decide +kernel
theorem dX13_next_48 : decode cX13_next 48 = .ok (.aload_n 0, 1) := by decide +kernel
theorem dX13_next_49 : decode cX13_next 49 = .ok (.getfield 337, 3) := by decide +kernel
theorem dX13_next_52 : decode cX13_next 52 = .ok (.invokevirtual 340, 3) := by decide +kernel
theorem dX13_next_55 : decode cX13_next 55 = .ok (.istore_n 1, 1) := by decide +kernel
theorem dX13_next_56 : decode cX13_next 56 = .ok (.iload_n 1, 1) := by decide +kernel
theorem dX13_next_57 : decode cX13_next 57 = .ok (.iconst (-1), 1) := by decide +kernel
theorem dX13_next_58 : decode cX13_next 58 = .ok (.if_icmp .ne 11, 3) := by decide +kernel
theorem dX13_next_61 : decode cX13_next 61 = .ok (.aload_n 0, 1) := by decide +kernel
theorem dX13_next_62 : decode cX13_next 62 = .ok (.iconst 0, 1) := by decide +kernel
theorem dX13_next_63 : decode cX13_next 63 = .ok (.putfield 346, 3) := by decide +kernel
theorem dX13_next_66 : decode cX13_next 66 = .ok (.goto 206, 3) := by decide +kernel
theorem dX13_next_69 : decode cX13_next 69 = .ok (.iload_n 1, 1) := by decide +kernel
theorem dX13_next_70 : decode cX13_next 70 = .ok (.i2l, 1) := by decide +kernel
theorem dX13_next_71 : decode cX13_next 71 = .ok (.ldc2_w 349, 3) := by decide +kernel
theorem dX13_next_74 : decode cX13_next 74 = .ok (.ldc2_w 351, 3) := by decide +kernel
theorem dX13_next_77 : decode cX13_next 77 = .ok (.invokestatic 123, 3) := by decide +kernel
theorem dX13_next_80 : decode cX13_next 80 = .ok (.ifCond .eq 53, 3) := by decide +kernel
theorem dX13_next_83 : decode cX13_next 83 = .ok (.aload_n 0, 1) := by decide +kernel
theorem dX13_next_84 : decode cX13_next 84 = .ok (.aload_n 0, 1) := by decide +kernel
theorem dX13_next_85 : decode cX13_next 85 = .ok (.getfield 337, 3) := by decide +kernel
theorem dX13_next_88 : decode cX13_next 88 = .ok (.invokevirtual 340, 3) := by decide +kernel
theorem dX13_next_91 : decode cX13_next 91 = .ok (.i2l, 1) := by decide +kernel
theorem dX13_next_92 : decode cX13_next 92 = .ok (.ldc2_w 349, 3) := by decide +kernel
theorem dX13_next_95 : decode cX13_next 95 = .ok (.ldc2_w 351, 3) := by decide +kernel
theorem dX13_next_98 : decode cX13_next 98 = .ok (.invokestatic 123, 3) := by decide +kernel
theorem dX13_next_101 : decode cX13_next 101 = .ok (.ifCond .eq 16, 3) := by decide +kernel
theorem dX13_next_104 : decode cX13_next 104 = .ok (.aload_n 0, 1) := by decide +kernel
theorem dX13_next_105 : decode cX13_next 105 = .ok (.aload_n 0, 1) := by decide +kernel
theorem dX13_next_106 : decode cX13_next 106 = .ok (.getfield 337, 3) := by decide +kernel
theorem dX13_next_109 : decode cX13_next 109 = .ok (.iconst 1, 1) := by decide +kernel
theorem dX13_next_110 : decode cX13_next 110 = .ok (.iadd, 1) := by decide +kernel
theorem dX13_next_111 : decode cX13_next 111 = .ok (.putfield 337, 3) := by decide +kernel
theorem dX13_next_114 : decode cX13_next 114 = .ok (.goto (-31), 3) := by decide +kernel
theorem dX13_next_117 : decode cX13_next 117 = .ok (.aload_n 0, 1) := by decide +kernel
theorem dX13_next_118 : decode cX13_next 118 = .ok (.iconst 1, 1) := by decide +kernel
theorem dX13_next_119 : decode cX13_next 119 = .ok (.putfield 346, 3) := by decide +kernel
theorem dX13_next_122 : decode cX13_next 122 = .ok (.aload_n 0, 1) := by decide +kernel
theorem dX13_next_123 : decode cX13_next 123 = .ok (.aload_n 0, 1) := by decide +kernel
theorem dX13_next_124 : decode cX13_next 124 = .ok (.invokevirtual 353, 3) := by decide +kernel
theorem dX13_next_127 : decode cX13_next 127 = .ok (.putfield 356, 3) := by decide +kernel
theorem dX13_next_130 : decode cX13_next 130 = .ok (.goto 142, 3) := by decide +kernel
theorem dX13_next_133 : decode cX13_next 133 = .ok (.iload_n 1, 1) := by decide +kernel
theorem dX13_next_134 : decode cX13_next 134 = .ok (.i2l, 1) := by decide +kernel
theorem dX13_next_135 : decode cX13_next 135 = .ok (.ldc2_w 359, 3) := by decide +kernel
theorem dX13_next_138 : decode cX13_next 138 = .ok (.ldc2_w 361, 3) := by decide +kernel
theorem dX13_next_141 : decode cX13_next 141 = .ok (.invokestatic 123, 3) := by decide +kernel
theorem dX13_next_144 : decode cX13_next 144 = .ok (.ifCond .eq 103, 3) := by decide +kernel
theorem dX13_next_147 : decode cX13_next 147 = .ok (.aload_n 0, 1) := by decide +kernel
theorem dX13_next_148 : decode cX13_next 148 = .ok (.iconst 0, 1) := by decide +kernel
theorem dX13_next_149 : decode cX13_next 149 = .ok (.putfield 363, 3) := by decide +kernel
theorem dX13_next_152 : decode cX13_next 152 = .ok (.aload_n 0, 1) := by decide +kernel
theorem dX13_next_153 : decode cX13_next 153 = .ok (.aload_n 0, 1) := by decide +kernel
theorem dX13_next_154 : decode cX13_next 154 = .ok (.getfield 337, 3) := by decide +kernel
theorem dX13_next_157 : decode cX13_next 157 = .ok (.invokevirtual 340, 3) := by decide +kernel
theorem dX13_next_160 : decode cX13_next 160 = .ok (.i2l, 1) := by decide +kernel
theorem dX13_next_161 : decode cX13_next 161 = .ok (.ldc2_w 359, 3) := by decide +kernel
theorem dX13_next_164 : decode cX13_next 164 = .ok (.ldc2_w 361, 3) := by decide +kernel
theorem dX13_next_167 : decode cX13_next 167 = .ok (.invokestatic 123, 3) := by decide +kernel
theorem dX13_next_170 : decode cX13_next 170 = .ok (.ifCond .eq 52, 3) := by decide +kernel
theorem dX13_next_173 : decode cX13_next 173 = .ok (.aload_n 0, 1) := by decide +kernel
theorem dX13_next_174 : decode cX13_next 174 = .ok (.getfield 337, 3) := by decide +kernel
theorem dX13_next_177 : decode cX13_next 177 = .ok (.aload_n 0, 1) := by decide +kernel
theorem dX13_next_178 : decode cX13_next 178 = .ok (.getfield 343, 3) := by decide +kernel
theorem dX13_next_181 : decode cX13_next 181 = .ok (.isub, 1) := by decide +kernel
theorem dX13_next_182 : decode cX13_next 182 = .ok (.iconst 3, 1) := by decide +kernel
theorem dX13_next_183 : decode cX13_next 183 = .ok (.if_icmp .ge 26, 3) := by decide +kernel
theorem dX13_next_186 : decode cX13_next 186 = .ok (.aload_n 0, 1) := by decide +kernel
theorem dX13_next_187 : decode cX13_next 187 = .ok (.bipush 10, 2) := by decide +kernel
theorem dX13_next_189 : decode cX13_next 189 = .ok (.aload_n 0, 1) := by decide +kernel
theorem dX13_next_190 : decode cX13_next 190 = .ok (.getfield 363, 3) := by decide +kernel
theorem dX13_next_193 : decode cX13_next 193 = .ok (.imul, 1) := by decide +kernel
theorem dX13_next_194 : decode cX13_next 194 = .ok (.aload_n 0, 1) := by decide +kernel
theorem dX13_next_195 : decode cX13_next 195 = .ok (.aload_n 0, 1) := by decide +kernel
theorem dX13_next_196 : decode cX13_next 196 = .ok (.getfield 337, 3) := by decide +kernel
theorem dX13_next_199 : decode cX13_next 199 = .ok (.invokevirtual 340, 3) := by decide +kernel
theorem dX13_next_202 : decode cX13_next 202 = .ok (.iadd, 1) := by decide +kernel
theorem dX13_next_203 : decode cX13_next 203 = .ok (.bipush 48, 2) := by decide +kernel
theorem dX13_next_205 : decode cX13_next 205 = .ok (.isub, 1) := by decide +kernel
theorem dX13_next_206 : decode cX13_next 206 = .ok (.putfield 363, 3) := by decide +kernel
theorem dX13_next_209 : decode cX13_next 209 = .ok (.aload_n 0, 1) := by decide +kernel
theorem dX13_next_210 : decode cX13_next 210 = .ok (.dup, 1) := by decide +kernel
theorem dX13_next_211 : decode cX13_next 211 = .ok (.getfield 337, 3) := by decide +kernel
theorem dX13_next_214 : decode cX13_next 214 = .ok (.iconst 1, 1) := by decide +kernel
theorem dX13_next_215 : decode cX13_next 215 = .ok (.iadd, 1) := by decide +kernel
theorem dX13_next_216 : decode cX13_next 216 = .ok (.putfield 337, 3) := by decide +kernel
theorem dX13_next_219 : decode cX13_next 219 = .ok (.goto (-67), 3) := by decide +kernel
theorem dX13_next_222 : decode cX13_next 222 = .ok (.aload_n 0, 1) := by decide +kernel
theorem dX13_next_223 : decode cX13_next 223 = .ok (.aload_n 0, 1) := by decide +kernel
theorem dX13_next_224 : decode cX13_next 224 = .ok (.getfield 337, 3) := by decide +kernel
theorem dX13_next_227 : decode cX13_next 227 = .ok (.aload_n 0, 1) := by decide +kernel
theorem dX13_next_228 : decode cX13_next 228 = .ok (.getfield 343, 3) := by decide +kernel
theorem dX13_next_231 : decode cX13_next 231 = .ok (.isub, 1) := by decide +kernel
theorem dX13_next_232 : decode cX13_next 232 = .ok (.iconst 3, 1) := by decide +kernel
theorem dX13_next_233 : decode cX13_next 233 = .ok (.if_icmp .le 7, 3) := by decide +kernel
theorem dX13_next_236 : decode cX13_next 236 = .ok (.iconst 4, 1) := by decide +kernel
theorem dX13_next_237 : decode cX13_next 237 = .ok (.goto 4, 3) := by decide +kernel
theorem dX13_next_240 : decode cX13_next 240 = .ok (.iconst 2, 1) := by decide +kernel
theorem dX13_next_241 : decode cX13_next 241 = .ok (.putfield 346, 3) := by decide +kernel
theorem dX13_next_244 : decode cX13_next 244 = .ok (.goto 28, 3) := by decide +kernel
theorem dX13_next_247 : decode cX13_next 247 = .ok (.aload_n 0, 1) := by decide +kernel
theorem dX13_next_248 : decode cX13_next 248 = .ok (.aload_n 0, 1) := by decide +kernel
theorem dX13_next_249 : decode cX13_next 249 = .ok (.getfield 337, 3) := by decide +kernel
theorem dX13_next_252 : decode cX13_next 252 = .ok (.iconst 1, 1) := by decide +kernel
theorem dX13_next_253 : decode cX13_next 253 = .ok (.iadd, 1) := by decide +kernel
theorem dX13_next_254 : decode cX13_next 254 = .ok (.putfield 337, 3) := by decide +kernel
theorem dX13_next_257 : decode cX13_next 257 = .ok (.aload_n 0, 1) := by decide +kernel
theorem dX13_next_258 : decode cX13_next 258 = .ok (.iload_n 1, 1) := by decide +kernel
theorem dX13_next_259 : decode cX13_next 259 = .ok (.bipush 59, 2) := by decide +kernel
theorem dX13_next_261 : decode cX13_next 261 = .ok (.if_icmp .ne 7, 3) := by decide +kernel
theorem dX13_next_264 : decode cX13_next 264 = .ok (.iconst 3, 1) := by decide +kernel
theorem dX13_next_265 : decode cX13_next 265 = .ok (.goto 4, 3) := by decide +kernel
theorem dX13_next_268 : decode cX13_next 268 = .ok (.iconst 4, 1) := by decide +kernel
theorem dX13_next_269 : decode cX13_next 269 = .ok (.putfield 346, 3) := by decide +kernel
theorem dX13_next_272 : decode cX13_next 272 = .ok (.return_, 1) := by decide +kernel
theorem hd_X13_next : yX13_next.cls = RX13 ∧ yX13_next.cls ≠ "java/lang/invoke/MethodHandle" ∧ yX13_next.cls ≠ "java/lang/invoke/VarHandle" ∧ (parseMethodDescriptor yX13_next.desc).map (fun d => d.parameters.length) = some 0 := by decide +kernel
theorem hs_X13_next : yX13_next.cls ≠ "java/lang/invoke/MethodHandle" ∧ yX13_next.cls ≠ "java/lang/invoke/VarHandle" ∧ (parseMethodDescriptor yX13_next.desc).map (fun d => d.parameters.length) = some 0 := by decide +kernel
set_option maxHeartbeats 4000000 in
set_option maxRecDepth 100000 in
theorem l_X13_next_L0 (C : CX p l e s m args meth c cX13_next 2 RX13 (Option.none : Option Jvm.ClassFile.FieldType) E) {o : Nat} (ho : K o = some (11, 0)) {w' : Wd} (k : Wd → Option Wd) (hk : ∀ (w : Wd) (H : Heap) (locs : List Loc) (ls : Array Slot), HQ E K z w s H locs → lv_has ls 2 [(0, rv E (some o))] → k w = some w' → W p l e ({ frames := 5, cells := 0, slots := 0, locals := 108 } : Room) s m args below meth c H locs 0 0 (MQ below (QV E K z w') args s 0 0 (hA E)) (F0 m 39 ls [])) : ∀ (n : Nat) (w : Wd) (H : Heap) (locs : List Loc) (ls : Array Slot), HQ E K z w s H locs → lv_has ls 2 [(0, rv E (some o))] → f_X13_next_L0 K o k n w = some w' → W p l e ({ frames := 5, cells := 0, slots := 0, locals := 108 } : Room) s m args below meth c H locs 0 0 (MQ below (QV E K z w') args s 0 0 (hA E)) (F0 m 0 ls []) := by
  obtain ⟨hx, hb, hml, hown, hts, hKs, hT, hb0, hlocks, hret⟩ := id C
  intro n
  induction n with
  | zero =>
    intro w H locs ls hH hl hf
    cases hf
  | succ n ih =>
    intro w H locs ls hH hl hf
    rw [f_X13_next_L0] at hf
    refine hl_aload_n hx hb dX13_next_0 rfl (lv_at hl 0 rfl) ?_
    refine hl_aload_n hx hb dX13_next_1 rfl (lv_at hl 0 rfl) ?_
    refine g13_26 hx hb hts hown hKs hH rfl ho m6_207 dX13_next_2 ?_
    obtain ⟨q2, hq2, hf⟩ := bnd hf
    refine hcV_i hx hb hml hown hts hKs hT hb0 hH (As := [.int ((wI w 1326 o))]) (rest := []) (k_X13_here l E K H.size o (wI w 1326 o) w ho hq2) (gV m8_225 m8_227 ms_102 m1_16 m8_228) hd_X13_here ⟨Nat.le_of_ble_eq_true rfl, Nat.le_of_ble_eq_true rfl, rfl, rfl⟩ rfl ho rfl rfl rfl hl.1 rfl rc0 rfl dX13_next_5 ⟨Nat.zero_le _, Nat.zero_le _⟩ (fun H locs hH => ?_)
    refine lv_bipush (v := 32) hx hb dX13_next_8 (by decide) ?_
    refine lv_icmp_eq (tgt := 26) hx hb dX13_next_10 (by decide) (fun c3 => ?_) (fun c3 => ?_)
    · replace hf := (if_pos c3).symm.trans hf
      refine hl_aload_n hx hb dX13_next_26 rfl (lv_at hl 0 rfl) ?_
      refine hl_aload_n hx hb dX13_next_27 rfl (lv_at hl 0 rfl) ?_
      refine g13_26 hx hb hts hown hKs hH rfl ho m6_207 dX13_next_28 ?_
      refine lv_iconst (v := 1) hx hb dX13_next_31 (by decide) ?_
      refine lv_iadd hx hb dX13_next_32 ?_
      obtain ⟨w4, hw4, hf⟩ := bnd hf
      replace hw4 := Option.some.inj hw4
      refine p13_26 (v := ((wI q2.2 1326 o) + 1)) hx hb hts hown hKs hH rfl ho m6_207 dX13_next_33 (fun H locs hH => ?_)
      rw [hw4] at hH
      refine lv_goto (tgt := 0) hx hb dX13_next_36 (by decide) ?_
      exact ih _ _ _ _ hH (lv_sub hl [0] rfl) hf
    · replace hf := (if_neg c3).symm.trans hf
      refine hl_aload_n hx hb dX13_next_13 rfl (lv_at hl 0 rfl) ?_
      refine hl_aload_n hx hb dX13_next_14 rfl (lv_at hl 0 rfl) ?_
      refine g13_26 hx hb hts hown hKs hH rfl ho m6_207 dX13_next_15 ?_
      obtain ⟨q5, hq5, hf⟩ := bnd hf
      refine hcV_i hx hb hml hown hts hKs hT hb0 hH (As := [.int ((wI q2.2 1326 o))]) (rest := []) (k_X13_here l E K H.size o (wI q2.2 1326 o) q2.2 ho hq5) (gV m8_225 m8_227 ms_102 m1_16 m8_228) hd_X13_here ⟨Nat.le_of_ble_eq_true rfl, Nat.le_of_ble_eq_true rfl, rfl, rfl⟩ rfl ho rfl rfl rfl hl.1 rfl rc0 rfl dX13_next_18 ⟨Nat.zero_le _, Nat.zero_le _⟩ (fun H locs hH => ?_)
      refine lv_bipush (v := 10) hx hb dX13_next_21 (by decide) ?_
      refine lv_icmp_ne (tgt := 39) hx hb dX13_next_23 (by decide) (fun c6 => ?_) (fun c6 => ?_)
      · replace hf := (if_neg c6).symm.trans hf
        exact hk _ _ _ _ hH (lv_sub hl [0] rfl) hf
      · replace hf := (if_pos c6).symm.trans hf
        refine hl_aload_n hx hb dX13_next_26 rfl (lv_at hl 0 rfl) ?_
        refine hl_aload_n hx hb dX13_next_27 rfl (lv_at hl 0 rfl) ?_
        refine g13_26 hx hb hts hown hKs hH rfl ho m6_207 dX13_next_28 ?_
        refine lv_iconst (v := 1) hx hb dX13_next_31 (by decide) ?_
        refine lv_iadd hx hb dX13_next_32 ?_
        obtain ⟨w7, hw7, hf⟩ := bnd hf
        replace hw7 := Option.some.inj hw7
        refine p13_26 (v := ((wI q5.2 1326 o) + 1)) hx hb hts hown hKs hH rfl ho m6_207 dX13_next_33 (fun H locs hH => ?_)
        rw [hw7] at hH
        refine lv_goto (tgt := 0) hx hb dX13_next_36 (by decide) ?_
        exact ih _ _ _ _ hH (lv_sub hl [0] rfl) hf
set_option maxHeartbeats 4000000 in
set_option maxRecDepth 100000 in
theorem l_X13_next_L152 (C : CX p l e s m args meth c cX13_next 2 RX13 (Option.none : Option Jvm.ClassFile.FieldType) E) {o : Nat} (ho : K o = some (11, 0)) {w' : Wd} (k : Int32 → Wd → Option Wd) (hk : ∀ (v1_152 : Int32) (w : Wd) (H : Heap) (locs : List Loc) (ls : Array Slot), HQ E K z w s H locs → lv_has ls 2 [(1, .int v1_152), (0, rv E (some o))] → k v1_152 w = some w' → W p l e ({ frames := 5, cells := 0, slots := 0, locals := 108 } : Room) s m args below meth c H locs 0 0 (MQ below (QV E K z w') args s 0 0 (hA E)) (F0 m 222 ls [])) : ∀ (n : Nat) (v1_152 : Int32) (w : Wd) (H : Heap) (locs : List Loc) (ls : Array Slot), HQ E K z w s H locs → lv_has ls 2 [(1, .int v1_152), (0, rv E (some o))] → f_X13_next_L152 K o k n v1_152 w = some w' → W p l e ({ frames := 5, cells := 0, slots := 0, locals := 108 } : Room) s m args below meth c H locs 0 0 (MQ below (QV E K z w') args s 0 0 (hA E)) (F0 m 152 ls []) := by
  obtain ⟨hx, hb, hml, hown, hts, hKs, hT, hb0, hlocks, hret⟩ := id C
  intro n
  induction n with
  | zero =>
    intro v1_152 w H locs ls hH hl hf
    cases hf
  | succ n ih =>
    intro v1_152 w H locs ls hH hl hf
    rw [f_X13_next_L152] at hf
    refine hl_aload_n hx hb dX13_next_152 rfl (lv_at hl 1 rfl) ?_
    refine hl_aload_n hx hb dX13_next_153 rfl (lv_at hl 1 rfl) ?_
    refine g13_26 hx hb hts hown hKs hH rfl ho m6_207 dX13_next_154 ?_
    obtain ⟨q21, hq21, hf⟩ := bnd hf
    refine hcV_i hx hb hml hown hts hKs hT hb0 hH (As := [.int ((wI w 1326 o))]) (rest := []) (k_X13_here l E K H.size o (wI w 1326 o) w ho hq21) (gV m8_225 m8_227 ms_102 m1_16 m8_228) hd_X13_here ⟨Nat.le_of_ble_eq_true rfl, Nat.le_of_ble_eq_true rfl, rfl, rfl⟩ rfl ho rfl rfl rfl hl.1 rfl rc0 rfl dX13_next_157 ⟨Nat.zero_le _, Nat.zero_le _⟩ (fun H locs hH => ?_)
    refine lv_i2l (v := (q21.1.toInt64)) hx hb dX13_next_160 rfl ?_
    refine lv_ldc2 (v := 48) hx hb hown (hts _ m9_44) dX13_next_161 ?_
    refine lv_ldc2 (v := 57) hx hb hown (hts _ m9_45) dX13_next_164 ?_
    obtain ⟨q22, hq22, hf⟩ := bnd hf
    refine hcS_i hx hb hml hown hts hKs hT hb0 hH (As := [.long (q21.1.toInt64), .long 48, .long 57]) (rest := []) (k_X13_isIn l E K H.size (q21.1.toInt64) 48 57 q21.2 hq22) (gS m7_88 m7_89 m1_16 m7_90) hs_X13_isIn ⟨Nat.le_of_ble_eq_true rfl, Nat.le_of_ble_eq_true rfl, rfl, rfl⟩ hl.1 rfl rc0 rfl dX13_next_167 ⟨Nat.zero_le _, Nat.zero_le _⟩ (fun H locs hH => ?_)
    refine lv_if_eq (tgt := 222) hx hb dX13_next_170 (by decide) (fun c23 => ?_) (fun c23 => ?_)
    · replace hf := (if_pos c23).symm.trans hf
      exact hk v1_152 _ _ _ _ hH (lv_sub hl [0, 1] rfl) hf
    · replace hf := (if_neg c23).symm.trans hf
      refine hl_aload_n hx hb dX13_next_173 rfl (lv_at hl 1 rfl) ?_
      refine g13_26 hx hb hts hown hKs hH rfl ho m6_207 dX13_next_174 ?_
      refine hl_aload_n hx hb dX13_next_177 rfl (lv_at hl 1 rfl) ?_
      refine g13_27 hx hb hts hown hKs hH rfl ho m6_208 dX13_next_178 ?_
      refine lv_isub hx hb dX13_next_181 ?_
      refine lv_iconst (v := 3) hx hb dX13_next_182 (by decide) ?_
      refine lv_icmp_ge (tgt := 209) hx hb dX13_next_183 (by decide) (fun c24 => ?_) (fun c24 => ?_)
      · replace hf := (if_pos c24).symm.trans hf
        refine hl_aload_n hx hb dX13_next_209 rfl (lv_at hl 1 rfl) ?_
        refine lv_dup hx hb dX13_next_210 rv_cat ?_
        refine g13_26 hx hb hts hown hKs hH rfl ho m6_207 dX13_next_211 ?_
        refine lv_iconst (v := 1) hx hb dX13_next_214 (by decide) ?_
        refine lv_iadd hx hb dX13_next_215 ?_
        obtain ⟨w25, hw25, hf⟩ := bnd hf
        replace hw25 := Option.some.inj hw25
        refine p13_26 (v := ((wI q22.2 1326 o) + 1)) hx hb hts hown hKs hH rfl ho m6_207 dX13_next_216 (fun H locs hH => ?_)
        rw [hw25] at hH
        refine lv_goto (tgt := 152) hx hb dX13_next_219 (by decide) ?_
        exact ih v1_152 _ _ _ _ hH (lv_sub hl [0, 1] rfl) hf
      · replace hf := (if_neg c24).symm.trans hf
        refine hl_aload_n hx hb dX13_next_186 rfl (lv_at hl 1 rfl) ?_
        refine lv_bipush (v := 10) hx hb dX13_next_187 (by decide) ?_
        refine hl_aload_n hx hb dX13_next_189 rfl (lv_at hl 1 rfl) ?_
        refine g13_30 hx hb hts hown hKs hH rfl ho m6_211 dX13_next_190 ?_
        refine lv_imul hx hb dX13_next_193 ?_
        refine hl_aload_n hx hb dX13_next_194 rfl (lv_at hl 1 rfl) ?_
        refine hl_aload_n hx hb dX13_next_195 rfl (lv_at hl 1 rfl) ?_
        refine g13_26 hx hb hts hown hKs hH rfl ho m6_207 dX13_next_196 ?_
        obtain ⟨q26, hq26, hf⟩ := bnd hf
        refine hcV_i hx hb hml hown hts hKs hT hb0 hH (As := [.int ((wI q22.2 1326 o))]) (rest := [.int ((10 * (wI q22.2 1330 o))), rv E (some o)]) (k_X13_here l E K H.size o (wI q22.2 1326 o) q22.2 ho hq26) (gV m8_225 m8_227 ms_102 m1_16 m8_228) hd_X13_here ⟨Nat.le_of_ble_eq_true rfl, Nat.le_of_ble_eq_true rfl, rfl, rfl⟩ rfl ho rfl rfl rfl hl.1 rfl (rcI (rcV rc0)) rfl dX13_next_199 ⟨Nat.zero_le _, Nat.zero_le _⟩ (fun H locs hH => ?_)
        refine lv_iadd hx hb dX13_next_202 ?_
        refine lv_bipush (v := 48) hx hb dX13_next_203 (by decide) ?_
        refine lv_isub hx hb dX13_next_205 ?_
        obtain ⟨w27, hw27, hf⟩ := bnd hf
        replace hw27 := Option.some.inj hw27
        refine p13_30 (v := (((10 * (wI q22.2 1330 o)) + q26.1) - 48)) hx hb hts hown hKs hH rfl ho m6_211 dX13_next_206 (fun H locs hH => ?_)
        rw [hw27] at hH
        refine hl_aload_n hx hb dX13_next_209 rfl (lv_at hl 1 rfl) ?_
        refine lv_dup hx hb dX13_next_210 rv_cat ?_
        refine g13_26 hx hb hts hown hKs hH rfl ho m6_207 dX13_next_211 ?_
        refine lv_iconst (v := 1) hx hb dX13_next_214 (by decide) ?_
        refine lv_iadd hx hb dX13_next_215 ?_
        obtain ⟨w28, hw28, hf⟩ := bnd hf
        replace hw28 := Option.some.inj hw28
        refine p13_26 (v := ((wI w27 1326 o) + 1)) hx hb hts hown hKs hH rfl ho m6_207 dX13_next_216 (fun H locs hH => ?_)
        rw [hw28] at hH
        refine lv_goto (tgt := 152) hx hb dX13_next_219 (by decide) ?_
        exact ih v1_152 _ _ _ _ hH (lv_sub hl [0, 1] rfl) hf
set_option maxHeartbeats 4000000 in
set_option maxRecDepth 100000 in
theorem l_X13_next_L83 (C : CX p l e s m args meth c cX13_next 2 RX13 (Option.none : Option Jvm.ClassFile.FieldType) E) {o : Nat} (ho : K o = some (11, 0)) {w' : Wd} (k : Int32 → Wd → Option Wd) (hk : ∀ (v1_83 : Int32) (w : Wd) (H : Heap) (locs : List Loc) (ls : Array Slot), HQ E K z w s H locs → lv_has ls 2 [(1, .int v1_83), (0, rv E (some o))] → k v1_83 w = some w' → W p l e ({ frames := 5, cells := 0, slots := 0, locals := 108 } : Room) s m args below meth c H locs 0 0 (MQ below (QV E K z w') args s 0 0 (hA E)) (F0 m 117 ls [])) : ∀ (n : Nat) (v1_83 : Int32) (w : Wd) (H : Heap) (locs : List Loc) (ls : Array Slot), HQ E K z w s H locs → lv_has ls 2 [(1, .int v1_83), (0, rv E (some o))] → f_X13_next_L83 K o k n v1_83 w = some w' → W p l e ({ frames := 5, cells := 0, slots := 0, locals := 108 } : Room) s m args below meth c H locs 0 0 (MQ below (QV E K z w') args s 0 0 (hA E)) (F0 m 83 ls []) := by
  obtain ⟨hx, hb, hml, hown, hts, hKs, hT, hb0, hlocks, hret⟩ := id C
  intro n
  induction n with
  | zero =>
    intro v1_83 w H locs ls hH hl hf
    cases hf
  | succ n ih =>
    intro v1_83 w H locs ls hH hl hf
    rw [f_X13_next_L83] at hf
    refine hl_aload_n hx hb dX13_next_83 rfl (lv_at hl 1 rfl) ?_
    refine hl_aload_n hx hb dX13_next_84 rfl (lv_at hl 1 rfl) ?_
    refine g13_26 hx hb hts hown hKs hH rfl ho m6_207 dX13_next_85 ?_
    obtain ⟨q33, hq33, hf⟩ := bnd hf
    refine hcV_i hx hb hml hown hts hKs hT hb0 hH (As := [.int ((wI w 1326 o))]) (rest := []) (k_X13_here l E K H.size o (wI w 1326 o) w ho hq33) (gV m8_225 m8_227 ms_102 m1_16 m8_228) hd_X13_here ⟨Nat.le_of_ble_eq_true rfl, Nat.le_of_ble_eq_true rfl, rfl, rfl⟩ rfl ho rfl rfl rfl hl.1 rfl rc0 rfl dX13_next_88 ⟨Nat.zero_le _, Nat.zero_le _⟩ (fun H locs hH => ?_)
    refine lv_i2l (v := (q33.1.toInt64)) hx hb dX13_next_91 rfl ?_
    refine lv_ldc2 (v := 97) hx hb hown (hts _ m8_229) dX13_next_92 ?_
    refine lv_ldc2 (v := 122) hx hb hown (hts _ m8_230) dX13_next_95 ?_
    obtain ⟨q34, hq34, hf⟩ := bnd hf
    refine hcS_i hx hb hml hown hts hKs hT hb0 hH (As := [.long (q33.1.toInt64), .long 97, .long 122]) (rest := []) (k_X13_isIn l E K H.size (q33.1.toInt64) 97 122 q33.2 hq34) (gS m7_88 m7_89 m1_16 m7_90) hs_X13_isIn ⟨Nat.le_of_ble_eq_true rfl, Nat.le_of_ble_eq_true rfl, rfl, rfl⟩ hl.1 rfl rc0 rfl dX13_next_98 ⟨Nat.zero_le _, Nat.zero_le _⟩ (fun H locs hH => ?_)
    refine lv_if_eq (tgt := 117) hx hb dX13_next_101 (by decide) (fun c35 => ?_) (fun c35 => ?_)
    · replace hf := (if_pos c35).symm.trans hf
      exact hk v1_83 _ _ _ _ hH (lv_sub hl [0, 1] rfl) hf
    · replace hf := (if_neg c35).symm.trans hf
      refine hl_aload_n hx hb dX13_next_104 rfl (lv_at hl 1 rfl) ?_
      refine hl_aload_n hx hb dX13_next_105 rfl (lv_at hl 1 rfl) ?_
      refine g13_26 hx hb hts hown hKs hH rfl ho m6_207 dX13_next_106 ?_
      refine lv_iconst (v := 1) hx hb dX13_next_109 (by decide) ?_
      refine lv_iadd hx hb dX13_next_110 ?_
      obtain ⟨w36, hw36, hf⟩ := bnd hf
      replace hw36 := Option.some.inj hw36
      refine p13_26 (v := ((wI q34.2 1326 o) + 1)) hx hb hts hown hKs hH rfl ho m6_207 dX13_next_111 (fun H locs hH => ?_)
      rw [hw36] at hH
      refine lv_goto (tgt := 83) hx hb dX13_next_114 (by decide) ?_
      exact ih v1_83 _ _ _ _ hH (lv_sub hl [0, 1] rfl) hf
set_option maxHeartbeats 4000000 in
set_option maxRecDepth 100000 in
theorem k_X13_next (l : Launch) (E : Ev) (K : Kd) (z : Nat) (o : Nat) (w : Wd) (ho : K o = some (11, 0)) {w' : Wd} (hf : f_X13_next K o w = some w') : Met l yX13_next (Cond.code yX13_next cX13_next 2 (Option.none : Option Jvm.ClassFile.FieldType) :: bt) ({ frames := 5, cells := 0, slots := 0, locals := 108 } : Room) (va_Pc [rv E (some o)] (HB E K w z)) (QV E K z w') 0 0 (hA E) := by
  refine Met.ofW (cc := cX13_next) (maxL := 2) (ret := (Option.none : Option Jvm.ClassFile.FieldType)) (by decide) rfl ?_
  intro p e s m args below meth c s₁ B hml hv
  obtain ⟨rfl, hz, hP, hKs, hT, hb0⟩ := hv
  have C : CX p l e s m _ meth c cX13_next 2 RX13 (Option.none : Option Jvm.ClassFile.FieldType) E := ⟨B.exec, B.bytes, hml, findClass_of_methodNamed B.named, fun w h => atoms_spec (ws := Cond.code yX13_next cX13_next 2 (Option.none : Option Jvm.ClassFile.FieldType) :: bt) B.pre w (List.mem_cons_of_mem _ h), hKs, hT, by rw [hz]; exact hb0, B.notSynchronized, B.returns⟩
  have hH : HQ E K z w s s.heap [] := ⟨hP, va_S.rf, hz⟩
  obtain ⟨hx, hb, hml, hown, hts, hKs, hT, hb0, hlocks, hret⟩ := id C
  have hl := lv_entry [rv E (some o)] (n := 2) (by simp [lg_len_nil, lg_len_i, lg_len_j, lg_len_q, lg_len_f, lg_len_d, lg_len_r])
  rw [lg_entry_eq]
  generalize (lg_sl [rv E (some o)] ++ List.replicate (2 - (lg_sl [rv E (some o)]).length) Slot.unset).toArray = ls at hl ⊢
  replace hl : lv_has ls 2 [(0, rv E (some o))] := by simpa only [lv_args, cat_q, cat_i, cat_j, reduceIte, Nat.reduceEqDiff, Nat.reduceAdd, Nat.zero_add] using hl
  generalize s.heap = H at hH ⊢
  unfold f_X13_next at hf
  refine l_X13_next_L0  C ho _ (fun w1 H locs ls hH hl hf => ?_) fu  w _ _ _ hH (lv_sub hl [0] rfl) hf
  refine hl_aload_n hx hb dX13_next_39 rfl (lv_at hl 0 rfl) ?_
  refine hl_aload_n hx hb dX13_next_40 rfl (lv_at hl 0 rfl) ?_
  refine g13_26 hx hb hts hown hKs hH rfl ho m6_207 dX13_next_41 ?_
  obtain ⟨w8, hw8, hf⟩ := bnd hf
  replace hw8 := Option.some.inj hw8
  refine p13_27 (v := (wI w1 1326 o)) hx hb hts hown hKs hH rfl ho m6_208 dX13_next_44 (fun H locs hH => ?_)
  rw [hw8] at hH
  refine hl_aload_n hx hb dX13_next_47 rfl (lv_at hl 0 rfl) ?_
  refine hl_aload_n hx hb dX13_next_48 rfl (lv_at hl 0 rfl) ?_
  refine g13_26 hx hb hts hown hKs hH rfl ho m6_207 dX13_next_49 ?_
  obtain ⟨q9, hq9, hf⟩ := bnd hf
  refine hcV_i hx hb hml hown hts hKs hT hb0 hH (As := [.int ((wI w8 1326 o))]) (rest := []) (k_X13_here l E K H.size o (wI w8 1326 o) w8 ho hq9) (gV m8_225 m8_227 ms_102 m1_16 m8_228) hd_X13_here ⟨Nat.le_of_ble_eq_true rfl, Nat.le_of_ble_eq_true rfl, rfl, rfl⟩ rfl ho rfl rfl rfl hl.1 rfl rc0 rfl dX13_next_52 ⟨Nat.zero_le _, Nat.zero_le _⟩ (fun H locs hH => ?_)
  refine lv_istore_n (i := 1) (lv' := [(1, .int (q9.1)), (0, rv E (some o))]) hx hb dX13_next_55 rfl hl (by decide) rfl (fun ls hl => ?_)
  refine lv_iload_n hx hb dX13_next_56 rfl (lv_at hl 0 rfl) ?_
  refine lv_iconst (v := (-1)) hx hb dX13_next_57 (by decide) ?_
  refine lv_icmp_ne (tgt := 69) hx hb dX13_next_58 (by decide) (fun c10 => ?_) (fun c10 => ?_)
  · replace hf := (if_neg c10).symm.trans hf
    refine lv_iload_n hx hb dX13_next_69 rfl (lv_at hl 0 rfl) ?_
    refine lv_i2l (v := (q9.1.toInt64)) hx hb dX13_next_70 rfl ?_
    refine lv_ldc2 (v := 97) hx hb hown (hts _ m8_229) dX13_next_71 ?_
    refine lv_ldc2 (v := 122) hx hb hown (hts _ m8_230) dX13_next_74 ?_
    obtain ⟨q11, hq11, hf⟩ := bnd hf
    refine hcS_i hx hb hml hown hts hKs hT hb0 hH (As := [.long (q9.1.toInt64), .long 97, .long 122]) (rest := []) (k_X13_isIn l E K H.size (q9.1.toInt64) 97 122 q9.2 hq11) (gS m7_88 m7_89 m1_16 m7_90) hs_X13_isIn ⟨Nat.le_of_ble_eq_true rfl, Nat.le_of_ble_eq_true rfl, rfl, rfl⟩ hl.1 rfl rc0 rfl dX13_next_77 ⟨Nat.zero_le _, Nat.zero_le _⟩ (fun H locs hH => ?_)
    refine lv_if_eq (tgt := 133) hx hb dX13_next_80 (by decide) (fun c12 => ?_) (fun c12 => ?_)
    · replace hf := (if_pos c12).symm.trans hf
      refine lv_iload_n hx hb dX13_next_133 rfl (lv_at hl 0 rfl) ?_
      refine lv_i2l (v := (q9.1.toInt64)) hx hb dX13_next_134 rfl ?_
      refine lv_ldc2 (v := 48) hx hb hown (hts _ m9_44) dX13_next_135 ?_
      refine lv_ldc2 (v := 57) hx hb hown (hts _ m9_45) dX13_next_138 ?_
      obtain ⟨q13, hq13, hf⟩ := bnd hf
      refine hcS_i hx hb hml hown hts hKs hT hb0 hH (As := [.long (q9.1.toInt64), .long 48, .long 57]) (rest := []) (k_X13_isIn l E K H.size (q9.1.toInt64) 48 57 q11.2 hq13) (gS m7_88 m7_89 m1_16 m7_90) hs_X13_isIn ⟨Nat.le_of_ble_eq_true rfl, Nat.le_of_ble_eq_true rfl, rfl, rfl⟩ hl.1 rfl rc0 rfl dX13_next_141 ⟨Nat.zero_le _, Nat.zero_le _⟩ (fun H locs hH => ?_)
      refine lv_if_eq (tgt := 247) hx hb dX13_next_144 (by decide) (fun c14 => ?_) (fun c14 => ?_)
      · replace hf := (if_pos c14).symm.trans hf
        refine hl_aload_n hx hb dX13_next_247 rfl (lv_at hl 1 rfl) ?_
        refine hl_aload_n hx hb dX13_next_248 rfl (lv_at hl 1 rfl) ?_
        refine g13_26 hx hb hts hown hKs hH rfl ho m6_207 dX13_next_249 ?_
        refine lv_iconst (v := 1) hx hb dX13_next_252 (by decide) ?_
        refine lv_iadd hx hb dX13_next_253 ?_
        obtain ⟨w15, hw15, hf⟩ := bnd hf
        replace hw15 := Option.some.inj hw15
        refine p13_26 (v := ((wI q13.2 1326 o) + 1)) hx hb hts hown hKs hH rfl ho m6_207 dX13_next_254 (fun H locs hH => ?_)
        rw [hw15] at hH
        refine hl_aload_n hx hb dX13_next_257 rfl (lv_at hl 1 rfl) ?_
        refine lv_iload_n hx hb dX13_next_258 rfl (lv_at hl 0 rfl) ?_
        refine lv_bipush (v := 59) hx hb dX13_next_259 (by decide) ?_
        refine lv_icmp_ne (tgt := 268) hx hb dX13_next_261 (by decide) (fun c16 => ?_) (fun c16 => ?_)
        · replace hf := (if_neg c16).symm.trans hf
          refine lv_iconst (v := 4) hx hb dX13_next_268 (by decide) ?_
          obtain ⟨w17, hw17, hf⟩ := bnd hf
          replace hw17 := Option.some.inj hw17
          refine p13_28 (v := 4) hx hb hts hown hKs hH rfl ho m6_209 dX13_next_269 (fun H locs hH => ?_)
          rw [hw17] at hH
          exact hw_vret hx hb hret hf hH hlocks dX13_next_272
        · replace hf := (if_pos c16).symm.trans hf
          refine lv_iconst (v := 3) hx hb dX13_next_264 (by decide) ?_
          refine lv_goto (tgt := 269) hx hb dX13_next_265 (by decide) ?_
          obtain ⟨w18, hw18, hf⟩ := bnd hf
          replace hw18 := Option.some.inj hw18
          refine p13_28 (v := 3) hx hb hts hown hKs hH rfl ho m6_209 dX13_next_269 (fun H locs hH => ?_)
          rw [hw18] at hH
          exact hw_vret hx hb hret hf hH hlocks dX13_next_272
      · replace hf := (if_neg c14).symm.trans hf
        refine hl_aload_n hx hb dX13_next_147 rfl (lv_at hl 1 rfl) ?_
        refine lv_iconst (v := 0) hx hb dX13_next_148 (by decide) ?_
        obtain ⟨w19, hw19, hf⟩ := bnd hf
        replace hw19 := Option.some.inj hw19
        refine p13_30 (v := 0) hx hb hts hown hKs hH rfl ho m6_211 dX13_next_149 (fun H locs hH => ?_)
        rw [hw19] at hH
        refine l_X13_next_L152  C ho _ (fun v1_152 w20 H locs ls hH hl hf => ?_) fu q9.1 w19 _ _ _ hH (lv_sub hl [0, 1] rfl) hf
        refine hl_aload_n hx hb dX13_next_222 rfl (lv_at hl 1 rfl) ?_
        refine hl_aload_n hx hb dX13_next_223 rfl (lv_at hl 1 rfl) ?_
        refine g13_26 hx hb hts hown hKs hH rfl ho m6_207 dX13_next_224 ?_
        refine hl_aload_n hx hb dX13_next_227 rfl (lv_at hl 1 rfl) ?_
        refine g13_27 hx hb hts hown hKs hH rfl ho m6_208 dX13_next_228 ?_
        refine lv_isub hx hb dX13_next_231 ?_
        refine lv_iconst (v := 3) hx hb dX13_next_232 (by decide) ?_
        refine lv_icmp_le (tgt := 240) hx hb dX13_next_233 (by decide) (fun c29 => ?_) (fun c29 => ?_)
        · replace hf := (if_pos c29).symm.trans hf
          refine lv_iconst (v := 2) hx hb dX13_next_240 (by decide) ?_
          obtain ⟨w30, hw30, hf⟩ := bnd hf
          replace hw30 := Option.some.inj hw30
          refine p13_28 (v := 2) hx hb hts hown hKs hH rfl ho m6_209 dX13_next_241 (fun H locs hH => ?_)
          rw [hw30] at hH
          refine lv_goto (tgt := 272) hx hb dX13_next_244 (by decide) ?_
          exact hw_vret hx hb hret hf hH hlocks dX13_next_272
        · replace hf := (if_neg c29).symm.trans hf
          refine lv_iconst (v := 4) hx hb dX13_next_236 (by decide) ?_
          refine lv_goto (tgt := 241) hx hb dX13_next_237 (by decide) ?_
          obtain ⟨w31, hw31, hf⟩ := bnd hf
          replace hw31 := Option.some.inj hw31
          refine p13_28 (v := 4) hx hb hts hown hKs hH rfl ho m6_209 dX13_next_241 (fun H locs hH => ?_)
          rw [hw31] at hH
          refine lv_goto (tgt := 272) hx hb dX13_next_244 (by decide) ?_
          exact hw_vret hx hb hret hf hH hlocks dX13_next_272
    · replace hf := (if_neg c12).symm.trans hf
      refine l_X13_next_L83  C ho _ (fun v1_83 w32 H locs ls hH hl hf => ?_) fu q9.1 q11.2 _ _ _ hH (lv_sub hl [0, 1] rfl) hf
      refine hl_aload_n hx hb dX13_next_117 rfl (lv_at hl 1 rfl) ?_
      refine lv_iconst (v := 1) hx hb dX13_next_118 (by decide) ?_
      obtain ⟨w37, hw37, hf⟩ := bnd hf
      replace hw37 := Option.some.inj hw37
      refine p13_28 (v := 1) hx hb hts hown hKs hH rfl ho m6_209 dX13_next_119 (fun H locs hH => ?_)
      rw [hw37] at hH
      refine hl_aload_n hx hb dX13_next_122 rfl (lv_at hl 1 rfl) ?_
      refine hl_aload_n hx hb dX13_next_123 rfl (lv_at hl 1 rfl) ?_
      obtain ⟨q38, hq38, hf⟩ := bnd hf
      refine hcV_i hx hb hml hown hts hKs hT hb0 hH (As := []) (rest := [rv E (some o)]) (k_X13_wordHere l E K H.size o w37 ho hq38) (gV m8_231 m8_233 ms_103 m1_16 m8_234) hd_X13_wordHere ⟨Nat.le_of_ble_eq_true rfl, Nat.le_of_ble_eq_true rfl, rfl, rfl⟩ rfl ho rfl rfl rfl hl.1 rfl (rcV rc0) rfl dX13_next_124 ⟨Nat.zero_le _, Nat.zero_le _⟩ (fun H locs hH => ?_)
      obtain ⟨w39, hw39, hf⟩ := bnd hf
      replace hw39 := Option.some.inj hw39
      refine p13_29 (v := q38.1) hx hb hts hown hKs hH rfl ho m6_210 dX13_next_127 (fun H locs hH => ?_)
      rw [hw39] at hH
      refine lv_goto (tgt := 272) hx hb dX13_next_130 (by decide) ?_
      exact hw_vret hx hb hret hf hH hlocks dX13_next_272
  · replace hf := (if_pos c10).symm.trans hf
    refine hl_aload_n hx hb dX13_next_61 rfl (lv_at hl 1 rfl) ?_
    refine lv_iconst (v := 0) hx hb dX13_next_62 (by decide) ?_
    obtain ⟨w40, hw40, hf⟩ := bnd hf
    replace hw40 := Option.some.inj hw40
    refine p13_28 (v := 0) hx hb hts hown hKs hH rfl ho m6_209 dX13_next_63 (fun H locs hH => ?_)
    rw [hw40] at hH
    refine lv_goto (tgt := 272) hx hb dX13_next_66 (by decide) ?_
    exact hw_vret hx hb hret hf hH hlocks dX13_next_272

theorem dX13_goOn_0 : decode cX13_goOn 0 = .ok (.aload_n 0, 1) := by decide +kernel
theorem dX13_goOn_1 : decode cX13_goOn 1 = .ok (.invokevirtual 379, 3) := by decide +kernel
theorem dX13_goOn_4 : decode cX13_goOn 4 = .ok (.ifCond .eq 7, 3) := by decide +kernel
theorem dX13_goOn_7 : decode cX13_goOn 7 = .ok (.aload_n 0, 1) := by decide +kernel
theorem dX13_goOn_8 : decode cX13_goOn 8 = .ok (.invokevirtual 383, 3) := by decide +kernel
theorem dX13_goOn_11 : decode cX13_goOn 11 = .ok (.return_, 1) := by decide +kernel
theorem hd_X13_goOn : yX13_goOn.cls = RX13 ∧ yX13_goOn.cls ≠ "java/lang/invoke/MethodHandle" ∧ yX13_goOn.cls ≠ "java/lang/invoke/VarHandle" ∧ (parseMethodDescriptor yX13_goOn.desc).map (fun d => d.parameters.length) = some 0 := by decide +kernel
theorem hs_X13_goOn : yX13_goOn.cls ≠ "java/lang/invoke/MethodHandle" ∧ yX13_goOn.cls ≠ "java/lang/invoke/VarHandle" ∧ (parseMethodDescriptor yX13_goOn.desc).map (fun d => d.parameters.length) = some 0 := by decide +kernel
set_option maxHeartbeats 4000000 in
set_option maxRecDepth 100000 in
theorem k_X13_goOn (l : Launch) (E : Ev) (K : Kd) (z : Nat) (o : Nat) (w : Wd) (ho : K o = some (11, 0)) {w' : Wd} (hf : f_X13_goOn K o w = some w') : Met l yX13_goOn (Cond.code yX13_goOn cX13_goOn 1 (Option.none : Option Jvm.ClassFile.FieldType) :: bt) ({ frames := 6, cells := 0, slots := 0, locals := 129 } : Room) (va_Pc [rv E (some o)] (HB E K w z)) (QV E K z w') 0 0 (hA E) := by
  refine Met.ofW (cc := cX13_goOn) (maxL := 1) (ret := (Option.none : Option Jvm.ClassFile.FieldType)) (by decide) rfl ?_
  intro p e s m args below meth c s₁ B hml hv
  obtain ⟨rfl, hz, hP, hKs, hT, hb0⟩ := hv
  have C : CX p l e s m _ meth c cX13_goOn 1 RX13 (Option.none : Option Jvm.ClassFile.FieldType) E := ⟨B.exec, B.bytes, hml, findClass_of_methodNamed B.named, fun w h => atoms_spec (ws := Cond.code yX13_goOn cX13_goOn 1 (Option.none : Option Jvm.ClassFile.FieldType) :: bt) B.pre w (List.mem_cons_of_mem _ h), hKs, hT, by rw [hz]; exact hb0, B.notSynchronized, B.returns⟩
  have hH : HQ E K z w s s.heap [] := ⟨hP, va_S.rf, hz⟩
  obtain ⟨hx, hb, hml, hown, hts, hKs, hT, hb0, hlocks, hret⟩ := id C
  have hl := lv_entry [rv E (some o)] (n := 1) (by simp [lg_len_nil, lg_len_i, lg_len_j, lg_len_q, lg_len_f, lg_len_d, lg_len_r])
  rw [lg_entry_eq]
  generalize (lg_sl [rv E (some o)] ++ List.replicate (1 - (lg_sl [rv E (some o)]).length) Slot.unset).toArray = ls at hl ⊢
  replace hl : lv_has ls 1 [(0, rv E (some o))] := by simpa only [lv_args, cat_q, cat_i, cat_j, reduceIte, Nat.reduceEqDiff, Nat.reduceAdd, Nat.zero_add] using hl
  generalize s.heap = H at hH ⊢
  unfold f_X13_goOn at hf
  refine hl_aload_n hx hb dX13_goOn_0 rfl (lv_at hl 0 rfl) ?_
  obtain ⟨q1, hq1, hf⟩ := bnd hf
  refine hcV_i hx hb hml hown hts hKs hT hb0 hH (As := []) (rest := []) (k_X13_fine l E K H.size o w ho hq1) (gV m9_46 m9_48 ms_104 m1_16 m9_49) hd_X13_fine ⟨Nat.le_of_ble_eq_true rfl, Nat.le_of_ble_eq_true rfl, rfl, rfl⟩ rfl ho rfl rfl rfl hl.1 rfl rc0 rfl dX13_goOn_1 ⟨Nat.zero_le _, Nat.zero_le _⟩ (fun H locs hH => ?_)
  refine lv_if_eq (tgt := 11) hx hb dX13_goOn_4 (by decide) (fun c2 => ?_) (fun c2 => ?_)
  · replace hf := (if_pos c2).symm.trans hf
    exact hw_vret hx hb hret hf hH hlocks dX13_goOn_11
  · replace hf := (if_neg c2).symm.trans hf
    refine hl_aload_n hx hb dX13_goOn_7 rfl (lv_at hl 0 rfl) ?_
    obtain ⟨q3, hq3, hf⟩ := bnd hf
    refine hcV_v hx hb hml hown hts hKs hT hb0 hH (As := []) (rest := []) (k_X13_next l E K H.size o q1.2 ho hq3) (gV m8_221 m8_223 ms_101 m1_16 m8_224) hd_X13_next ⟨Nat.le_of_ble_eq_true rfl, Nat.le_of_ble_eq_true rfl, rfl, rfl⟩ rfl ho rfl rfl rfl hl.1 rfl rc0 rfl dX13_goOn_8 ⟨Nat.zero_le _, Nat.zero_le _⟩ (fun H locs hH => ?_)
    exact hw_vret hx hb hret hf hH hlocks dX13_goOn_11

theorem dX13_takes_0 : decode cX13_takes 0 = .ok (.aload_n 0, 1) := by decide +kernel
theorem dX13_takes_1 : decode cX13_takes 1 = .ok (.iload_n 1, 1) := by decide +kernel
theorem dX13_takes_2 : decode cX13_takes 2 = .ok (.invokevirtual 386, 3) := by decide +kernel
theorem dX13_takes_5 : decode cX13_takes 5 = .ok (.istore_n 2, 1) := by decide +kernel
theorem dX13_takes_6 : decode cX13_takes 6 = .ok (.iload_n 2, 1) := by decide +kernel
theorem dX13_takes_7 : decode cX13_takes 7 = .ok (.ifCond .eq 7, 3) := by decide +kernel
theorem dX13_takes_10 : decode cX13_takes 10 = .ok (.aload_n 0, 1) := by decide +kernel
theorem dX13_takes_11 : decode cX13_takes 11 = .ok (.invokevirtual 383, 3) := by decide +kernel
theorem dX13_takes_14 : decode cX13_takes 14 = .ok (.iload_n 2, 1) := by decide +kernel
theorem dX13_takes_15 : decode cX13_takes 15 = .ok (.ireturn, 1) := by decide +kernel
theorem hd_X13_takes : yX13_takes.cls = RX13 ∧ yX13_takes.cls ≠ "java/lang/invoke/MethodHandle" ∧ yX13_takes.cls ≠ "java/lang/invoke/VarHandle" ∧ (parseMethodDescriptor yX13_takes.desc).map (fun d => d.parameters.length) = some 1 := by decide +kernel
theorem hs_X13_takes : yX13_takes.cls ≠ "java/lang/invoke/MethodHandle" ∧ yX13_takes.cls ≠ "java/lang/invoke/VarHandle" ∧ (parseMethodDescriptor yX13_takes.desc).map (fun d => d.parameters.length) = some 1 := by decide +kernel
set_option maxHeartbeats 4000000 in
set_option maxRecDepth 100000 in
theorem k_X13_takes (l : Launch) (E : Ev) (K : Kd) (z : Nat) (o : Nat) (a_1 : Int32) (w : Wd) (ho : K o = some (11, 0)) {r : Bool} {w' : Wd} (hf : f_X13_takes K o a_1 w = some (r, w')) : Met l yX13_takes (Cond.code yX13_takes cX13_takes 3 (Option.some Jvm.ClassFile.FieldType.boolean) :: bt) ({ frames := 6, cells := 0, slots := 0, locals := 129 } : Room) (va_Pc [rv E (some o), .int a_1] (HB E K w z)) (QI E K z w' (b2i r)) 0 0 (hA E) := by
  refine Met.ofW (cc := cX13_takes) (maxL := 3) (ret := (Option.some Jvm.ClassFile.FieldType.boolean)) (by decide) rfl ?_
  intro p e s m args below meth c s₁ B hml hv
  obtain ⟨rfl, hz, hP, hKs, hT, hb0⟩ := hv
  have C : CX p l e s m _ meth c cX13_takes 3 RX13 (Option.some Jvm.ClassFile.FieldType.boolean) E := ⟨B.exec, B.bytes, hml, findClass_of_methodNamed B.named, fun w h => atoms_spec (ws := Cond.code yX13_takes cX13_takes 3 (Option.some Jvm.ClassFile.FieldType.boolean) :: bt) B.pre w (List.mem_cons_of_mem _ h), hKs, hT, by rw [hz]; exact hb0, B.notSynchronized, B.returns⟩
  have hH : HQ E K z w s s.heap [] := ⟨hP, va_S.rf, hz⟩
  obtain ⟨hx, hb, hml, hown, hts, hKs, hT, hb0, hlocks, hret⟩ := id C
  have hl := lv_entry [rv E (some o), .int a_1] (n := 3) (by simp [lg_len_nil, lg_len_i, lg_len_j, lg_len_q, lg_len_f, lg_len_d, lg_len_r])
  rw [lg_entry_eq]
  generalize (lg_sl [rv E (some o), .int a_1] ++ List.replicate (3 - (lg_sl [rv E (some o), .int a_1]).length) Slot.unset).toArray = ls at hl ⊢
  replace hl : lv_has ls 3 [(0, rv E (some o)), (1, .int a_1)] := by simpa only [lv_args, cat_q, cat_i, cat_j, reduceIte, Nat.reduceEqDiff, Nat.reduceAdd, Nat.zero_add] using hl
  generalize s.heap = H at hH ⊢
  unfold f_X13_takes at hf
  refine hl_aload_n hx hb dX13_takes_0 rfl (lv_at hl 0 rfl) ?_
  refine lv_iload_n hx hb dX13_takes_1 rfl (lv_at hl 1 rfl) ?_
  obtain ⟨q1, hq1, hf⟩ := bnd hf
  refine hcV_i hx hb hml hown hts hKs hT hb0 hH (As := [.int a_1]) (rest := []) (k_X13_isWord l E K H.size o a_1 w ho hq1) (gV m9_54 m9_56 ms_106 m1_16 m9_57) hd_X13_isWord ⟨Nat.le_of_ble_eq_true rfl, Nat.le_of_ble_eq_true rfl, rfl, rfl⟩ rfl ho rfl rfl rfl hl.1 rfl rc0 rfl dX13_takes_2 ⟨Nat.zero_le _, Nat.zero_le _⟩ (fun H locs hH => ?_)
  refine lv_istore_n (i := 2) (lv' := [(2, .int (b2i q1.1)), (0, rv E (some o)), (1, .int a_1)]) hx hb dX13_takes_5 rfl hl (by decide) rfl (fun ls hl => ?_)
  refine lv_iload_n hx hb dX13_takes_6 rfl (lv_at hl 0 rfl) ?_
  refine lv_if_eq (tgt := 14) hx hb dX13_takes_7 (by decide) (fun c2 => ?_) (fun c2 => ?_)
  · replace hf := (if_pos c2).symm.trans hf
    refine lv_iload_n hx hb dX13_takes_14 rfl (lv_at hl 0 rfl) ?_
    exact hw_zret hx hb hret rfl hf hH hlocks dX13_takes_15
  · replace hf := (if_neg c2).symm.trans hf
    refine hl_aload_n hx hb dX13_takes_10 rfl (lv_at hl 1 rfl) ?_
    obtain ⟨q3, hq3, hf⟩ := bnd hf
    refine hcV_v hx hb hml hown hts hKs hT hb0 hH (As := []) (rest := []) (k_X13_next l E K H.size o q1.2 ho hq3) (gV m8_221 m8_223 ms_101 m1_16 m8_224) hd_X13_next ⟨Nat.le_of_ble_eq_true rfl, Nat.le_of_ble_eq_true rfl, rfl, rfl⟩ rfl ho rfl rfl rfl hl.1 rfl rc0 rfl dX13_takes_11 ⟨Nat.zero_le _, Nat.zero_le _⟩ (fun H locs hH => ?_)
    refine lv_iload_n hx hb dX13_takes_14 rfl (lv_at hl 0 rfl) ?_
    exact hw_zret hx hb hret rfl hf hH hlocks dX13_takes_15

theorem dX13_passesWord_0 : decode cX13_passesWord 0 = .ok (.aload_n 0, 1) := by decide +kernel
theorem dX13_passesWord_1 : decode cX13_passesWord 1 = .ok (.aload_n 0, 1) := by decide +kernel
theorem dX13_passesWord_2 : decode cX13_passesWord 2 = .ok (.iload_n 1, 1) := by decide +kernel
theorem dX13_passesWord_3 : decode cX13_passesWord 3 = .ok (.invokevirtual 389, 3) := by decide +kernel
theorem dX13_passesWord_6 : decode cX13_passesWord 6 = .ok (.iconst 1, 1) := by decide +kernel
theorem dX13_passesWord_7 : decode cX13_passesWord 7 = .ok (.invokevirtual 392, 3) := by decide +kernel
theorem dX13_passesWord_10 : decode cX13_passesWord 10 = .ok (.return_, 1) := by decide +kernel
theorem hd_X13_passesWord : yX13_passesWord.cls = RX13 ∧ yX13_passesWord.cls ≠ "java/lang/invoke/MethodHandle" ∧ yX13_passesWord.cls ≠ "java/lang/invoke/VarHandle" ∧ (parseMethodDescriptor yX13_passesWord.desc).map (fun d => d.parameters.length) = some 1 := by decide +kernel
theorem hs_X13_passesWord : yX13_passesWord.cls ≠ "java/lang/invoke/MethodHandle" ∧ yX13_passesWord.cls ≠ "java/lang/invoke/VarHandle" ∧ (parseMethodDescriptor yX13_passesWord.desc).map (fun d => d.parameters.length) = some 1 := by decide +kernel
set_option maxHeartbeats 4000000 in
set_option maxRecDepth 100000 in
theorem k_X13_passesWord (l : Launch) (E : Ev) (K : Kd) (z : Nat) (o : Nat) (a_1 : Int32) (w : Wd) (ho : K o = some (11, 0)) {w' : Wd} (hf : f_X13_passesWord K o a_1 w = some w') : Met l yX13_passesWord (Cond.code yX13_passesWord cX13_passesWord 2 (Option.none : Option Jvm.ClassFile.FieldType) :: bt) ({ frames := 7, cells := 0, slots := 0, locals := 151 } : Room) (va_Pc [rv E (some o), .int a_1] (HB E K w z)) (QV E K z w') 0 0 (hA E) := by
  refine Met.ofW (cc := cX13_passesWord) (maxL := 2) (ret := (Option.none : Option Jvm.ClassFile.FieldType)) (by decide) rfl ?_
  intro p e s m args below meth c s₁ B hml hv
  obtain ⟨rfl, hz, hP, hKs, hT, hb0⟩ := hv
  have C : CX p l e s m _ meth c cX13_passesWord 2 RX13 (Option.none : Option Jvm.ClassFile.FieldType) E := ⟨B.exec, B.bytes, hml, findClass_of_methodNamed B.named, fun w h => atoms_spec (ws := Cond.code yX13_passesWord cX13_passesWord 2 (Option.none : Option Jvm.ClassFile.FieldType) :: bt) B.pre w (List.mem_cons_of_mem _ h), hKs, hT, by rw [hz]; exact hb0, B.notSynchronized, B.returns⟩
  have hH : HQ E K z w s s.heap [] := ⟨hP, va_S.rf, hz⟩
  obtain ⟨hx, hb, hml, hown, hts, hKs, hT, hb0, hlocks, hret⟩ := id C
  have hl := lv_entry [rv E (some o), .int a_1] (n := 2) (by simp [lg_len_nil, lg_len_i, lg_len_j, lg_len_q, lg_len_f, lg_len_d, lg_len_r])
  rw [lg_entry_eq]
  generalize (lg_sl [rv E (some o), .int a_1] ++ List.replicate (2 - (lg_sl [rv E (some o), .int a_1]).length) Slot.unset).toArray = ls at hl ⊢
  replace hl : lv_has ls 2 [(0, rv E (some o)), (1, .int a_1)] := by simpa only [lv_args, cat_q, cat_i, cat_j, reduceIte, Nat.reduceEqDiff, Nat.reduceAdd, Nat.zero_add] using hl
  generalize s.heap = H at hH ⊢
  unfold f_X13_passesWord at hf
  refine hl_aload_n hx hb dX13_passesWord_0 rfl (lv_at hl 0 rfl) ?_
  refine hl_aload_n hx hb dX13_passesWord_1 rfl (lv_at hl 0 rfl) ?_
  refine lv_iload_n hx hb dX13_passesWord_2 rfl (lv_at hl 1 rfl) ?_
  obtain ⟨q1, hq1, hf⟩ := bnd hf
  refine hcV_i hx hb hml hown hts hKs hT hb0 hH (As := [.int a_1]) (rest := [rv E (some o)]) (k_X13_takes l E K H.size o a_1 w ho hq1) (gV m9_107 m9_109 ms_118 m1_16 m9_110) hd_X13_takes ⟨Nat.le_of_ble_eq_true rfl, Nat.le_of_ble_eq_true rfl, rfl, rfl⟩ rfl ho rfl rfl rfl hl.1 rfl (rcV rc0) rfl dX13_passesWord_3 ⟨Nat.zero_le _, Nat.zero_le _⟩ (fun H locs hH => ?_)
  refine lv_iconst (v := 1) hx hb dX13_passesWord_6 (by decide) ?_
  obtain ⟨q2, hq2, hf⟩ := bnd hf
  refine hcV_v hx hb hml hown hts hKs hT hb0 hH (As := [.int (b2i q1.1), .int 1]) (rest := []) (k_X13_needs l E K H.size o q1.1 1 q1.2 ho hq2) (gV m9_66 m9_68 ms_109 m1_16 m9_69) hd_X13_needs ⟨Nat.le_of_ble_eq_true rfl, Nat.le_of_ble_eq_true rfl, rfl, rfl⟩ rfl ho rfl rfl rfl hl.1 rfl rc0 rfl dX13_passesWord_7 ⟨Nat.zero_le _, Nat.zero_le _⟩ (fun H locs hH => ?_)
  exact hw_vret hx hb hret hf hH hlocks dX13_passesWord_10

theorem dX13_number_0 : decode cX13_number 0 = .ok (.aload_n 0, 1) := by decide +kernel
theorem dX13_number_1 : decode cX13_number 1 = .ok (.iload_n 1, 1) := by decide +kernel
theorem dX13_number_2 : decode cX13_number 2 = .ok (.iload_n 2, 1) := by decide +kernel
theorem dX13_number_3 : decode cX13_number 3 = .ok (.invokevirtual 396, 3) := by decide +kernel
theorem dX13_number_6 : decode cX13_number 6 = .ok (.istore_n 3, 1) := by decide +kernel
theorem dX13_number_7 : decode cX13_number 7 = .ok (.aload_n 0, 1) := by decide +kernel
theorem dX13_number_8 : decode cX13_number 8 = .ok (.invokevirtual 399, 3) := by decide +kernel
theorem dX13_number_11 : decode cX13_number 11 = .ok (.iload_n 3, 1) := by decide +kernel
theorem dX13_number_12 : decode cX13_number 12 = .ok (.ireturn, 1) := by decide +kernel
theorem hd_X13_number : yX13_number.cls = RX13 ∧ yX13_number.cls ≠ "java/lang/invoke/MethodHandle" ∧ yX13_number.cls ≠ "java/lang/invoke/VarHandle" ∧ (parseMethodDescriptor yX13_number.desc).map (fun d => d.parameters.length) = some 2 := by decide +kernel
theorem hs_X13_number : yX13_number.cls ≠ "java/lang/invoke/MethodHandle" ∧ yX13_number.cls ≠ "java/lang/invoke/VarHandle" ∧ (parseMethodDescriptor yX13_number.desc).map (fun d => d.parameters.length) = some 2 := by decide +kernel
set_option maxHeartbeats 4000000 in
set_option maxRecDepth 100000 in
theorem k_X13_number (l : Launch) (E : Ev) (K : Kd) (z : Nat) (o : Nat) (a_1 : Int32) (a_2 : Int32) (w : Wd) (ho : K o = some (11, 0)) {r : Int32} {w' : Wd} (hf : f_X13_number K o a_1 a_2 w = some (r, w')) : Met l yX13_number (Cond.code yX13_number cX13_number 4 (Option.some Jvm.ClassFile.FieldType.int) :: bt) ({ frames := 7, cells := 0, slots := 0, locals := 149 } : Room) (va_Pc [rv E (some o), .int a_1, .int a_2] (HB E K w z)) (QI E K z w' r) 0 0 (hA E) := by
  refine Met.ofW (cc := cX13_number) (maxL := 4) (ret := (Option.some Jvm.ClassFile.FieldType.int)) (by decide) rfl ?_
  intro p e s m args below meth c s₁ B hml hv
  obtain ⟨rfl, hz, hP, hKs, hT, hb0⟩ := hv
  have C : CX p l e s m _ meth c cX13_number 4 RX13 (Option.some Jvm.ClassFile.FieldType.int) E := ⟨B.exec, B.bytes, hml, findClass_of_methodNamed B.named, fun w h => atoms_spec (ws := Cond.code yX13_number cX13_number 4 (Option.some Jvm.ClassFile.FieldType.int) :: bt) B.pre w (List.mem_cons_of_mem _ h), hKs, hT, by rw [hz]; exact hb0, B.notSynchronized, B.returns⟩
  have hH : HQ E K z w s s.heap [] := ⟨hP, va_S.rf, hz⟩
  obtain ⟨hx, hb, hml, hown, hts, hKs, hT, hb0, hlocks, hret⟩ := id C
  have hl := lv_entry [rv E (some o), .int a_1, .int a_2] (n := 4) (by simp [lg_len_nil, lg_len_i, lg_len_j, lg_len_q, lg_len_f, lg_len_d, lg_len_r])
  rw [lg_entry_eq]
  generalize (lg_sl [rv E (some o), .int a_1, .int a_2] ++ List.replicate (4 - (lg_sl [rv E (some o), .int a_1, .int a_2]).length) Slot.unset).toArray = ls at hl ⊢
  replace hl : lv_has ls 4 [(0, rv E (some o)), (1, .int a_1), (2, .int a_2)] := by simpa only [lv_args, cat_q, cat_i, cat_j, reduceIte, Nat.reduceEqDiff, Nat.reduceAdd, Nat.zero_add] using hl
  generalize s.heap = H at hH ⊢
  unfold f_X13_number at hf
  refine hl_aload_n hx hb dX13_number_0 rfl (lv_at hl 0 rfl) ?_
  refine lv_iload_n hx hb dX13_number_1 rfl (lv_at hl 1 rfl) ?_
  refine lv_iload_n hx hb dX13_number_2 rfl (lv_at hl 2 rfl) ?_
  obtain ⟨q1, hq1, hf⟩ := bnd hf
  refine hcV_i hx hb hml hown hts hKs hT hb0 hH (As := [.int a_1, .int a_2]) (rest := []) (k_X13_look l E K H.size o a_1 a_2 w ho hq1) (gV m9_74 m9_76 ms_111 m1_16 m9_77) hd_X13_look ⟨Nat.le_of_ble_eq_true rfl, Nat.le_of_ble_eq_true rfl, rfl, rfl⟩ rfl ho rfl rfl rfl hl.1 rfl rc0 rfl dX13_number_3 ⟨Nat.zero_le _, Nat.zero_le _⟩ (fun H locs hH => ?_)
  refine lv_istore_n (i := 3) (lv' := [(3, .int (q1.1)), (0, rv E (some o)), (1, .int a_1), (2, .int a_2)]) hx hb dX13_number_6 rfl hl (by decide) rfl (fun ls hl => ?_)
  refine hl_aload_n hx hb dX13_number_7 rfl (lv_at hl 1 rfl) ?_
  obtain ⟨q2, hq2, hf⟩ := bnd hf
  refine hcV_v hx hb hml hown hts hKs hT hb0 hH (As := []) (rest := []) (k_X13_goOn l E K H.size o q1.2 ho hq2) (gV m9_70 m9_72 ms_110 m1_16 m9_73) hd_X13_goOn ⟨Nat.le_of_ble_eq_true rfl, Nat.le_of_ble_eq_true rfl, rfl, rfl⟩ rfl ho rfl rfl rfl hl.1 rfl rc0 rfl dX13_number_8 ⟨Nat.zero_le _, Nat.zero_le _⟩ (fun H locs hH => ?_)
  refine lv_iload_n hx hb dX13_number_11 rfl (lv_at hl 0 rfl) ?_
  exact hw_iret hx hb hret hf hH hlocks dX13_number_12

theorem dX13_numberBehind_0 : decode cX13_numberBehind 0 = .ok (.aload_n 0, 1) := by decide +kernel
theorem dX13_numberBehind_1 : decode cX13_numberBehind 1 = .ok (.iload_n 1, 1) := by decide +kernel
theorem dX13_numberBehind_2 : decode cX13_numberBehind 2 = .ok (.invokevirtual 402, 3) := by decide +kernel
theorem dX13_numberBehind_5 : decode cX13_numberBehind 5 = .ok (.aload_n 0, 1) := by decide +kernel
theorem dX13_numberBehind_6 : decode cX13_numberBehind 6 = .ok (.iload_n 2, 1) := by decide +kernel
theorem dX13_numberBehind_7 : decode cX13_numberBehind 7 = .ok (.iload_n 3, 1) := by decide +kernel
theorem dX13_numberBehind_8 : decode cX13_numberBehind 8 = .ok (.invokevirtual 405, 3) := by decide +kernel
theorem dX13_numberBehind_11 : decode cX13_numberBehind 11 = .ok (.ireturn, 1) := by decide +kernel
theorem hd_X13_numberBehind : yX13_numberBehind.cls = RX13 ∧ yX13_numberBehind.cls ≠ "java/lang/invoke/MethodHandle" ∧ yX13_numberBehind.cls ≠ "java/lang/invoke/VarHandle" ∧ (parseMethodDescriptor yX13_numberBehind.desc).map (fun d => d.parameters.length) = some 3 := by decide +kernel
theorem hs_X13_numberBehind : yX13_numberBehind.cls ≠ "java/lang/invoke/MethodHandle" ∧ yX13_numberBehind.cls ≠ "java/lang/invoke/VarHandle" ∧ (parseMethodDescriptor yX13_numberBehind.desc).map (fun d => d.parameters.length) = some 3 := by decide +kernel
set_option maxHeartbeats 4000000 in
set_option maxRecDepth 100000 in
theorem k_X13_numberBehind (l : Launch) (E : Ev) (K : Kd) (z : Nat) (o : Nat) (a_1 : Int32) (a_2 : Int32) (a_3 : Int32) (w : Wd) (ho : K o = some (11, 0)) {r : Int32} {w' : Wd} (hf : f_X13_numberBehind K o a_1 a_2 a_3 w = some (r, w')) : Met l yX13_numberBehind (Cond.code yX13_numberBehind cX13_numberBehind 4 (Option.some Jvm.ClassFile.FieldType.int) :: bt) ({ frames := 8, cells := 0, slots := 0, locals := 172 } : Room) (va_Pc [rv E (some o), .int a_1, .int a_2, .int a_3] (HB E K w z)) (QI E K z w' r) 0 0 (hA E) := by
  refine Met.ofW (cc := cX13_numberBehind) (maxL := 4) (ret := (Option.some Jvm.ClassFile.FieldType.int)) (by decide) rfl ?_
  intro p e s m args below meth c s₁ B hml hv
  obtain ⟨rfl, hz, hP, hKs, hT, hb0⟩ := hv
  have C : CX p l e s m _ meth c cX13_numberBehind 4 RX13 (Option.some Jvm.ClassFile.FieldType.int) E := ⟨B.exec, B.bytes, hml, findClass_of_methodNamed B.named, fun w h => atoms_spec (ws := Cond.code yX13_numberBehind cX13_numberBehind 4 (Option.some Jvm.ClassFile.FieldType.int) :: bt) B.pre w (List.mem_cons_of_mem _ h), hKs, hT, by rw [hz]; exact hb0, B.notSynchronized, B.returns⟩
  have hH : HQ E K z w s s.heap [] := ⟨hP, va_S.rf, hz⟩
  obtain ⟨hx, hb, hml, hown, hts, hKs, hT, hb0, hlocks, hret⟩ := id C
  have hl := lv_entry [rv E (some o), .int a_1, .int a_2, .int a_3] (n := 4) (by simp [lg_len_nil, lg_len_i, lg_len_j, lg_len_q, lg_len_f, lg_len_d, lg_len_r])
  rw [lg_entry_eq]
  generalize (lg_sl [rv E (some o), .int a_1, .int a_2, .int a_3] ++ List.replicate (4 - (lg_sl [rv E (some o), .int a_1, .int a_2, .int a_3]).length) Slot.unset).toArray = ls at hl ⊢
  replace hl : lv_has ls 4 [(0, rv E (some o)), (1, .int a_1), (2, .int a_2), (3, .int a_3)] := by simpa only [lv_args, cat_q, cat_i, cat_j, reduceIte, Nat.reduceEqDiff, Nat.reduceAdd, Nat.zero_add] using hl
  generalize s.heap = H at hH ⊢
  unfold f_X13_numberBehind at hf
  refine hl_aload_n hx hb dX13_numberBehind_0 rfl (lv_at hl 0 rfl) ?_
  refine lv_iload_n hx hb dX13_numberBehind_1 rfl (lv_at hl 1 rfl) ?_
  obtain ⟨q1, hq1, hf⟩ := bnd hf
  refine hcV_v hx hb hml hown hts hKs hT hb0 hH (As := [.int a_1]) (rest := []) (k_X13_passesWord l E K H.size o a_1 w ho hq1) (gV m9_103 m9_105 ms_117 m1_16 m9_106) hd_X13_passesWord ⟨Nat.le_of_ble_eq_true rfl, Nat.le_of_ble_eq_true rfl, rfl, rfl⟩ rfl ho rfl rfl rfl hl.1 rfl rc0 rfl dX13_numberBehind_2 ⟨Nat.zero_le _, Nat.zero_le _⟩ (fun H locs hH => ?_)
  refine hl_aload_n hx hb dX13_numberBehind_5 rfl (lv_at hl 0 rfl) ?_
  refine lv_iload_n hx hb dX13_numberBehind_6 rfl (lv_at hl 2 rfl) ?_
  refine lv_iload_n hx hb dX13_numberBehind_7 rfl (lv_at hl 3 rfl) ?_
  obtain ⟨q2, hq2, hf⟩ := bnd hf
  refine hcV_i hx hb hml hown hts hKs hT hb0 hH (As := [.int a_2, .int a_3]) (rest := []) (k_X13_number l E K H.size o a_2 a_3 q1 ho hq2) (gV m9_111 m9_113 ms_119 m1_16 m9_114) hd_X13_number ⟨Nat.le_of_ble_eq_true rfl, Nat.le_of_ble_eq_true rfl, rfl, rfl⟩ rfl ho rfl rfl rfl hl.1 rfl rc0 rfl dX13_numberBehind_8 ⟨Nat.zero_le _, Nat.zero_le _⟩ (fun H locs hH => ?_)
  exact hw_iret hx hb hret hf hH hlocks dX13_numberBehind_11
end
