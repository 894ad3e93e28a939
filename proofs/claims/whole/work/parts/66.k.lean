section
variable {p : Program} {l : Launch} {e : Env} {s : State} {m : MethodId} {args : Array Value} {below : List Frame} {meth : Method} {c : Code} {E : Ev} {K : Kd} {z : Nat}

theorem dX13_eligible_0 : decode cX13_eligible 0 = .ok (.aload_n 0, 1) := by decide +kernel
theorem dX13_eligible_1 : decode cX13_eligible 1 = .ok (.aload_n 0, 1) := by decide +kernel
theorem dX13_eligible_2 : decode cX13_eligible 2 = .ok (.iload_n 1, 1) := by decide +kernel
theorem dX13_eligible_3 : decode cX13_eligible 3 = .ok (.invokevirtual 148, 3) := by decide +kernel
theorem dX13_eligible_6 : decode cX13_eligible 6 = .ok (.invokevirtual 110, 3) := by decide +kernel
theorem dX13_eligible_9 : decode cX13_eligible 9 = .ok (.ifCond .ne 5, 3) := by decide +kernel
theorem dX13_eligible_12 : decode cX13_eligible 12 = .ok (.iconst 0, 1) := by decide +kernel
theorem dX13_eligible_13 : decode cX13_eligible 13 = .ok (.ireturn, 1) := by decide +kernel
theorem dX13_eligible_14 : decode cX13_eligible 14 = .ok (.iconst 0, 1) := by decide +kernel
theorem dX13_eligible_15 : decode cX13_eligible 15 = .ok (.istore_n 2, 1) := by decide +kernel
theorem dX13_eligible_16 : decode cX13_eligible 16 = .ok (.iconst 0, 1) := by decide +kernel
theorem dX13_eligible_17 : decode cX13_eligible 17 = .ok (.istore_n 3, 1) := by decide +kernel
theorem dX13_eligible_18 : decode cX13_eligible 18 = .ok (.iload_n 3, 1) := by decide +kernel
theorem dX13_eligible_19 : decode cX13_eligible 19 = .ok (.aload_n 0, 1) := by decide +kernel
theorem dX13_eligible_20 : decode cX13_eligible 20 = .ok (.getfield 7, 3) := by decide +kernel
theorem dX13_eligible_23 : decode cX13_eligible 23 = .ok (.iconst 1, 1) := by decide +kernel
theorem dX13_eligible_24 : decode cX13_eligible 24 = .ok (.iaload, 1) := by decide +kernel
theorem dX13_eligible_25 : decode cX13_eligible 25 = .ok (.if_icmp .ge 24, 3) := by decide +kernel
theorem dX13_eligible_28 : decode cX13_eligible 28 = .ok (.aload_n 0, 1) := by decide +kernel
theorem dX13_eligible_29 : decode cX13_eligible 29 = .ok (.iload_n 3, 1) := by decide +kernel
theorem dX13_eligible_30 : decode cX13_eligible 30 = .ok (.iload_n 1, 1) := by decide +kernel
theorem dX13_eligible_31 : decode cX13_eligible 31 = .ok (.invokevirtual 183, 3) := by decide +kernel
theorem dX13_eligible_34 : decode cX13_eligible 34 = .ok (.ifCond .ne 9, 3) := by decide +kernel
theorem dX13_eligible_37 : decode cX13_eligible 37 = .ok (.iload_n 2, 1) := by decide +kernel
theorem dX13_eligible_38 : decode cX13_eligible 38 = .ok (.iconst 1, 1) := by decide +kernel
theorem dX13_eligible_39 : decode cX13_eligible 39 = .ok (.iload_n 3, 1) := by decide +kernel
theorem dX13_eligible_40 : decode cX13_eligible 40 = .ok (.ishl, 1) := by decide +kernel
theorem dX13_eligible_41 : decode cX13_eligible 41 = .ok (.ior, 1) := by decide +kernel
theorem dX13_eligible_42 : decode cX13_eligible 42 = .ok (.istore_n 2, 1) := by decide +kernel
theorem dX13_eligible_43 : decode cX13_eligible 43 = .ok (.iinc 3 1, 3) := by decide +kernel
theorem dX13_eligible_46 : decode cX13_eligible 46 = .ok (.goto (-28), 3) := by decide +kernel
theorem dX13_eligible_49 : decode cX13_eligible 49 = .ok (.iload_n 2, 1) := by decide +kernel
theorem dX13_eligible_50 : decode cX13_eligible 50 = .ok (.ireturn, 1) := by decide +kernel
theorem hd_X13_eligible : yX13_eligible.cls = RX13 ∧ yX13_eligible.cls ≠ "java/lang/invoke/MethodHandle" ∧ yX13_eligible.cls ≠ "java/lang/invoke/VarHandle" ∧ (parseMethodDescriptor yX13_eligible.desc).map (fun d => d.parameters.length) = some 1 := by decide +kernel
theorem hs_X13_eligible : yX13_eligible.cls ≠ "java/lang/invoke/MethodHandle" ∧ yX13_eligible.cls ≠ "java/lang/invoke/VarHandle" ∧ (parseMethodDescriptor yX13_eligible.desc).map (fun d => d.parameters.length) = some 1 := by decide +kernel
set_option maxHeartbeats 4000000 in
set_option maxRecDepth 100000 in
theorem l_X13_eligible_L18 (C : CX p l e s m args meth c cX13_eligible 4 RX13 (Option.some Jvm.ClassFile.FieldType.int) E) {o : Nat} (ho : K o = some (11, 0)) {r : Int32} {w' : Wd} (k : Int32 → Int32 → Int32 → Wd → Option (Int32 × Wd)) (hk : ∀ (v1_18 : Int32) (v2_18 : Int32) (v3_18 : Int32) (w : Wd) (H : Heap) (locs : List Loc) (ls : Array Slot), HQ E K z w s H locs → lv_has ls 4 [(1, .int v1_18), (2, .int v2_18), (3, .int v3_18), (0, rv E (some o))] → k v1_18 v2_18 v3_18 w = some (r, w') → W p l e ({ frames := 4, cells := 0, slots := 0, locals := 88 } : Room) s m args below meth c H locs 0 0 (MQ below (QI E K z w' r) args s 0 0 (hA E)) (F0 m 49 ls [])) : ∀ (n : Nat) (v1_18 : Int32) (v2_18 : Int32) (v3_18 : Int32) (w : Wd) (H : Heap) (locs : List Loc) (ls : Array Slot), HQ E K z w s H locs → lv_has ls 4 [(1, .int v1_18), (2, .int v2_18), (3, .int v3_18), (0, rv E (some o))] → f_X13_eligible_L18 K o k n v1_18 v2_18 v3_18 w = some (r, w') → W p l e ({ frames := 4, cells := 0, slots := 0, locals := 88 } : Room) s m args below meth c H locs 0 0 (MQ below (QI E K z w' r) args s 0 0 (hA E)) (F0 m 18 ls []) := by
  obtain ⟨hx, hb, hml, hown, hts, hKs, hT, hb0, hlocks, hret⟩ := id C
  intro n
  induction n with
  | zero =>
    intro v1_18 v2_18 v3_18 w H locs ls hH hl hf
    cases hf
  | succ n ih =>
    intro v1_18 v2_18 v3_18 w H locs ls hH hl hf
    rw [f_X13_eligible_L18] at hf
    refine lv_iload_n hx hb dX13_eligible_18 rfl (lv_at hl 2 rfl) ?_
    refine hl_aload_n hx hb dX13_eligible_19 rfl (lv_at hl 3 rfl) ?_
    refine g13_1 hx hb hts hown hKs hH rfl ho m6_182 dX13_eligible_20 ?_
    refine lv_iconst (v := 1) hx hb dX13_eligible_23 (by decide) ?_
    obtain ⟨a5, ha5, hf⟩ := bnd hf
    replace ha5 := cha_some ha5
    obtain ⟨j6, hj6, hf⟩ := bnd hf
    refine hw_iald hx hb hKs hH ha5.1 ha5.2 hj6 dX13_eligible_24 ?_
    refine lv_icmp_ge (tgt := 49) hx hb dX13_eligible_25 (by decide) (fun c7 => ?_) (fun c7 => ?_)
    · replace hf := (if_pos c7).symm.trans hf
      exact hk v1_18 v2_18 v3_18 _ _ _ _ hH (lv_sub hl [0, 1, 2, 3] rfl) hf
    · replace hf := (if_neg c7).symm.trans hf
      refine hl_aload_n hx hb dX13_eligible_28 rfl (lv_at hl 3 rfl) ?_
      refine lv_iload_n hx hb dX13_eligible_29 rfl (lv_at hl 2 rfl) ?_
      refine lv_iload_n hx hb dX13_eligible_30 rfl (lv_at hl 0 rfl) ?_
      obtain ⟨q8, hq8, hf⟩ := bnd hf
      refine hcV_i hx hb hml hown hts hKs hT hb0 hH (As := [.int v3_18, .int v1_18]) (rest := []) (k_X13_isBarredFrom l E K H.size o v3_18 v1_18 w ho hq8) (gV m7_219 m7_221 ms_70 m1_16 m7_222) hd_X13_isBarredFrom ⟨Nat.le_of_ble_eq_true rfl, Nat.le_of_ble_eq_true rfl, rfl, rfl⟩ rfl ho rfl rfl rfl hl.1 rfl rc0 rfl dX13_eligible_31 ⟨Nat.zero_le _, Nat.zero_le _⟩ (fun H locs hH => ?_)
      refine lv_if_ne (tgt := 43) hx hb dX13_eligible_34 (by decide) (fun c9 => ?_) (fun c9 => ?_)
      · replace hf := (if_neg c9).symm.trans hf
        refine lv_iinc (v := (v3_18 + 1)) (lv' := [(3, .int ((v3_18 + 1))), (1, .int v1_18), (2, .int v2_18), (0, rv E (some o))]) hx hb dX13_eligible_43 hl (k := 2) rfl rfl (by decide) rfl (fun ls hl => ?_)
        refine lv_goto (tgt := 18) hx hb dX13_eligible_46 (by decide) ?_
        exact ih v1_18 v2_18 (v3_18 + 1) _ _ _ _ hH (lv_sub hl [1, 2, 0, 3] rfl) hf
      · replace hf := (if_pos c9).symm.trans hf
        refine lv_iload_n hx hb dX13_eligible_37 rfl (lv_at hl 1 rfl) ?_
        refine lv_iconst (v := 1) hx hb dX13_eligible_38 (by decide) ?_
        refine lv_iload_n hx hb dX13_eligible_39 rfl (lv_at hl 2 rfl) ?_
        refine lv_ishl hx hb dX13_eligible_40 ?_
        refine lv_ior hx hb dX13_eligible_41 ?_
        refine lv_istore_n (i := 2) (lv' := [(2, .int ((v2_18 ||| (1 <<< (v3_18 &&& 31))))), (1, .int v1_18), (3, .int v3_18), (0, rv E (some o))]) hx hb dX13_eligible_42 rfl hl (by decide) rfl (fun ls hl => ?_)
        refine lv_iinc (v := (v3_18 + 1)) (lv' := [(3, .int ((v3_18 + 1))), (2, .int ((v2_18 ||| (1 <<< (v3_18 &&& 31))))), (1, .int v1_18), (0, rv E (some o))]) hx hb dX13_eligible_43 hl (k := 2) rfl rfl (by decide) rfl (fun ls hl => ?_)
        refine lv_goto (tgt := 18) hx hb dX13_eligible_46 (by decide) ?_
        exact ih v1_18 (v2_18 ||| (1 <<< (v3_18 &&& 31))) (v3_18 + 1) _ _ _ _ hH (lv_sub hl [2, 1, 0, 3] rfl) hf
set_option maxHeartbeats 4000000 in
set_option maxRecDepth 100000 in
theorem k_X13_eligible (l : Launch) (E : Ev) (K : Kd) (z : Nat) (o : Nat) (a_1 : Int32) (w : Wd) (ho : K o = some (11, 0)) {r : Int32} {w' : Wd} (hf : f_X13_eligible K o a_1 w = some (r, w')) : Met l yX13_eligible (Cond.code yX13_eligible cX13_eligible 4 (Option.some Jvm.ClassFile.FieldType.int) :: bt) ({ frames := 4, cells := 0, slots := 0, locals := 88 } : Room) (va_Pc [rv E (some o), .int a_1] (HB E K w z)) (QI E K z w' r) 0 0 (hA E) := by
  refine Met.ofW (cc := cX13_eligible) (maxL := 4) (ret := (Option.some Jvm.ClassFile.FieldType.int)) (by decide) rfl ?_
  intro p e s m args below meth c s₁ B hml hv
  obtain ⟨rfl, hz, hP, hKs, hT, hb0⟩ := hv
  have C : CX p l e s m _ meth c cX13_eligible 4 RX13 (Option.some Jvm.ClassFile.FieldType.int) E := ⟨B.exec, B.bytes, hml, findClass_of_methodNamed B.named, fun w h => atoms_spec (ws := Cond.code yX13_eligible cX13_eligible 4 (Option.some Jvm.ClassFile.FieldType.int) :: bt) B.pre w (List.mem_cons_of_mem _ h), hKs, hT, by rw [hz]; exact hb0, B.notSynchronized, B.returns⟩
  have hH : HQ E K z w s s.heap [] := ⟨hP, va_S.rf, hz⟩
  obtain ⟨hx, hb, hml, hown, hts, hKs, hT, hb0, hlocks, hret⟩ := id C
  have hl := lv_entry [rv E (some o), .int a_1] (n := 4) (by simp [lg_len_nil, lg_len_i, lg_len_j, lg_len_q, lg_len_f, lg_len_d, lg_len_r])
  rw [lg_entry_eq]
  generalize (lg_sl [rv E (some o), .int a_1] ++ List.replicate (4 - (lg_sl [rv E (some o), .int a_1]).length) Slot.unset).toArray = ls at hl ⊢
  replace hl : lv_has ls 4 [(0, rv E (some o)), (1, .int a_1)] := by simpa only [lv_args, cat_q, cat_i, cat_j, reduceIte, Nat.reduceEqDiff, Nat.reduceAdd, Nat.zero_add] using hl
  generalize s.heap = H at hH ⊢
  unfold f_X13_eligible at hf
  refine hl_aload_n hx hb dX13_eligible_0 rfl (lv_at hl 0 rfl) ?_
  refine hl_aload_n hx hb dX13_eligible_1 rfl (lv_at hl 0 rfl) ?_
  refine lv_iload_n hx hb dX13_eligible_2 rfl (lv_at hl 1 rfl) ?_
  obtain ⟨q1, hq1, hf⟩ := bnd hf
  refine hcV_i hx hb hml hown hts hKs hT hb0 hH (As := [.int a_1]) (rest := [rv E (some o)]) (k_X13_isCase l E K H.size o a_1 w ho hq1) (gV m7_114 m7_116 ms_51 m1_16 m7_117) hd_X13_isCase ⟨Nat.le_of_ble_eq_true rfl, Nat.le_of_ble_eq_true rfl, rfl, rfl⟩ rfl ho rfl rfl rfl hl.1 rfl (rcV rc0) rfl dX13_eligible_3 ⟨Nat.zero_le _, Nat.zero_le _⟩ (fun H locs hH => ?_)
  obtain ⟨q2, hq2, hf⟩ := bnd hf
  refine hcV_i hx hb hml hown hts hKs hT hb0 hH (As := [.int (b2i q1.1)]) (rest := []) (k_X13_is l E K H.size o q1.1 q1.2 ho hq2) (gV m7_68 m7_70 ms_47 m1_16 m7_71) hd_X13_is ⟨Nat.le_of_ble_eq_true rfl, Nat.le_of_ble_eq_true rfl, rfl, rfl⟩ rfl ho rfl rfl rfl hl.1 rfl rc0 rfl dX13_eligible_6 ⟨Nat.zero_le _, Nat.zero_le _⟩ (fun H locs hH => ?_)
  refine lv_if_ne (tgt := 14) hx hb dX13_eligible_9 (by decide) (fun c3 => ?_) (fun c3 => ?_)
  · replace hf := (if_neg c3).symm.trans hf
    refine lv_iconst (v := 0) hx hb dX13_eligible_14 (by decide) ?_
    refine lv_istore_n (i := 2) (lv' := [(2, .int 0), (0, rv E (some o)), (1, .int a_1)]) hx hb dX13_eligible_15 rfl hl (by decide) rfl (fun ls hl => ?_)
    refine lv_iconst (v := 0) hx hb dX13_eligible_16 (by decide) ?_
    refine lv_istore_n (i := 3) (lv' := [(3, .int 0), (2, .int 0), (0, rv E (some o)), (1, .int a_1)]) hx hb dX13_eligible_17 rfl hl (by decide) rfl (fun ls hl => ?_)
    refine l_X13_eligible_L18  C ho _ (fun v1_18 v2_18 v3_18 w4 H locs ls hH hl hf => ?_) fu a_1 0 0 q2.2 _ _ _ hH (lv_sub hl [3, 1, 0, 2] rfl) hf
    refine lv_iload_n hx hb dX13_eligible_49 rfl (lv_at hl 1 rfl) ?_
    exact hw_iret hx hb hret hf hH hlocks dX13_eligible_50
  · replace hf := (if_pos c3).symm.trans hf
    refine lv_iconst (v := 0) hx hb dX13_eligible_12 (by decide) ?_
    exact hw_iret hx hb hret hf hH hlocks dX13_eligible_13

theorem dX13_caseAt_0 : decode cX13_caseAt 0 = .ok (.aload_n 0, 1) := by decide +kernel
theorem dX13_caseAt_1 : decode cX13_caseAt 1 = .ok (.aload_n 0, 1) := by decide +kernel
theorem dX13_caseAt_2 : decode cX13_caseAt 2 = .ok (.iload_n 1, 1) := by decide +kernel
theorem dX13_caseAt_3 : decode cX13_caseAt 3 = .ok (.invokevirtual 200, 3) := by decide +kernel
theorem dX13_caseAt_6 : decode cX13_caseAt 6 = .ok (.invokevirtual 110, 3) := by decide +kernel
theorem dX13_caseAt_9 : decode cX13_caseAt 9 = .ok (.ifCond .eq 16, 3) := by decide +kernel
theorem dX13_caseAt_12 : decode cX13_caseAt 12 = .ok (.aload_n 0, 1) := by decide +kernel
theorem dX13_caseAt_13 : decode cX13_caseAt 13 = .ok (.iload_n 2, 1) := by decide +kernel
theorem dX13_caseAt_14 : decode cX13_caseAt 14 = .ok (.iload_n 3, 1) := by decide +kernel
theorem dX13_caseAt_15 : decode cX13_caseAt 15 = .ok (.invokestatic 211, 3) := by decide +kernel
theorem dX13_caseAt_18 : decode cX13_caseAt 18 = .ok (.iconst 2, 1) := by decide +kernel
theorem dX13_caseAt_19 : decode cX13_caseAt 19 = .ok (.invokevirtual 214, 3) := by decide +kernel
theorem dX13_caseAt_22 : decode cX13_caseAt 22 = .ok (.ifCond .ne 5, 3) := by decide +kernel
theorem dX13_caseAt_25 : decode cX13_caseAt 25 = .ok (.iconst 0, 1) := by decide +kernel
theorem dX13_caseAt_26 : decode cX13_caseAt 26 = .ok (.ireturn, 1) := by decide +kernel
theorem dX13_caseAt_27 : decode cX13_caseAt 27 = .ok (.iconst 0, 1) := by decide +kernel
theorem dX13_caseAt_28 : decode cX13_caseAt 28 = .ok (.istore 4, 2) := by decide +kernel
theorem dX13_caseAt_30 : decode cX13_caseAt 30 = .ok (.iload 4, 2) := by decide +kernel
theorem dX13_caseAt_32 : decode cX13_caseAt 32 = .ok (.aload_n 0, 1) := by decide +kernel
theorem dX13_caseAt_33 : decode cX13_caseAt 33 = .ok (.getfield 7, 3) := by decide +kernel
theorem dX13_caseAt_36 : decode cX13_caseAt 36 = .ok (.iconst 3, 1) := by decide +kernel
theorem dX13_caseAt_37 : decode cX13_caseAt 37 = .ok (.iaload, 1) := by decide +kernel
theorem dX13_caseAt_38 : decode cX13_caseAt 38 = .ok (.if_icmp .ge 80, 3) := by decide +kernel
theorem dX13_caseAt_41 : decode cX13_caseAt 41 = .ok (.aload_n 0, 1) := by decide +kernel
theorem dX13_caseAt_42 : decode cX13_caseAt 42 = .ok (.iload 4, 2) := by decide +kernel
theorem dX13_caseAt_44 : decode cX13_caseAt 44 = .ok (.invokevirtual 164, 3) := by decide +kernel
theorem dX13_caseAt_47 : decode cX13_caseAt 47 = .ok (.ifCond .eq 65, 3) := by decide +kernel
theorem dX13_caseAt_50 : decode cX13_caseAt 50 = .ok (.aload_n 0, 1) := by decide +kernel
theorem dX13_caseAt_51 : decode cX13_caseAt 51 = .ok (.iload 4, 2) := by decide +kernel
theorem dX13_caseAt_53 : decode cX13_caseAt 53 = .ok (.iconst 5, 1) := by decide +kernel
theorem dX13_caseAt_54 : decode cX13_caseAt 54 = .ok (.invokevirtual 141, 3) := by decide +kernel
theorem dX13_caseAt_57 : decode cX13_caseAt 57 = .ok (.iload_n 1, 1) := by decide +kernel
theorem dX13_caseAt_58 : decode cX13_caseAt 58 = .ok (.if_icmp .ne 54, 3) := by decide +kernel
theorem dX13_caseAt_61 : decode cX13_caseAt 61 = .ok (.aload_n 0, 1) := by decide +kernel
theorem dX13_caseAt_62 : decode cX13_caseAt 62 = .ok (.iload 4, 2) := by decide +kernel
theorem dX13_caseAt_64 : decode cX13_caseAt 64 = .ok (.iconst 3, 1) := by decide +kernel
theorem dX13_caseAt_65 : decode cX13_caseAt 65 = .ok (.invokevirtual 141, 3) := by decide +kernel
theorem dX13_caseAt_68 : decode cX13_caseAt 68 = .ok (.iload_n 2, 1) := by decide +kernel
theorem dX13_caseAt_69 : decode cX13_caseAt 69 = .ok (.if_icmp .ne 43, 3) := by decide +kernel
theorem dX13_caseAt_72 : decode cX13_caseAt 72 = .ok (.iload_n 3, 1) := by decide +kernel
theorem dX13_caseAt_73 : decode cX13_caseAt 73 = .ok (.i2l, 1) := by decide +kernel
theorem dX13_caseAt_74 : decode cX13_caseAt 74 = .ok (.aload_n 0, 1) := by decide +kernel
theorem dX13_caseAt_75 : decode cX13_caseAt 75 = .ok (.iload 4, 2) := by decide +kernel
theorem dX13_caseAt_77 : decode cX13_caseAt 77 = .ok (.iconst 4, 1) := by decide +kernel
theorem dX13_caseAt_78 : decode cX13_caseAt 78 = .ok (.invokevirtual 141, 3) := by decide +kernel
theorem dX13_caseAt_81 : decode cX13_caseAt 81 = .ok (.i2l, 1) := by decide +kernel
theorem dX13_caseAt_82 : decode cX13_caseAt 82 = .ok (.aload_n 0, 1) := by decide +kernel
theorem dX13_caseAt_83 : decode cX13_caseAt 83 = .ok (.iload 4, 2) := by decide +kernel
theorem dX13_caseAt_85 : decode cX13_caseAt 85 = .ok (.iconst 4, 1) := by decide +kernel
theorem dX13_caseAt_86 : decode cX13_caseAt 86 = .ok (.invokevirtual 141, 3) := by decide +kernel
theorem dX13_caseAt_89 : decode cX13_caseAt 89 = .ok (.aload_n 0, 1) := by decide +kernel
theorem dX13_caseAt_90 : decode cX13_caseAt 90 = .ok (.getfield 7, 3) := by decide +kernel
theorem dX13_caseAt_93 : decode cX13_caseAt 93 = .ok (.bipush 100, 2) := by decide +kernel
theorem dX13_caseAt_95 : decode cX13_caseAt 95 = .ok (.iload 4, 2) := by decide +kernel
theorem dX13_caseAt_97 : decode cX13_caseAt 97 = .ok (.iadd, 1) := by decide +kernel
theorem dX13_caseAt_98 : decode cX13_caseAt 98 = .ok (.iaload, 1) := by decide +kernel
theorem dX13_caseAt_99 : decode cX13_caseAt 99 = .ok (.iadd, 1) := by decide +kernel
theorem dX13_caseAt_100 : decode cX13_caseAt 100 = .ok (.iconst 1, 1) := by decide +kernel
theorem dX13_caseAt_101 : decode cX13_caseAt 101 = .ok (.isub, 1) := by decide +kernel
theorem dX13_caseAt_102 : decode cX13_caseAt 102 = .ok (.i2l, 1) := by decide +kernel
theorem dX13_caseAt_103 : decode cX13_caseAt 103 = .ok (.invokestatic 123, 3) := by decide +kernel
theorem dX13_caseAt_106 : decode cX13_caseAt 106 = .ok (.ifCond .eq 6, 3) := by decide +kernel
theorem dX13_caseAt_109 : decode cX13_caseAt 109 = .ok (.iload 4, 2) := by decide +kernel
theorem dX13_caseAt_111 : decode cX13_caseAt 111 = .ok (.ireturn, 1) := by decide +kernel
theorem dX13_caseAt_112 : decode cX13_caseAt 112 = .ok (.iinc 4 1, 3) := by decide +kernel
theorem dX13_caseAt_115 : decode cX13_caseAt 115 = .ok (.goto (-85), 3) := by decide +kernel
theorem dX13_caseAt_118 : decode cX13_caseAt 118 = .ok (.iconst (-1), 1) := by decide +kernel
theorem dX13_caseAt_119 : decode cX13_caseAt 119 = .ok (.ireturn, 1) := by decide +kernel
theorem hd_X13_caseAt : yX13_caseAt.cls = RX13 ∧ yX13_caseAt.cls ≠ "java/lang/invoke/MethodHandle" ∧ yX13_caseAt.cls ≠ "java/lang/invoke/VarHandle" ∧ (parseMethodDescriptor yX13_caseAt.desc).map (fun d => d.parameters.length) = some 3 := by decide +kernel
theorem hs_X13_caseAt : yX13_caseAt.cls ≠ "java/lang/invoke/MethodHandle" ∧ yX13_caseAt.cls ≠ "java/lang/invoke/VarHandle" ∧ (parseMethodDescriptor yX13_caseAt.desc).map (fun d => d.parameters.length) = some 3 := by decide +kernel
set_option maxHeartbeats 4000000 in
set_option maxRecDepth 100000 in
theorem l_X13_caseAt_L30 (C : CX p l e s m args meth c cX13_caseAt 5 RX13 (Option.some Jvm.ClassFile.FieldType.int) E) {o : Nat} (ho : K o = some (11, 0)) {r : Int32} {w' : Wd} (k : Int32 → Int32 → Int32 → Int32 → Wd → Option (Int32 × Wd)) (hk : ∀ (v1_30 : Int32) (v2_30 : Int32) (v3_30 : Int32) (v4_30 : Int32) (w : Wd) (H : Heap) (locs : List Loc) (ls : Array Slot), HQ E K z w s H locs → lv_has ls 5 [(1, .int v1_30), (2, .int v2_30), (3, .int v3_30), (4, .int v4_30), (0, rv E (some o))] → k v1_30 v2_30 v3_30 v4_30 w = some (r, w') → W p l e ({ frames := 3, cells := 0, slots := 0, locals := 66 } : Room) s m args below meth c H locs 0 0 (MQ below (QI E K z w' r) args s 0 0 (hA E)) (F0 m 118 ls [])) : ∀ (n : Nat) (v1_30 : Int32) (v2_30 : Int32) (v3_30 : Int32) (v4_30 : Int32) (w : Wd) (H : Heap) (locs : List Loc) (ls : Array Slot), HQ E K z w s H locs → lv_has ls 5 [(1, .int v1_30), (2, .int v2_30), (3, .int v3_30), (4, .int v4_30), (0, rv E (some o))] → f_X13_caseAt_L30 K o k n v1_30 v2_30 v3_30 v4_30 w = some (r, w') → W p l e ({ frames := 3, cells := 0, slots := 0, locals := 66 } : Room) s m args below meth c H locs 0 0 (MQ below (QI E K z w' r) args s 0 0 (hA E)) (F0 m 30 ls []) := by
  obtain ⟨hx, hb, hml, hown, hts, hKs, hT, hb0, hlocks, hret⟩ := id C
  intro n
  induction n with
  | zero =>
    intro v1_30 v2_30 v3_30 v4_30 w H locs ls hH hl hf
    cases hf
  | succ n ih =>
    intro v1_30 v2_30 v3_30 v4_30 w H locs ls hH hl hf
    rw [f_X13_caseAt_L30] at hf
    refine lv_iload hx hb dX13_caseAt_30 (lv_at hl 3 rfl) ?_
    refine hl_aload_n hx hb dX13_caseAt_32 rfl (lv_at hl 4 rfl) ?_
    refine g13_1 hx hb hts hown hKs hH rfl ho m6_182 dX13_caseAt_33 ?_
    refine lv_iconst (v := 3) hx hb dX13_caseAt_36 (by decide) ?_
    obtain ⟨a8, ha8, hf⟩ := bnd hf
    replace ha8 := cha_some ha8
    obtain ⟨j9, hj9, hf⟩ := bnd hf
    refine hw_iald hx hb hKs hH ha8.1 ha8.2 hj9 dX13_caseAt_37 ?_
    refine lv_icmp_ge (tgt := 118) hx hb dX13_caseAt_38 (by decide) (fun c10 => ?_) (fun c10 => ?_)
    · replace hf := (if_pos c10).symm.trans hf
      exact hk v1_30 v2_30 v3_30 v4_30 _ _ _ _ hH (lv_sub hl [0, 1, 2, 3, 4] rfl) hf
    · replace hf := (if_neg c10).symm.trans hf
      refine hl_aload_n hx hb dX13_caseAt_41 rfl (lv_at hl 4 rfl) ?_
      refine lv_iload hx hb dX13_caseAt_42 (lv_at hl 3 rfl) ?_
      obtain ⟨q11, hq11, hf⟩ := bnd hf
      refine hcV_i hx hb hml hown hts hKs hT hb0 hH (As := [.int v4_30]) (rest := []) (k_X13_hasHearing l E K H.size o v4_30 w ho hq11) (gV m7_155 m7_157 ms_57 m1_16 m7_158) hd_X13_hasHearing ⟨Nat.le_of_ble_eq_true rfl, Nat.le_of_ble_eq_true rfl, rfl, rfl⟩ rfl ho rfl rfl rfl hl.1 rfl rc0 rfl dX13_caseAt_44 ⟨Nat.zero_le _, Nat.zero_le _⟩ (fun H locs hH => ?_)
      refine lv_if_eq (tgt := 112) hx hb dX13_caseAt_47 (by decide) (fun c12 => ?_) (fun c12 => ?_)
      · replace hf := (if_pos c12).symm.trans hf
        refine lv_iinc (v := (v4_30 + 1)) (lv' := [(4, .int ((v4_30 + 1))), (1, .int v1_30), (2, .int v2_30), (3, .int v3_30), (0, rv E (some o))]) hx hb dX13_caseAt_112 hl (k := 3) rfl rfl (by decide) rfl (fun ls hl => ?_)
        refine lv_goto (tgt := 30) hx hb dX13_caseAt_115 (by decide) ?_
        exact ih v1_30 v2_30 v3_30 (v4_30 + 1) _ _ _ _ hH (lv_sub hl [1, 2, 3, 0, 4] rfl) hf
      · replace hf := (if_neg c12).symm.trans hf
        refine hl_aload_n hx hb dX13_caseAt_50 rfl (lv_at hl 4 rfl) ?_
        refine lv_iload hx hb dX13_caseAt_51 (lv_at hl 3 rfl) ?_
        refine lv_iconst (v := 5) hx hb dX13_caseAt_53 (by decide) ?_
        obtain ⟨q13, hq13, hf⟩ := bnd hf
        refine hcV_i hx hb hml hown hts hKs hT hb0 hH (As := [.int v4_30, .int 5]) (rest := []) (k_X13_of l E K H.size o v4_30 5 q11.2 ho hq13) (gV m7_126 m7_128 ms_54 m1_16 m7_129) hd_X13_of ⟨Nat.le_of_ble_eq_true rfl, Nat.le_of_ble_eq_true rfl, rfl, rfl⟩ rfl ho rfl rfl rfl hl.1 rfl rc0 rfl dX13_caseAt_54 ⟨Nat.zero_le _, Nat.zero_le _⟩ (fun H locs hH => ?_)
        refine lv_iload_n hx hb dX13_caseAt_57 rfl (lv_at hl 0 rfl) ?_
        refine lv_icmp_ne (tgt := 112) hx hb dX13_caseAt_58 (by decide) (fun c14 => ?_) (fun c14 => ?_)
        · replace hf := (if_neg c14).symm.trans hf
          refine lv_iinc (v := (v4_30 + 1)) (lv' := [(4, .int ((v4_30 + 1))), (1, .int v1_30), (2, .int v2_30), (3, .int v3_30), (0, rv E (some o))]) hx hb dX13_caseAt_112 hl (k := 3) rfl rfl (by decide) rfl (fun ls hl => ?_)
          refine lv_goto (tgt := 30) hx hb dX13_caseAt_115 (by decide) ?_
          exact ih v1_30 v2_30 v3_30 (v4_30 + 1) _ _ _ _ hH (lv_sub hl [1, 2, 3, 0, 4] rfl) hf
        · replace hf := (if_pos c14).symm.trans hf
          refine hl_aload_n hx hb dX13_caseAt_61 rfl (lv_at hl 4 rfl) ?_
          refine lv_iload hx hb dX13_caseAt_62 (lv_at hl 3 rfl) ?_
          refine lv_iconst (v := 3) hx hb dX13_caseAt_64 (by decide) ?_
          obtain ⟨q15, hq15, hf⟩ := bnd hf
          refine hcV_i hx hb hml hown hts hKs hT hb0 hH (As := [.int v4_30, .int 3]) (rest := []) (k_X13_of l E K H.size o v4_30 3 q13.2 ho hq15) (gV m7_126 m7_128 ms_54 m1_16 m7_129) hd_X13_of ⟨Nat.le_of_ble_eq_true rfl, Nat.le_of_ble_eq_true rfl, rfl, rfl⟩ rfl ho rfl rfl rfl hl.1 rfl rc0 rfl dX13_caseAt_65 ⟨Nat.zero_le _, Nat.zero_le _⟩ (fun H locs hH => ?_)
          refine lv_iload_n hx hb dX13_caseAt_68 rfl (lv_at hl 1 rfl) ?_
          refine lv_icmp_ne (tgt := 112) hx hb dX13_caseAt_69 (by decide) (fun c16 => ?_) (fun c16 => ?_)
          · replace hf := (if_neg c16).symm.trans hf
            refine lv_iinc (v := (v4_30 + 1)) (lv' := [(4, .int ((v4_30 + 1))), (1, .int v1_30), (2, .int v2_30), (3, .int v3_30), (0, rv E (some o))]) hx hb dX13_caseAt_112 hl (k := 3) rfl rfl (by decide) rfl (fun ls hl => ?_)
            refine lv_goto (tgt := 30) hx hb dX13_caseAt_115 (by decide) ?_
            exact ih v1_30 v2_30 v3_30 (v4_30 + 1) _ _ _ _ hH (lv_sub hl [1, 2, 3, 0, 4] rfl) hf
          · replace hf := (if_pos c16).symm.trans hf
            refine lv_iload_n hx hb dX13_caseAt_72 rfl (lv_at hl 2 rfl) ?_
            refine lv_i2l (v := (v3_30.toInt64)) hx hb dX13_caseAt_73 rfl ?_
            refine hl_aload_n hx hb dX13_caseAt_74 rfl (lv_at hl 4 rfl) ?_
            refine lv_iload hx hb dX13_caseAt_75 (lv_at hl 3 rfl) ?_
            refine lv_iconst (v := 4) hx hb dX13_caseAt_77 (by decide) ?_
            obtain ⟨q17, hq17, hf⟩ := bnd hf
            refine hcV_i hx hb hml hown hts hKs hT hb0 hH (As := [.int v4_30, .int 4]) (rest := [.long (v3_30.toInt64)]) (k_X13_of l E K H.size o v4_30 4 q15.2 ho hq17) (gV m7_126 m7_128 ms_54 m1_16 m7_129) hd_X13_of ⟨Nat.le_of_ble_eq_true rfl, Nat.le_of_ble_eq_true rfl, rfl, rfl⟩ rfl ho rfl rfl rfl hl.1 rfl (rcJ rc0) rfl dX13_caseAt_78 ⟨Nat.zero_le _, Nat.zero_le _⟩ (fun H locs hH => ?_)
            refine lv_i2l (v := (q17.1.toInt64)) hx hb dX13_caseAt_81 rfl ?_
            refine hl_aload_n hx hb dX13_caseAt_82 rfl (lv_at hl 4 rfl) ?_
            refine lv_iload hx hb dX13_caseAt_83 (lv_at hl 3 rfl) ?_
            refine lv_iconst (v := 4) hx hb dX13_caseAt_85 (by decide) ?_
            obtain ⟨q18, hq18, hf⟩ := bnd hf
            refine hcV_i hx hb hml hown hts hKs hT hb0 hH (As := [.int v4_30, .int 4]) (rest := [.long (q17.1.toInt64), .long (v3_30.toInt64)]) (k_X13_of l E K H.size o v4_30 4 q17.2 ho hq18) (gV m7_126 m7_128 ms_54 m1_16 m7_129) hd_X13_of ⟨Nat.le_of_ble_eq_true rfl, Nat.le_of_ble_eq_true rfl, rfl, rfl⟩ rfl ho rfl rfl rfl hl.1 rfl (rcJ (rcJ rc0)) rfl dX13_caseAt_86 ⟨Nat.zero_le _, Nat.zero_le _⟩ (fun H locs hH => ?_)
            refine hl_aload_n hx hb dX13_caseAt_89 rfl (lv_at hl 4 rfl) ?_
            refine g13_1 hx hb hts hown hKs hH rfl ho m6_182 dX13_caseAt_90 ?_
            refine lv_bipush (v := 100) hx hb dX13_caseAt_93 (by decide) ?_
            refine lv_iload hx hb dX13_caseAt_95 (lv_at hl 3 rfl) ?_
            refine lv_iadd hx hb dX13_caseAt_97 ?_
            obtain ⟨a19, ha19, hf⟩ := bnd hf
            replace ha19 := cha_some ha19
            obtain ⟨j20, hj20, hf⟩ := bnd hf
            refine hw_iald hx hb hKs hH ha19.1 ha19.2 hj20 dX13_caseAt_98 ?_
            refine lv_iadd hx hb dX13_caseAt_99 ?_
            refine lv_iconst (v := 1) hx hb dX13_caseAt_100 (by decide) ?_
            refine lv_isub hx hb dX13_caseAt_101 ?_
            refine lv_i2l (v := (((q18.1 + (aI q18.2 a19.1 j20)) - 1).toInt64)) hx hb dX13_caseAt_102 rfl ?_
            obtain ⟨q21, hq21, hf⟩ := bnd hf
            refine hcS_i hx hb hml hown hts hKs hT hb0 hH (As := [.long (v3_30.toInt64), .long (q17.1.toInt64), .long (((q18.1 + (aI q18.2 a19.1 j20)) - 1).toInt64)]) (rest := []) (k_X13_isIn l E K H.size (v3_30.toInt64) (q17.1.toInt64) (((q18.1 + (aI q18.2 a19.1 j20)) - 1).toInt64) q18.2 hq21) (gS m7_88 m7_89 m1_16 m7_90) hs_X13_isIn ⟨Nat.le_of_ble_eq_true rfl, Nat.le_of_ble_eq_true rfl, rfl, rfl⟩ hl.1 rfl rc0 rfl dX13_caseAt_103 ⟨Nat.zero_le _, Nat.zero_le _⟩ (fun H locs hH => ?_)
            refine lv_if_eq (tgt := 112) hx hb dX13_caseAt_106 (by decide) (fun c22 => ?_) (fun c22 => ?_)
            · replace hf := (if_pos c22).symm.trans hf
              refine lv_iinc (v := (v4_30 + 1)) (lv' := [(4, .int ((v4_30 + 1))), (1, .int v1_30), (2, .int v2_30), (3, .int v3_30), (0, rv E (some o))]) hx hb dX13_caseAt_112 hl (k := 3) rfl rfl (by decide) rfl (fun ls hl => ?_)
              refine lv_goto (tgt := 30) hx hb dX13_caseAt_115 (by decide) ?_
              exact ih v1_30 v2_30 v3_30 (v4_30 + 1) _ _ _ _ hH (lv_sub hl [1, 2, 3, 0, 4] rfl) hf
            · replace hf := (if_neg c22).symm.trans hf
              refine lv_iload hx hb dX13_caseAt_109 (lv_at hl 3 rfl) ?_
              exact hw_iret hx hb hret hf hH hlocks dX13_caseAt_111
set_option maxHeartbeats 4000000 in
set_option maxRecDepth 100000 in
theorem k_X13_caseAt (l : Launch) (E : Ev) (K : Kd) (z : Nat) (o : Nat) (a_1 : Int32) (a_2 : Int32) (a_3 : Int32) (w : Wd) (ho : K o = some (11, 0)) {r : Int32} {w' : Wd} (hf : f_X13_caseAt K o a_1 a_2 a_3 w = some (r, w')) : Met l yX13_caseAt (Cond.code yX13_caseAt cX13_caseAt 5 (Option.some Jvm.ClassFile.FieldType.int) :: bt) ({ frames := 3, cells := 0, slots := 0, locals := 66 } : Room) (va_Pc [rv E (some o), .int a_1, .int a_2, .int a_3] (HB E K w z)) (QI E K z w' r) 0 0 (hA E) := by
  refine Met.ofW (cc := cX13_caseAt) (maxL := 5) (ret := (Option.some Jvm.ClassFile.FieldType.int)) (by decide) rfl ?_
  intro p e s m args below meth c s₁ B hml hv
  obtain ⟨rfl, hz, hP, hKs, hT, hb0⟩ := hv
  have C : CX p l e s m _ meth c cX13_caseAt 5 RX13 (Option.some Jvm.ClassFile.FieldType.int) E := ⟨B.exec, B.bytes, hml, findClass_of_methodNamed B.named, fun w h => atoms_spec (ws := Cond.code yX13_caseAt cX13_caseAt 5 (Option.some Jvm.ClassFile.FieldType.int) :: bt) B.pre w (List.mem_cons_of_mem _ h), hKs, hT, by rw [hz]; exact hb0, B.notSynchronized, B.returns⟩
  have hH : HQ E K z w s s.heap [] := ⟨hP, va_S.rf, hz⟩
  obtain ⟨hx, hb, hml, hown, hts, hKs, hT, hb0, hlocks, hret⟩ := id C
  have hl := lv_entry [rv E (some o), .int a_1, .int a_2, .int a_3] (n := 5) (by simp [lg_len_nil, lg_len_i, lg_len_j, lg_len_q, lg_len_f, lg_len_d, lg_len_r])
  rw [lg_entry_eq]
  generalize (lg_sl [rv E (some o), .int a_1, .int a_2, .int a_3] ++ List.replicate (5 - (lg_sl [rv E (some o), .int a_1, .int a_2, .int a_3]).length) Slot.unset).toArray = ls at hl ⊢
  replace hl : lv_has ls 5 [(0, rv E (some o)), (1, .int a_1), (2, .int a_2), (3, .int a_3)] := by simpa only [lv_args, cat_q, cat_i, cat_j, reduceIte, Nat.reduceEqDiff, Nat.reduceAdd, Nat.zero_add] using hl
  generalize s.heap = H at hH ⊢
  unfold f_X13_caseAt at hf
  refine hl_aload_n hx hb dX13_caseAt_0 rfl (lv_at hl 0 rfl) ?_
  refine hl_aload_n hx hb dX13_caseAt_1 rfl (lv_at hl 0 rfl) ?_
  refine lv_iload_n hx hb dX13_caseAt_2 rfl (lv_at hl 1 rfl) ?_
  obtain ⟨q1, hq1, hf⟩ := bnd hf
  refine hcV_i hx hb hml hown hts hKs hT hb0 hH (As := [.int a_1]) (rest := [rv E (some o)]) (k_X13_isRoom l E K H.size o a_1 w ho hq1) (gV m7_171 m7_173 ms_59 m1_16 m7_174) hd_X13_isRoom ⟨Nat.le_of_ble_eq_true rfl, Nat.le_of_ble_eq_true rfl, rfl, rfl⟩ rfl ho rfl rfl rfl hl.1 rfl (rcV rc0) rfl dX13_caseAt_3 ⟨Nat.zero_le _, Nat.zero_le _⟩ (fun H locs hH => ?_)
  obtain ⟨q2, hq2, hf⟩ := bnd hf
  refine hcV_i hx hb hml hown hts hKs hT hb0 hH (As := [.int (b2i q1.1)]) (rest := []) (k_X13_is l E K H.size o q1.1 q1.2 ho hq2) (gV m7_68 m7_70 ms_47 m1_16 m7_71) hd_X13_is ⟨Nat.le_of_ble_eq_true rfl, Nat.le_of_ble_eq_true rfl, rfl, rfl⟩ rfl ho rfl rfl rfl hl.1 rfl rc0 rfl dX13_caseAt_6 ⟨Nat.zero_le _, Nat.zero_le _⟩ (fun H locs hH => ?_)
  refine lv_if_eq (tgt := 25) hx hb dX13_caseAt_9 (by decide) (fun c3 => ?_) (fun c3 => ?_)
  · replace hf := (if_pos c3).symm.trans hf
    refine lv_iconst (v := 0) hx hb dX13_caseAt_25 (by decide) ?_
    exact hw_iret hx hb hret hf hH hlocks dX13_caseAt_26
  · replace hf := (if_neg c3).symm.trans hf
    refine hl_aload_n hx hb dX13_caseAt_12 rfl (lv_at hl 0 rfl) ?_
    refine lv_iload_n hx hb dX13_caseAt_13 rfl (lv_at hl 2 rfl) ?_
    refine lv_iload_n hx hb dX13_caseAt_14 rfl (lv_at hl 3 rfl) ?_
    obtain ⟨q4, hq4, hf⟩ := bnd hf
    refine hcS_i hx hb hml hown hts hKs hT hb0 hH (As := [.int a_2, .int a_3]) (rest := [rv E (some o)]) (k_X13_isTime l E K H.size a_2 a_3 q2.2 hq4) (gS m7_179 m7_180 m1_16 m7_181) hs_X13_isTime ⟨Nat.le_of_ble_eq_true rfl, Nat.le_of_ble_eq_true rfl, rfl, rfl⟩ hl.1 rfl (rcV rc0) rfl dX13_caseAt_15 ⟨Nat.zero_le _, Nat.zero_le _⟩ (fun H locs hH => ?_)
    refine lv_iconst (v := 2) hx hb dX13_caseAt_18 (by decide) ?_
    obtain ⟨q5, hq5, hf⟩ := bnd hf
    refine hcV_i hx hb hml hown hts hKs hT hb0 hH (As := [.int (b2i q4.1), .int 2]) (rest := []) (k_X13_may l E K H.size o q4.1 2 q4.2 ho hq5) (gV m7_183 m7_185 ms_61 m1_16 m7_186) hd_X13_may ⟨Nat.le_of_ble_eq_true rfl, Nat.le_of_ble_eq_true rfl, rfl, rfl⟩ rfl ho rfl rfl rfl hl.1 rfl rc0 rfl dX13_caseAt_19 ⟨Nat.zero_le _, Nat.zero_le _⟩ (fun H locs hH => ?_)
    refine lv_if_ne (tgt := 27) hx hb dX13_caseAt_22 (by decide) (fun c6 => ?_) (fun c6 => ?_)
    · replace hf := (if_neg c6).symm.trans hf
      refine lv_iconst (v := 0) hx hb dX13_caseAt_27 (by decide) ?_
      refine lv_istore (i := 4) (lv' := [(4, .int 0), (0, rv E (some o)), (1, .int a_1), (2, .int a_2), (3, .int a_3)]) hx hb dX13_caseAt_28 hl (by decide) rfl (fun ls hl => ?_)
      refine l_X13_caseAt_L30  C ho _ (fun v1_30 v2_30 v3_30 v4_30 w7 H locs ls hH hl hf => ?_) fu a_1 a_2 a_3 0 q5.2 _ _ _ hH (lv_sub hl [2, 3, 4, 0, 1] rfl) hf
      refine lv_iconst (v := (-1)) hx hb dX13_caseAt_118 (by decide) ?_
      exact hw_iret hx hb hret hf hH hlocks dX13_caseAt_119
    · replace hf := (if_pos c6).symm.trans hf
      refine lv_iconst (v := 0) hx hb dX13_caseAt_25 (by decide) ?_
      exact hw_iret hx hb hret hf hH hlocks dX13_caseAt_26

theorem dX13_usage_0 : decode cX13_usage 0 = .ok (.aload_n 0, 1) := by decide +kernel
theorem dX13_usage_1 : decode cX13_usage 1 = .ok (.aload_n 0, 1) := by decide +kernel
theorem dX13_usage_2 : decode cX13_usage 2 = .ok (.iload_n 1, 1) := by decide +kernel
theorem dX13_usage_3 : decode cX13_usage 3 = .ok (.invokevirtual 200, 3) := by decide +kernel
theorem dX13_usage_6 : decode cX13_usage 6 = .ok (.invokevirtual 110, 3) := by decide +kernel
theorem dX13_usage_9 : decode cX13_usage 9 = .ok (.ifCond .eq 16, 3) := by decide +kernel
theorem dX13_usage_12 : decode cX13_usage 12 = .ok (.aload_n 0, 1) := by decide +kernel
theorem dX13_usage_13 : decode cX13_usage 13 = .ok (.iload_n 2, 1) := by decide +kernel
theorem dX13_usage_14 : decode cX13_usage 14 = .ok (.iload_n 3, 1) := by decide +kernel
theorem dX13_usage_15 : decode cX13_usage 15 = .ok (.invokestatic 130, 3) := by decide +kernel
theorem dX13_usage_18 : decode cX13_usage 18 = .ok (.iconst 2, 1) := by decide +kernel
theorem dX13_usage_19 : decode cX13_usage 19 = .ok (.invokevirtual 214, 3) := by decide +kernel
theorem dX13_usage_22 : decode cX13_usage 22 = .ok (.ifCond .ne 5, 3) := by decide +kernel
theorem dX13_usage_25 : decode cX13_usage 25 = .ok (.fconst 0, 1) := by decide +kernel
theorem dX13_usage_26 : decode cX13_usage 26 = .ok (.freturn, 1) := by decide +kernel
theorem dX13_usage_27 : decode cX13_usage 27 = .ok (.aload_n 0, 1) := by decide +kernel
theorem dX13_usage_28 : decode cX13_usage 28 = .ok (.iload_n 2, 1) := by decide +kernel
theorem dX13_usage_29 : decode cX13_usage 29 = .ok (.iload_n 3, 1) := by decide +kernel
theorem dX13_usage_30 : decode cX13_usage 30 = .ok (.invokevirtual 134, 3) := by decide +kernel
theorem dX13_usage_33 : decode cX13_usage 33 = .ok (.aload_n 0, 1) := by decide +kernel
theorem dX13_usage_34 : decode cX13_usage 34 = .ok (.getfield 7, 3) := by decide +kernel
theorem dX13_usage_37 : decode cX13_usage 37 = .ok (.bipush 7, 2) := by decide +kernel
theorem dX13_usage_39 : decode cX13_usage 39 = .ok (.iload_n 1, 1) := by decide +kernel
theorem dX13_usage_40 : decode cX13_usage 40 = .ok (.iadd, 1) := by decide +kernel
theorem dX13_usage_41 : decode cX13_usage 41 = .ok (.iaload, 1) := by decide +kernel
theorem dX13_usage_42 : decode cX13_usage 42 = .ok (.aload_n 0, 1) := by decide +kernel
theorem dX13_usage_43 : decode cX13_usage 43 = .ok (.getfield 7, 3) := by decide +kernel
theorem dX13_usage_46 : decode cX13_usage 46 = .ok (.iconst 4, 1) := by decide +kernel
theorem dX13_usage_47 : decode cX13_usage 47 = .ok (.iload_n 1, 1) := by decide +kernel
theorem dX13_usage_48 : decode cX13_usage 48 = .ok (.iadd, 1) := by decide +kernel
theorem dX13_usage_49 : decode cX13_usage 49 = .ok (.iaload, 1) := by decide +kernel
theorem dX13_usage_50 : decode cX13_usage 50 = .ok (.isub, 1) := by decide +kernel
theorem dX13_usage_51 : decode cX13_usage 51 = .ok (.iconst 1, 1) := by decide +kernel
theorem dX13_usage_52 : decode cX13_usage 52 = .ok (.iadd, 1) := by decide +kernel
theorem dX13_usage_53 : decode cX13_usage 53 = .ok (.imul, 1) := by decide +kernel
theorem dX13_usage_54 : decode cX13_usage 54 = .ok (.istore 4, 2) := by decide +kernel
theorem dX13_usage_56 : decode cX13_usage 56 = .ok (.iconst 0, 1) := by decide +kernel
theorem dX13_usage_57 : decode cX13_usage 57 = .ok (.istore 5, 2) := by decide +kernel
theorem dX13_usage_59 : decode cX13_usage 59 = .ok (.iconst 0, 1) := by decide +kernel
theorem dX13_usage_60 : decode cX13_usage 60 = .ok (.istore 6, 2) := by decide +kernel
theorem dX13_usage_62 : decode cX13_usage 62 = .ok (.iload 6, 2) := by decide +kernel
theorem dX13_usage_64 : decode cX13_usage 64 = .ok (.aload_n 0, 1) := by decide +kernel
theorem dX13_usage_65 : decode cX13_usage 65 = .ok (.getfield 7, 3) := by decide +kernel
theorem dX13_usage_68 : decode cX13_usage 68 = .ok (.iconst 3, 1) := by decide +kernel
theorem dX13_usage_69 : decode cX13_usage 69 = .ok (.iaload, 1) := by decide +kernel
theorem dX13_usage_70 : decode cX13_usage 70 = .ok (.if_icmp .ge 76, 3) := by decide +kernel
theorem dX13_usage_73 : decode cX13_usage 73 = .ok (.aload_n 0, 1) := by decide +kernel
theorem dX13_usage_74 : decode cX13_usage 74 = .ok (.iload 6, 2) := by decide +kernel
theorem dX13_usage_76 : decode cX13_usage 76 = .ok (.invokevirtual 164, 3) := by decide +kernel
theorem dX13_usage_79 : decode cX13_usage 79 = .ok (.ifCond .eq 61, 3) := by decide +kernel
theorem dX13_usage_82 : decode cX13_usage 82 = .ok (.aload_n 0, 1) := by decide +kernel
theorem dX13_usage_83 : decode cX13_usage 83 = .ok (.iload 6, 2) := by decide +kernel
theorem dX13_usage_85 : decode cX13_usage 85 = .ok (.iconst 5, 1) := by decide +kernel
theorem dX13_usage_86 : decode cX13_usage 86 = .ok (.invokevirtual 141, 3) := by decide +kernel
theorem dX13_usage_89 : decode cX13_usage 89 = .ok (.iload_n 1, 1) := by decide +kernel
theorem dX13_usage_90 : decode cX13_usage 90 = .ok (.if_icmp .ne 50, 3) := by decide +kernel
theorem dX13_usage_93 : decode cX13_usage 93 = .ok (.aload_n 0, 1) := by decide +kernel
theorem dX13_usage_94 : decode cX13_usage 94 = .ok (.iload 6, 2) := by decide +kernel
theorem dX13_usage_96 : decode cX13_usage 96 = .ok (.iconst 3, 1) := by decide +kernel
theorem dX13_usage_97 : decode cX13_usage 97 = .ok (.invokevirtual 141, 3) := by decide +kernel
theorem dX13_usage_100 : decode cX13_usage 100 = .ok (.i2l, 1) := by decide +kernel
theorem dX13_usage_101 : decode cX13_usage 101 = .ok (.iload_n 2, 1) := by decide +kernel
theorem dX13_usage_102 : decode cX13_usage 102 = .ok (.i2l, 1) := by decide +kernel
theorem dX13_usage_103 : decode cX13_usage 103 = .ok (.iload_n 3, 1) := by decide +kernel
theorem dX13_usage_104 : decode cX13_usage 104 = .ok (.i2l, 1) := by decide +kernel
theorem dX13_usage_105 : decode cX13_usage 105 = .ok (.invokestatic 123, 3) := by decide +kernel
theorem dX13_usage_108 : decode cX13_usage 108 = .ok (.ifCond .eq 32, 3) := by decide +kernel
theorem dX13_usage_111 : decode cX13_usage 111 = .ok (.aload_n 0, 1) := by decide +kernel
theorem dX13_usage_112 : decode cX13_usage 112 = .ok (.aload_n 0, 1) := by decide +kernel
theorem dX13_usage_113 : decode cX13_usage 113 = .ok (.iload 6, 2) := by decide +kernel
theorem dX13_usage_115 : decode cX13_usage 115 = .ok (.iconst 3, 1) := by decide +kernel
theorem dX13_usage_116 : decode cX13_usage 116 = .ok (.invokevirtual 141, 3) := by decide +kernel
theorem dX13_usage_119 : decode cX13_usage 119 = .ok (.invokevirtual 118, 3) := by decide +kernel
theorem dX13_usage_122 : decode cX13_usage 122 = .ok (.ifCond .eq 18, 3) := by decide +kernel
theorem dX13_usage_125 : decode cX13_usage 125 = .ok (.iload 5, 2) := by decide +kernel
theorem dX13_usage_127 : decode cX13_usage 127 = .ok (.aload_n 0, 1) := by decide +kernel
theorem dX13_usage_128 : decode cX13_usage 128 = .ok (.getfield 7, 3) := by decide +kernel
theorem dX13_usage_131 : decode cX13_usage 131 = .ok (.bipush 100, 2) := by decide +kernel
theorem dX13_usage_133 : decode cX13_usage 133 = .ok (.iload 6, 2) := by decide +kernel
theorem dX13_usage_135 : decode cX13_usage 135 = .ok (.iadd, 1) := by decide +kernel
theorem dX13_usage_136 : decode cX13_usage 136 = .ok (.iaload, 1) := by decide +kernel
theorem dX13_usage_137 : decode cX13_usage 137 = .ok (.iadd, 1) := by decide +kernel
theorem dX13_usage_138 : decode cX13_usage 138 = .ok (.istore 5, 2) := by decide +kernel
theorem dX13_usage_140 : decode cX13_usage 140 = .ok (.iinc 6 1, 3) := by decide +kernel
theorem dX13_usage_143 : decode cX13_usage 143 = .ok (.goto (-81), 3) := by decide +kernel
theorem dX13_usage_146 : decode cX13_usage 146 = .ok (.iload 4, 2) := by decide +kernel
theorem dX13_usage_148 : decode cX13_usage 148 = .ok (.ifCond .ne 7, 3) := by decide +kernel
theorem dX13_usage_151 : decode cX13_usage 151 = .ok (.fconst 0, 1) := by decide +kernel
theorem dX13_usage_152 : decode cX13_usage 152 = .ok (.goto 10, 3) := by decide +kernel
theorem dX13_usage_155 : decode cX13_usage 155 = .ok (.iload 5, 2) := by decide +kernel
theorem dX13_usage_157 : decode cX13_usage 157 = .ok (.i2f, 1) := by decide +kernel
theorem dX13_usage_158 : decode cX13_usage 158 = .ok (.iload 4, 2) := by decide +kernel
theorem dX13_usage_160 : decode cX13_usage 160 = .ok (.i2f, 1) := by decide +kernel
theorem dX13_usage_161 : decode cX13_usage 161 = .ok (.fdiv, 1) := by decide +kernel
theorem dX13_usage_162 : decode cX13_usage 162 = .ok (.freturn, 1) := by decide +kernel
theorem hd_X13_usage : yX13_usage.cls = RX13 ∧ yX13_usage.cls ≠ "java/lang/invoke/MethodHandle" ∧ yX13_usage.cls ≠ "java/lang/invoke/VarHandle" ∧ (parseMethodDescriptor yX13_usage.desc).map (fun d => d.parameters.length) = some 3 := by decide +kernel
theorem hs_X13_usage : yX13_usage.cls ≠ "java/lang/invoke/MethodHandle" ∧ yX13_usage.cls ≠ "java/lang/invoke/VarHandle" ∧ (parseMethodDescriptor yX13_usage.desc).map (fun d => d.parameters.length) = some 3 := by decide +kernel
set_option maxHeartbeats 4000000 in
set_option maxRecDepth 100000 in
theorem l_X13_usage_L62 (C : CX p l e s m args meth c cX13_usage 7 RX13 (Option.some Jvm.ClassFile.FieldType.float) E) {o : Nat} (ho : K o = some (11, 0)) {r : UInt32} {w' : Wd} (k : Int32 → Int32 → Int32 → Int32 → Int32 → Int32 → Wd → Option (UInt32 × Wd)) (hk : ∀ (v1_62 : Int32) (v2_62 : Int32) (v3_62 : Int32) (v4_62 : Int32) (v5_62 : Int32) (v6_62 : Int32) (w : Wd) (H : Heap) (locs : List Loc) (ls : Array Slot), HQ E K z w s H locs → lv_has ls 7 [(1, .int v1_62), (2, .int v2_62), (3, .int v3_62), (4, .int v4_62), (5, .int v5_62), (6, .int v6_62), (0, rv E (some o))] → k v1_62 v2_62 v3_62 v4_62 v5_62 v6_62 w = some (r, w') → W p l e ({ frames := 3, cells := 0, slots := 0, locals := 67 } : Room) s m args below meth c H locs 0 0 (MQ below (QF E K z w' r) args s 0 0 (hA E)) (F0 m 146 ls [])) : ∀ (n : Nat) (v1_62 : Int32) (v2_62 : Int32) (v3_62 : Int32) (v4_62 : Int32) (v5_62 : Int32) (v6_62 : Int32) (w : Wd) (H : Heap) (locs : List Loc) (ls : Array Slot), HQ E K z w s H locs → lv_has ls 7 [(1, .int v1_62), (2, .int v2_62), (3, .int v3_62), (4, .int v4_62), (5, .int v5_62), (6, .int v6_62), (0, rv E (some o))] → f_X13_usage_L62 K o k n v1_62 v2_62 v3_62 v4_62 v5_62 v6_62 w = some (r, w') → W p l e ({ frames := 3, cells := 0, slots := 0, locals := 67 } : Room) s m args below meth c H locs 0 0 (MQ below (QF E K z w' r) args s 0 0 (hA E)) (F0 m 62 ls []) := by
  obtain ⟨hx, hb, hml, hown, hts, hKs, hT, hb0, hlocks, hret⟩ := id C
  intro n
  induction n with
  | zero =>
    intro v1_62 v2_62 v3_62 v4_62 v5_62 v6_62 w H locs ls hH hl hf
    cases hf
  | succ n ih =>
    intro v1_62 v2_62 v3_62 v4_62 v5_62 v6_62 w H locs ls hH hl hf
    rw [f_X13_usage_L62] at hf
    refine lv_iload hx hb dX13_usage_62 (lv_at hl 5 rfl) ?_
    refine hl_aload_n hx hb dX13_usage_64 rfl (lv_at hl 6 rfl) ?_
    refine g13_1 hx hb hts hown hKs hH rfl ho m6_182 dX13_usage_65 ?_
    refine lv_iconst (v := 3) hx hb dX13_usage_68 (by decide) ?_
    obtain ⟨a12, ha12, hf⟩ := bnd hf
    replace ha12 := cha_some ha12
    obtain ⟨j13, hj13, hf⟩ := bnd hf
    refine hw_iald hx hb hKs hH ha12.1 ha12.2 hj13 dX13_usage_69 ?_
    refine lv_icmp_ge (tgt := 146) hx hb dX13_usage_70 (by decide) (fun c14 => ?_) (fun c14 => ?_)
    · replace hf := (if_pos c14).symm.trans hf
      exact hk v1_62 v2_62 v3_62 v4_62 v5_62 v6_62 _ _ _ _ hH (lv_sub hl [0, 1, 2, 3, 4, 5, 6] rfl) hf
    · replace hf := (if_neg c14).symm.trans hf
      refine hl_aload_n hx hb dX13_usage_73 rfl (lv_at hl 6 rfl) ?_
      refine lv_iload hx hb dX13_usage_74 (lv_at hl 5 rfl) ?_
      obtain ⟨q15, hq15, hf⟩ := bnd hf
      refine hcV_i hx hb hml hown hts hKs hT hb0 hH (As := [.int v6_62]) (rest := []) (k_X13_hasHearing l E K H.size o v6_62 w ho hq15) (gV m7_155 m7_157 ms_57 m1_16 m7_158) hd_X13_hasHearing ⟨Nat.le_of_ble_eq_true rfl, Nat.le_of_ble_eq_true rfl, rfl, rfl⟩ rfl ho rfl rfl rfl hl.1 rfl rc0 rfl dX13_usage_76 ⟨Nat.zero_le _, Nat.zero_le _⟩ (fun H locs hH => ?_)
      refine lv_if_eq (tgt := 140) hx hb dX13_usage_79 (by decide) (fun c16 => ?_) (fun c16 => ?_)
      · replace hf := (if_pos c16).symm.trans hf
        refine lv_iinc (v := (v6_62 + 1)) (lv' := [(6, .int ((v6_62 + 1))), (1, .int v1_62), (2, .int v2_62), (3, .int v3_62), (4, .int v4_62), (5, .int v5_62), (0, rv E (some o))]) hx hb dX13_usage_140 hl (k := 5) rfl rfl (by decide) rfl (fun ls hl => ?_)
        refine lv_goto (tgt := 62) hx hb dX13_usage_143 (by decide) ?_
        exact ih v1_62 v2_62 v3_62 v4_62 v5_62 (v6_62 + 1) _ _ _ _ hH (lv_sub hl [1, 2, 3, 4, 5, 0, 6] rfl) hf
      · replace hf := (if_neg c16).symm.trans hf
        refine hl_aload_n hx hb dX13_usage_82 rfl (lv_at hl 6 rfl) ?_
        refine lv_iload hx hb dX13_usage_83 (lv_at hl 5 rfl) ?_
        refine lv_iconst (v := 5) hx hb dX13_usage_85 (by decide) ?_
        obtain ⟨q17, hq17, hf⟩ := bnd hf
        refine hcV_i hx hb hml hown hts hKs hT hb0 hH (As := [.int v6_62, .int 5]) (rest := []) (k_X13_of l E K H.size o v6_62 5 q15.2 ho hq17) (gV m7_126 m7_128 ms_54 m1_16 m7_129) hd_X13_of ⟨Nat.le_of_ble_eq_true rfl, Nat.le_of_ble_eq_true rfl, rfl, rfl⟩ rfl ho rfl rfl rfl hl.1 rfl rc0 rfl dX13_usage_86 ⟨Nat.zero_le _, Nat.zero_le _⟩ (fun H locs hH => ?_)
        refine lv_iload_n hx hb dX13_usage_89 rfl (lv_at hl 0 rfl) ?_
        refine lv_icmp_ne (tgt := 140) hx hb dX13_usage_90 (by decide) (fun c18 => ?_) (fun c18 => ?_)
        · replace hf := (if_neg c18).symm.trans hf
          refine lv_iinc (v := (v6_62 + 1)) (lv' := [(6, .int ((v6_62 + 1))), (1, .int v1_62), (2, .int v2_62), (3, .int v3_62), (4, .int v4_62), (5, .int v5_62), (0, rv E (some o))]) hx hb dX13_usage_140 hl (k := 5) rfl rfl (by decide) rfl (fun ls hl => ?_)
          refine lv_goto (tgt := 62) hx hb dX13_usage_143 (by decide) ?_
          exact ih v1_62 v2_62 v3_62 v4_62 v5_62 (v6_62 + 1) _ _ _ _ hH (lv_sub hl [1, 2, 3, 4, 5, 0, 6] rfl) hf
        · replace hf := (if_pos c18).symm.trans hf
          refine hl_aload_n hx hb dX13_usage_93 rfl (lv_at hl 6 rfl) ?_
          refine lv_iload hx hb dX13_usage_94 (lv_at hl 5 rfl) ?_
          refine lv_iconst (v := 3) hx hb dX13_usage_96 (by decide) ?_
          obtain ⟨q19, hq19, hf⟩ := bnd hf
          refine hcV_i hx hb hml hown hts hKs hT hb0 hH (As := [.int v6_62, .int 3]) (rest := []) (k_X13_of l E K H.size o v6_62 3 q17.2 ho hq19) (gV m7_126 m7_128 ms_54 m1_16 m7_129) hd_X13_of ⟨Nat.le_of_ble_eq_true rfl, Nat.le_of_ble_eq_true rfl, rfl, rfl⟩ rfl ho rfl rfl rfl hl.1 rfl rc0 rfl dX13_usage_97 ⟨Nat.zero_le _, Nat.zero_le _⟩ (fun H locs hH => ?_)
          refine lv_i2l (v := (q19.1.toInt64)) hx hb dX13_usage_100 rfl ?_
          refine lv_iload_n hx hb dX13_usage_101 rfl (lv_at hl 1 rfl) ?_
          refine lv_i2l (v := (v2_62.toInt64)) hx hb dX13_usage_102 rfl ?_
          refine lv_iload_n hx hb dX13_usage_103 rfl (lv_at hl 2 rfl) ?_
          refine lv_i2l (v := (v3_62.toInt64)) hx hb dX13_usage_104 rfl ?_
          obtain ⟨q20, hq20, hf⟩ := bnd hf
          refine hcS_i hx hb hml hown hts hKs hT hb0 hH (As := [.long (q19.1.toInt64), .long (v2_62.toInt64), .long (v3_62.toInt64)]) (rest := []) (k_X13_isIn l E K H.size (q19.1.toInt64) (v2_62.toInt64) (v3_62.toInt64) q19.2 hq20) (gS m7_88 m7_89 m1_16 m7_90) hs_X13_isIn ⟨Nat.le_of_ble_eq_true rfl, Nat.le_of_ble_eq_true rfl, rfl, rfl⟩ hl.1 rfl rc0 rfl dX13_usage_105 ⟨Nat.zero_le _, Nat.zero_le _⟩ (fun H locs hH => ?_)
          refine lv_if_eq (tgt := 140) hx hb dX13_usage_108 (by decide) (fun c21 => ?_) (fun c21 => ?_)
          · replace hf := (if_pos c21).symm.trans hf
            refine lv_iinc (v := (v6_62 + 1)) (lv' := [(6, .int ((v6_62 + 1))), (1, .int v1_62), (2, .int v2_62), (3, .int v3_62), (4, .int v4_62), (5, .int v5_62), (0, rv E (some o))]) hx hb dX13_usage_140 hl (k := 5) rfl rfl (by decide) rfl (fun ls hl => ?_)
            refine lv_goto (tgt := 62) hx hb dX13_usage_143 (by decide) ?_
            exact ih v1_62 v2_62 v3_62 v4_62 v5_62 (v6_62 + 1) _ _ _ _ hH (lv_sub hl [1, 2, 3, 4, 5, 0, 6] rfl) hf
          · replace hf := (if_neg c21).symm.trans hf
            refine hl_aload_n hx hb dX13_usage_111 rfl (lv_at hl 6 rfl) ?_
            refine hl_aload_n hx hb dX13_usage_112 rfl (lv_at hl 6 rfl) ?_
            refine lv_iload hx hb dX13_usage_113 (lv_at hl 5 rfl) ?_
            refine lv_iconst (v := 3) hx hb dX13_usage_115 (by decide) ?_
            obtain ⟨q22, hq22, hf⟩ := bnd hf
            refine hcV_i hx hb hml hown hts hKs hT hb0 hH (As := [.int v6_62, .int 3]) (rest := [rv E (some o)]) (k_X13_of l E K H.size o v6_62 3 q20.2 ho hq22) (gV m7_126 m7_128 ms_54 m1_16 m7_129) hd_X13_of ⟨Nat.le_of_ble_eq_true rfl, Nat.le_of_ble_eq_true rfl, rfl, rfl⟩ rfl ho rfl rfl rfl hl.1 rfl (rcV rc0) rfl dX13_usage_116 ⟨Nat.zero_le _, Nat.zero_le _⟩ (fun H locs hH => ?_)
            obtain ⟨q23, hq23, hf⟩ := bnd hf
            refine hcV_i hx hb hml hown hts hKs hT hb0 hH (As := [.int (q22.1)]) (rest := []) (k_X13_isWorking l E K H.size o q22.1 q22.2 ho hq23) (gV m7_91 m7_93 ms_48 m1_16 m7_94) hd_X13_isWorking ⟨Nat.le_of_ble_eq_true rfl, Nat.le_of_ble_eq_true rfl, rfl, rfl⟩ rfl ho rfl rfl rfl hl.1 rfl rc0 rfl dX13_usage_119 ⟨Nat.zero_le _, Nat.zero_le _⟩ (fun H locs hH => ?_)
            refine lv_if_eq (tgt := 140) hx hb dX13_usage_122 (by decide) (fun c24 => ?_) (fun c24 => ?_)
            · replace hf := (if_pos c24).symm.trans hf
              refine lv_iinc (v := (v6_62 + 1)) (lv' := [(6, .int ((v6_62 + 1))), (1, .int v1_62), (2, .int v2_62), (3, .int v3_62), (4, .int v4_62), (5, .int v5_62), (0, rv E (some o))]) hx hb dX13_usage_140 hl (k := 5) rfl rfl (by decide) rfl (fun ls hl => ?_)
              refine lv_goto (tgt := 62) hx hb dX13_usage_143 (by decide) ?_
              exact ih v1_62 v2_62 v3_62 v4_62 v5_62 (v6_62 + 1) _ _ _ _ hH (lv_sub hl [1, 2, 3, 4, 5, 0, 6] rfl) hf
            · replace hf := (if_neg c24).symm.trans hf
              refine lv_iload hx hb dX13_usage_125 (lv_at hl 4 rfl) ?_
              refine hl_aload_n hx hb dX13_usage_127 rfl (lv_at hl 6 rfl) ?_
              refine g13_1 hx hb hts hown hKs hH rfl ho m6_182 dX13_usage_128 ?_
              refine lv_bipush (v := 100) hx hb dX13_usage_131 (by decide) ?_
              refine lv_iload hx hb dX13_usage_133 (lv_at hl 5 rfl) ?_
              refine lv_iadd hx hb dX13_usage_135 ?_
              obtain ⟨a25, ha25, hf⟩ := bnd hf
              replace ha25 := cha_some ha25
              obtain ⟨j26, hj26, hf⟩ := bnd hf
              refine hw_iald hx hb hKs hH ha25.1 ha25.2 hj26 dX13_usage_136 ?_
              refine lv_iadd hx hb dX13_usage_137 ?_
              refine lv_istore (i := 5) (lv' := [(5, .int ((v5_62 + (aI q23.2 a25.1 j26)))), (1, .int v1_62), (2, .int v2_62), (3, .int v3_62), (4, .int v4_62), (6, .int v6_62), (0, rv E (some o))]) hx hb dX13_usage_138 hl (by decide) rfl (fun ls hl => ?_)
              refine lv_iinc (v := (v6_62 + 1)) (lv' := [(6, .int ((v6_62 + 1))), (5, .int ((v5_62 + (aI q23.2 a25.1 j26)))), (1, .int v1_62), (2, .int v2_62), (3, .int v3_62), (4, .int v4_62), (0, rv E (some o))]) hx hb dX13_usage_140 hl (k := 5) rfl rfl (by decide) rfl (fun ls hl => ?_)
              refine lv_goto (tgt := 62) hx hb dX13_usage_143 (by decide) ?_
              exact ih v1_62 v2_62 v3_62 v4_62 (v5_62 + (aI q23.2 a25.1 j26)) (v6_62 + 1) _ _ _ _ hH (lv_sub hl [2, 3, 4, 5, 1, 0, 6] rfl) hf
set_option maxHeartbeats 4000000 in
set_option maxRecDepth 100000 in
theorem k_X13_usage (l : Launch) (E : Ev) (K : Kd) (z : Nat) (o : Nat) (a_1 : Int32) (a_2 : Int32) (a_3 : Int32) (w : Wd) (ho : K o = some (11, 0)) {r : UInt32} {w' : Wd} (hf : f_X13_usage K o a_1 a_2 a_3 w = some (r, w')) : Met l yX13_usage (Cond.code yX13_usage cX13_usage 7 (Option.some Jvm.ClassFile.FieldType.float) :: bt) ({ frames := 3, cells := 0, slots := 0, locals := 67 } : Room) (va_Pc [rv E (some o), .int a_1, .int a_2, .int a_3] (HB E K w z)) (QF E K z w' r) 0 0 (hA E) := by
  refine Met.ofW (cc := cX13_usage) (maxL := 7) (ret := (Option.some Jvm.ClassFile.FieldType.float)) (by decide) rfl ?_
  intro p e s m args below meth c s₁ B hml hv
  obtain ⟨rfl, hz, hP, hKs, hT, hb0⟩ := hv
  have C : CX p l e s m _ meth c cX13_usage 7 RX13 (Option.some Jvm.ClassFile.FieldType.float) E := ⟨B.exec, B.bytes, hml, findClass_of_methodNamed B.named, fun w h => atoms_spec (ws := Cond.code yX13_usage cX13_usage 7 (Option.some Jvm.ClassFile.FieldType.float) :: bt) B.pre w (List.mem_cons_of_mem _ h), hKs, hT, by rw [hz]; exact hb0, B.notSynchronized, B.returns⟩
  have hH : HQ E K z w s s.heap [] := ⟨hP, va_S.rf, hz⟩
  obtain ⟨hx, hb, hml, hown, hts, hKs, hT, hb0, hlocks, hret⟩ := id C
  have hl := lv_entry [rv E (some o), .int a_1, .int a_2, .int a_3] (n := 7) (by simp [lg_len_nil, lg_len_i, lg_len_j, lg_len_q, lg_len_f, lg_len_d, lg_len_r])
  rw [lg_entry_eq]
  generalize (lg_sl [rv E (some o), .int a_1, .int a_2, .int a_3] ++ List.replicate (7 - (lg_sl [rv E (some o), .int a_1, .int a_2, .int a_3]).length) Slot.unset).toArray = ls at hl ⊢
  replace hl : lv_has ls 7 [(0, rv E (some o)), (1, .int a_1), (2, .int a_2), (3, .int a_3)] := by simpa only [lv_args, cat_q, cat_i, cat_j, reduceIte, Nat.reduceEqDiff, Nat.reduceAdd, Nat.zero_add] using hl
  generalize s.heap = H at hH ⊢
  unfold f_X13_usage at hf
  refine hl_aload_n hx hb dX13_usage_0 rfl (lv_at hl 0 rfl) ?_
  refine hl_aload_n hx hb dX13_usage_1 rfl (lv_at hl 0 rfl) ?_
  refine lv_iload_n hx hb dX13_usage_2 rfl (lv_at hl 1 rfl) ?_
  obtain ⟨q1, hq1, hf⟩ := bnd hf
  refine hcV_i hx hb hml hown hts hKs hT hb0 hH (As := [.int a_1]) (rest := [rv E (some o)]) (k_X13_isRoom l E K H.size o a_1 w ho hq1) (gV m7_171 m7_173 ms_59 m1_16 m7_174) hd_X13_isRoom ⟨Nat.le_of_ble_eq_true rfl, Nat.le_of_ble_eq_true rfl, rfl, rfl⟩ rfl ho rfl rfl rfl hl.1 rfl (rcV rc0) rfl dX13_usage_3 ⟨Nat.zero_le _, Nat.zero_le _⟩ (fun H locs hH => ?_)
  obtain ⟨q2, hq2, hf⟩ := bnd hf
  refine hcV_i hx hb hml hown hts hKs hT hb0 hH (As := [.int (b2i q1.1)]) (rest := []) (k_X13_is l E K H.size o q1.1 q1.2 ho hq2) (gV m7_68 m7_70 ms_47 m1_16 m7_71) hd_X13_is ⟨Nat.le_of_ble_eq_true rfl, Nat.le_of_ble_eq_true rfl, rfl, rfl⟩ rfl ho rfl rfl rfl hl.1 rfl rc0 rfl dX13_usage_6 ⟨Nat.zero_le _, Nat.zero_le _⟩ (fun H locs hH => ?_)
  refine lv_if_eq (tgt := 25) hx hb dX13_usage_9 (by decide) (fun c3 => ?_) (fun c3 => ?_)
  · replace hf := (if_pos c3).symm.trans hf
    refine lv_fconst0 hx hb dX13_usage_25 ?_
    exact hw_fret hx hb hret hf hH hlocks dX13_usage_26
  · replace hf := (if_neg c3).symm.trans hf
    refine hl_aload_n hx hb dX13_usage_12 rfl (lv_at hl 0 rfl) ?_
    refine lv_iload_n hx hb dX13_usage_13 rfl (lv_at hl 2 rfl) ?_
    refine lv_iload_n hx hb dX13_usage_14 rfl (lv_at hl 3 rfl) ?_
    obtain ⟨q4, hq4, hf⟩ := bnd hf
    refine hcS_i hx hb hml hown hts hKs hT hb0 hH (As := [.int a_2, .int a_3]) (rest := [rv E (some o)]) (k_X13_isSpan l E K H.size a_2 a_3 q2.2 hq4) (gS m7_103 m7_104 m1_16 m7_105) hs_X13_isSpan ⟨Nat.le_of_ble_eq_true rfl, Nat.le_of_ble_eq_true rfl, rfl, rfl⟩ hl.1 rfl (rcV rc0) rfl dX13_usage_15 ⟨Nat.zero_le _, Nat.zero_le _⟩ (fun H locs hH => ?_)
    refine lv_iconst (v := 2) hx hb dX13_usage_18 (by decide) ?_
    obtain ⟨q5, hq5, hf⟩ := bnd hf
    refine hcV_i hx hb hml hown hts hKs hT hb0 hH (As := [.int (b2i q4.1), .int 2]) (rest := []) (k_X13_may l E K H.size o q4.1 2 q4.2 ho hq5) (gV m7_183 m7_185 ms_61 m1_16 m7_186) hd_X13_may ⟨Nat.le_of_ble_eq_true rfl, Nat.le_of_ble_eq_true rfl, rfl, rfl⟩ rfl ho rfl rfl rfl hl.1 rfl rc0 rfl dX13_usage_19 ⟨Nat.zero_le _, Nat.zero_le _⟩ (fun H locs hH => ?_)
    refine lv_if_ne (tgt := 27) hx hb dX13_usage_22 (by decide) (fun c6 => ?_) (fun c6 => ?_)
    · replace hf := (if_neg c6).symm.trans hf
      refine hl_aload_n hx hb dX13_usage_27 rfl (lv_at hl 0 rfl) ?_
      refine lv_iload_n hx hb dX13_usage_28 rfl (lv_at hl 2 rfl) ?_
      refine lv_iload_n hx hb dX13_usage_29 rfl (lv_at hl 3 rfl) ?_
      obtain ⟨q7, hq7, hf⟩ := bnd hf
      refine hcV_i hx hb hml hown hts hKs hT hb0 hH (As := [.int a_2, .int a_3]) (rest := []) (k_X13_workingIn l E K H.size o a_2 a_3 q5.2 ho hq7) (gV m7_106 m7_108 ms_50 m1_16 m7_109) hd_X13_workingIn ⟨Nat.le_of_ble_eq_true rfl, Nat.le_of_ble_eq_true rfl, rfl, rfl⟩ rfl ho rfl rfl rfl hl.1 rfl rc0 rfl dX13_usage_30 ⟨Nat.zero_le _, Nat.zero_le _⟩ (fun H locs hH => ?_)
      refine hl_aload_n hx hb dX13_usage_33 rfl (lv_at hl 0 rfl) ?_
      refine g13_1 hx hb hts hown hKs hH rfl ho m6_182 dX13_usage_34 ?_
      refine lv_bipush (v := 7) hx hb dX13_usage_37 (by decide) ?_
      refine lv_iload_n hx hb dX13_usage_39 rfl (lv_at hl 1 rfl) ?_
      refine lv_iadd hx hb dX13_usage_40 ?_
      obtain ⟨a8, ha8, hf⟩ := bnd hf
      replace ha8 := cha_some ha8
      obtain ⟨j9, hj9, hf⟩ := bnd hf
      refine hw_iald hx hb hKs hH ha8.1 ha8.2 hj9 dX13_usage_41 ?_
      refine hl_aload_n hx hb dX13_usage_42 rfl (lv_at hl 0 rfl) ?_
      refine g13_1 hx hb hts hown hKs hH rfl ho m6_182 dX13_usage_43 ?_
      refine lv_iconst (v := 4) hx hb dX13_usage_46 (by decide) ?_
      refine lv_iload_n hx hb dX13_usage_47 rfl (lv_at hl 1 rfl) ?_
      refine lv_iadd hx hb dX13_usage_48 ?_
      obtain ⟨j10, hj10, hf⟩ := bnd hf
      refine hw_iald hx hb hKs hH ha8.1 ha8.2 hj10 dX13_usage_49 ?_
      refine lv_isub hx hb dX13_usage_50 ?_
      refine lv_iconst (v := 1) hx hb dX13_usage_51 (by decide) ?_
      refine lv_iadd hx hb dX13_usage_52 ?_
      refine lv_imul hx hb dX13_usage_53 ?_
      refine lv_istore (i := 4) (lv' := [(4, .int ((q7.1 * (((aI q7.2 a8.1 j9) - (aI q7.2 a8.1 j10)) + 1)))), (0, rv E (some o)), (1, .int a_1), (2, .int a_2), (3, .int a_3)]) hx hb dX13_usage_54 hl (by decide) rfl (fun ls hl => ?_)
      refine lv_iconst (v := 0) hx hb dX13_usage_56 (by decide) ?_
      refine lv_istore (i := 5) (lv' := [(5, .int 0), (4, .int ((q7.1 * (((aI q7.2 a8.1 j9) - (aI q7.2 a8.1 j10)) + 1)))), (0, rv E (some o)), (1, .int a_1), (2, .int a_2), (3, .int a_3)]) hx hb dX13_usage_57 hl (by decide) rfl (fun ls hl => ?_)
      refine lv_iconst (v := 0) hx hb dX13_usage_59 (by decide) ?_
      refine lv_istore (i := 6) (lv' := [(6, .int 0), (5, .int 0), (4, .int ((q7.1 * (((aI q7.2 a8.1 j9) - (aI q7.2 a8.1 j10)) + 1)))), (0, rv E (some o)), (1, .int a_1), (2, .int a_2), (3, .int a_3)]) hx hb dX13_usage_60 hl (by decide) rfl (fun ls hl => ?_)
      refine l_X13_usage_L62  C ho _ (fun v1_62 v2_62 v3_62 v4_62 v5_62 v6_62 w11 H locs ls hH hl hf => ?_) fu a_1 a_2 a_3 (q7.1 * (((aI q7.2 a8.1 j9) - (aI q7.2 a8.1 j10)) + 1)) 0 0 q7.2 _ _ _ hH (lv_sub hl [4, 5, 6, 2, 1, 0, 3] rfl) hf
      refine lv_iload hx hb dX13_usage_146 (lv_at hl 3 rfl) ?_
      refine lv_if_ne (tgt := 155) hx hb dX13_usage_148 (by decide) (fun c27 => ?_) (fun c27 => ?_)
      · replace hf := (if_neg c27).symm.trans hf
        refine lv_iload hx hb dX13_usage_155 (lv_at hl 4 rfl) ?_
        refine lv_i2f hx hb dX13_usage_157 ?_
        refine lv_iload hx hb dX13_usage_158 (lv_at hl 3 rfl) ?_
        refine lv_i2f hx hb dX13_usage_160 ?_
        obtain ⟨_, hg28, hf⟩ := bnd hf
        refine lv_fdiv hx hb dX13_usage_161 (n32_ok (grd_some hg28)) ?_
        exact hw_fret hx hb hret hf hH hlocks dX13_usage_162
      · replace hf := (if_pos c27).symm.trans hf
        refine lv_fconst0 hx hb dX13_usage_151 ?_
        refine lv_goto (tgt := 162) hx hb dX13_usage_152 (by decide) ?_
        exact hw_fret hx hb hret hf hH hlocks dX13_usage_162
    · replace hf := (if_pos c6).symm.trans hf
      refine lv_fconst0 hx hb dX13_usage_25 ?_
      exact hw_fret hx hb hret hf hH hlocks dX13_usage_26

theorem dX13_allBars_0 : decode cX13_allBars 0 = .ok (.iconst 0, 1) := by decide +kernel
theorem dX13_allBars_1 : decode cX13_allBars 1 = .ok (.istore_n 1, 1) := by decide +kernel
theorem dX13_allBars_2 : decode cX13_allBars 2 = .ok (.iconst 0, 1) := by decide +kernel
theorem dX13_allBars_3 : decode cX13_allBars 3 = .ok (.istore_n 2, 1) := by decide +kernel
theorem dX13_allBars_4 : decode cX13_allBars 4 = .ok (.iload_n 2, 1) := by decide +kernel
theorem dX13_allBars_5 : decode cX13_allBars 5 = .ok (.aload_n 0, 1) := by decide +kernel
theorem dX13_allBars_6 : decode cX13_allBars 6 = .ok (.getfield 7, 3) := by decide +kernel
theorem dX13_allBars_9 : decode cX13_allBars 9 = .ok (.iconst 3, 1) := by decide +kernel
theorem dX13_allBars_10 : decode cX13_allBars 10 = .ok (.iaload, 1) := by decide +kernel
theorem dX13_allBars_11 : decode cX13_allBars 11 = .ok (.if_icmp .ge 24, 3) := by decide +kernel
theorem dX13_allBars_14 : decode cX13_allBars 14 = .ok (.iload_n 1, 1) := by decide +kernel
theorem dX13_allBars_15 : decode cX13_allBars 15 = .ok (.aload_n 0, 1) := by decide +kernel
theorem dX13_allBars_16 : decode cX13_allBars 16 = .ok (.getfield 16, 3) := by decide +kernel
theorem dX13_allBars_19 : decode cX13_allBars 19 = .ok (.bipush 34, 2) := by decide +kernel
theorem dX13_allBars_21 : decode cX13_allBars 21 = .ok (.iload_n 2, 1) := by decide +kernel
theorem dX13_allBars_22 : decode cX13_allBars 22 = .ok (.iadd, 1) := by decide +kernel
theorem dX13_allBars_23 : decode cX13_allBars 23 = .ok (.iaload, 1) := by decide +kernel
theorem dX13_allBars_24 : decode cX13_allBars 24 = .ok (.invokestatic 159, 3) := by decide +kernel
theorem dX13_allBars_27 : decode cX13_allBars 27 = .ok (.iadd, 1) := by decide +kernel
theorem dX13_allBars_28 : decode cX13_allBars 28 = .ok (.istore_n 1, 1) := by decide +kernel
theorem dX13_allBars_29 : decode cX13_allBars 29 = .ok (.iinc 2 1, 3) := by decide +kernel
theorem dX13_allBars_32 : decode cX13_allBars 32 = .ok (.goto (-28), 3) := by decide +kernel
theorem dX13_allBars_35 : decode cX13_allBars 35 = .ok (.iload_n 1, 1) := by decide +kernel
theorem dX13_allBars_36 : decode cX13_allBars 36 = .ok (.ireturn, 1) := by decide +kernel
theorem hd_X13_allBars : yX13_allBars.cls = RX13 ∧ yX13_allBars.cls ≠ "java/lang/invoke/MethodHandle" ∧ yX13_allBars.cls ≠ "java/lang/invoke/VarHandle" ∧ (parseMethodDescriptor yX13_allBars.desc).map (fun d => d.parameters.length) = some 0 := by decide +kernel
theorem hs_X13_allBars : yX13_allBars.cls ≠ "java/lang/invoke/MethodHandle" ∧ yX13_allBars.cls ≠ "java/lang/invoke/VarHandle" ∧ (parseMethodDescriptor yX13_allBars.desc).map (fun d => d.parameters.length) = some 0 := by decide +kernel
set_option maxHeartbeats 4000000 in
set_option maxRecDepth 100000 in
theorem l_X13_allBars_L4 (C : CX p l e s m args meth c cX13_allBars 3 RX13 (Option.some Jvm.ClassFile.FieldType.int) E) {o : Nat} (ho : K o = some (11, 0)) {r : Int32} {w' : Wd} (k : Int32 → Int32 → Wd → Option (Int32 × Wd)) (hk : ∀ (v1_4 : Int32) (v2_4 : Int32) (w : Wd) (H : Heap) (locs : List Loc) (ls : Array Slot), HQ E K z w s H locs → lv_has ls 3 [(1, .int v1_4), (2, .int v2_4), (0, rv E (some o))] → k v1_4 v2_4 w = some (r, w') → W p l e ({ frames := 1, cells := 0, slots := 0, locals := 22 } : Room) s m args below meth c H locs 0 0 (MQ below (QI E K z w' r) args s 0 0 (hA E)) (F0 m 35 ls [])) : ∀ (n : Nat) (v1_4 : Int32) (v2_4 : Int32) (w : Wd) (H : Heap) (locs : List Loc) (ls : Array Slot), HQ E K z w s H locs → lv_has ls 3 [(1, .int v1_4), (2, .int v2_4), (0, rv E (some o))] → f_X13_allBars_L4 K o k n v1_4 v2_4 w = some (r, w') → W p l e ({ frames := 1, cells := 0, slots := 0, locals := 22 } : Room) s m args below meth c H locs 0 0 (MQ below (QI E K z w' r) args s 0 0 (hA E)) (F0 m 4 ls []) := by
  obtain ⟨hx, hb, hml, hown, hts, hKs, hT, hb0, hlocks, hret⟩ := id C
  intro n
  induction n with
  | zero =>
    intro v1_4 v2_4 w H locs ls hH hl hf
    cases hf
  | succ n ih =>
    intro v1_4 v2_4 w H locs ls hH hl hf
    rw [f_X13_allBars_L4] at hf
    refine lv_iload_n hx hb dX13_allBars_4 rfl (lv_at hl 1 rfl) ?_
    refine hl_aload_n hx hb dX13_allBars_5 rfl (lv_at hl 2 rfl) ?_
    refine g13_1 hx hb hts hown hKs hH rfl ho m6_182 dX13_allBars_6 ?_
    refine lv_iconst (v := 3) hx hb dX13_allBars_9 (by decide) ?_
    obtain ⟨a2, ha2, hf⟩ := bnd hf
    replace ha2 := cha_some ha2
    obtain ⟨j3, hj3, hf⟩ := bnd hf
    refine hw_iald hx hb hKs hH ha2.1 ha2.2 hj3 dX13_allBars_10 ?_
    refine lv_icmp_ge (tgt := 35) hx hb dX13_allBars_11 (by decide) (fun c4 => ?_) (fun c4 => ?_)
    · replace hf := (if_pos c4).symm.trans hf
      exact hk v1_4 v2_4 _ _ _ _ hH (lv_sub hl [0, 1, 2] rfl) hf
    · replace hf := (if_neg c4).symm.trans hf
      refine lv_iload_n hx hb dX13_allBars_14 rfl (lv_at hl 0 rfl) ?_
      refine hl_aload_n hx hb dX13_allBars_15 rfl (lv_at hl 2 rfl) ?_
      refine g13_3 hx hb hts hown hKs hH rfl ho m6_184 dX13_allBars_16 ?_
      refine lv_bipush (v := 34) hx hb dX13_allBars_19 (by decide) ?_
      refine lv_iload_n hx hb dX13_allBars_21 rfl (lv_at hl 1 rfl) ?_
      refine lv_iadd hx hb dX13_allBars_22 ?_
      obtain ⟨a5, ha5, hf⟩ := bnd hf
      replace ha5 := cha_some ha5
      obtain ⟨j6, hj6, hf⟩ := bnd hf
      refine hw_iald hx hb hKs hH ha5.1 ha5.2 hj6 dX13_allBars_23 ?_
      obtain ⟨q7, hq7, hf⟩ := bnd hf
      refine hcS_i hx hb hml hown hts hKs hT hb0 hH (As := [.int ((aI w a5.1 j6))]) (rest := [.int v1_4]) (k_X13_bits l E K H.size (aI w a5.1 j6) w hq7) (gS m7_147 m7_148 m1_16 m7_149) hs_X13_bits ⟨Nat.le_of_ble_eq_true rfl, Nat.le_of_ble_eq_true rfl, rfl, rfl⟩ hl.1 rfl (rcI rc0) rfl dX13_allBars_24 ⟨Nat.zero_le _, Nat.zero_le _⟩ (fun H locs hH => ?_)
      refine lv_iadd hx hb dX13_allBars_27 ?_
      refine lv_istore_n (i := 1) (lv' := [(1, .int ((v1_4 + q7.1))), (2, .int v2_4), (0, rv E (some o))]) hx hb dX13_allBars_28 rfl hl (by decide) rfl (fun ls hl => ?_)
      refine lv_iinc (v := (v2_4 + 1)) (lv' := [(2, .int ((v2_4 + 1))), (1, .int ((v1_4 + q7.1))), (0, rv E (some o))]) hx hb dX13_allBars_29 hl (k := 1) rfl rfl (by decide) rfl (fun ls hl => ?_)
      refine lv_goto (tgt := 4) hx hb dX13_allBars_32 (by decide) ?_
      exact ih (v1_4 + q7.1) (v2_4 + 1) _ _ _ _ hH (lv_sub hl [1, 0, 2] rfl) hf
set_option maxHeartbeats 4000000 in
set_option maxRecDepth 100000 in
theorem k_X13_allBars (l : Launch) (E : Ev) (K : Kd) (z : Nat) (o : Nat) (w : Wd) (ho : K o = some (11, 0)) {r : Int32} {w' : Wd} (hf : f_X13_allBars K o w = some (r, w')) : Met l yX13_allBars (Cond.code yX13_allBars cX13_allBars 3 (Option.some Jvm.ClassFile.FieldType.int) :: bt) ({ frames := 1, cells := 0, slots := 0, locals := 22 } : Room) (va_Pc [rv E (some o)] (HB E K w z)) (QI E K z w' r) 0 0 (hA E) := by
  refine Met.ofW (cc := cX13_allBars) (maxL := 3) (ret := (Option.some Jvm.ClassFile.FieldType.int)) (by decide) rfl ?_
  intro p e s m args below meth c s₁ B hml hv
  obtain ⟨rfl, hz, hP, hKs, hT, hb0⟩ := hv
  have C : CX p l e s m _ meth c cX13_allBars 3 RX13 (Option.some Jvm.ClassFile.FieldType.int) E := ⟨B.exec, B.bytes, hml, findClass_of_methodNamed B.named, fun w h => atoms_spec (ws := Cond.code yX13_allBars cX13_allBars 3 (Option.some Jvm.ClassFile.FieldType.int) :: bt) B.pre w (List.mem_cons_of_mem _ h), hKs, hT, by rw [hz]; exact hb0, B.notSynchronized, B.returns⟩
  have hH : HQ E K z w s s.heap [] := ⟨hP, va_S.rf, hz⟩
  obtain ⟨hx, hb, hml, hown, hts, hKs, hT, hb0, hlocks, hret⟩ := id C
  have hl := lv_entry [rv E (some o)] (n := 3) (by simp [lg_len_nil, lg_len_i, lg_len_j, lg_len_q, lg_len_f, lg_len_d, lg_len_r])
  rw [lg_entry_eq]
  generalize (lg_sl [rv E (some o)] ++ List.replicate (3 - (lg_sl [rv E (some o)]).length) Slot.unset).toArray = ls at hl ⊢
  replace hl : lv_has ls 3 [(0, rv E (some o))] := by simpa only [lv_args, cat_q, cat_i, cat_j, reduceIte, Nat.reduceEqDiff, Nat.reduceAdd, Nat.zero_add] using hl
  generalize s.heap = H at hH ⊢
  unfold f_X13_allBars at hf
  refine lv_iconst (v := 0) hx hb dX13_allBars_0 (by decide) ?_
  refine lv_istore_n (i := 1) (lv' := [(1, .int 0), (0, rv E (some o))]) hx hb dX13_allBars_1 rfl hl (by decide) rfl (fun ls hl => ?_)
  refine lv_iconst (v := 0) hx hb dX13_allBars_2 (by decide) ?_
  refine lv_istore_n (i := 2) (lv' := [(2, .int 0), (1, .int 0), (0, rv E (some o))]) hx hb dX13_allBars_3 rfl hl (by decide) rfl (fun ls hl => ?_)
  refine l_X13_allBars_L4  C ho _ (fun v1_4 v2_4 w1 H locs ls hH hl hf => ?_) fu 0 0 w _ _ _ hH (lv_sub hl [1, 0, 2] rfl) hf
  refine lv_iload_n hx hb dX13_allBars_35 rfl (lv_at hl 0 rfl) ?_
  exact hw_iret hx hb hret hf hH hlocks dX13_allBars_36

theorem dX13_allConflicts_0 : decode cX13_allConflicts 0 = .ok (.iconst 0, 1) := by decide +kernel
theorem dX13_allConflicts_1 : decode cX13_allConflicts 1 = .ok (.istore_n 1, 1) := by decide +kernel
theorem dX13_allConflicts_2 : decode cX13_allConflicts 2 = .ok (.iconst 0, 1) := by decide +kernel
theorem dX13_allConflicts_3 : decode cX13_allConflicts 3 = .ok (.istore_n 2, 1) := by decide +kernel
theorem dX13_allConflicts_4 : decode cX13_allConflicts 4 = .ok (.iload_n 2, 1) := by decide +kernel
theorem dX13_allConflicts_5 : decode cX13_allConflicts 5 = .ok (.aload_n 0, 1) := by decide +kernel
theorem dX13_allConflicts_6 : decode cX13_allConflicts 6 = .ok (.getfield 7, 3) := by decide +kernel
theorem dX13_allConflicts_9 : decode cX13_allConflicts 9 = .ok (.iconst 3, 1) := by decide +kernel
theorem dX13_allConflicts_10 : decode cX13_allConflicts 10 = .ok (.iaload, 1) := by decide +kernel
theorem dX13_allConflicts_11 : decode cX13_allConflicts 11 = .ok (.if_icmp .ge 25, 3) := by decide +kernel
theorem dX13_allConflicts_14 : decode cX13_allConflicts 14 = .ok (.iload_n 1, 1) := by decide +kernel
theorem dX13_allConflicts_15 : decode cX13_allConflicts 15 = .ok (.aload_n 0, 1) := by decide +kernel
theorem dX13_allConflicts_16 : decode cX13_allConflicts 16 = .ok (.getfield 7, 3) := by decide +kernel
theorem dX13_allConflicts_19 : decode cX13_allConflicts 19 = .ok (.sipush 148, 3) := by decide +kernel
theorem dX13_allConflicts_22 : decode cX13_allConflicts 22 = .ok (.iload_n 2, 1) := by decide +kernel
theorem dX13_allConflicts_23 : decode cX13_allConflicts 23 = .ok (.iadd, 1) := by decide +kernel
theorem dX13_allConflicts_24 : decode cX13_allConflicts 24 = .ok (.iaload, 1) := by decide +kernel
theorem dX13_allConflicts_25 : decode cX13_allConflicts 25 = .ok (.invokestatic 159, 3) := by decide +kernel
theorem dX13_allConflicts_28 : decode cX13_allConflicts 28 = .ok (.iadd, 1) := by decide +kernel
theorem dX13_allConflicts_29 : decode cX13_allConflicts 29 = .ok (.istore_n 1, 1) := by decide +kernel
theorem dX13_allConflicts_30 : decode cX13_allConflicts 30 = .ok (.iinc 2 1, 3) := by decide +kernel
theorem dX13_allConflicts_33 : decode cX13_allConflicts 33 = .ok (.goto (-29), 3) := by decide +kernel
theorem dX13_allConflicts_36 : decode cX13_allConflicts 36 = .ok (.iload_n 1, 1) := by decide +kernel
theorem dX13_allConflicts_37 : decode cX13_allConflicts 37 = .ok (.iconst 2, 1) := by decide +kernel
theorem dX13_allConflicts_38 : decode cX13_allConflicts 38 = .ok (.idiv, 1) := by decide +kernel
theorem dX13_allConflicts_39 : decode cX13_allConflicts 39 = .ok (.ireturn, 1) := by decide +kernel
theorem hd_X13_allConflicts : yX13_allConflicts.cls = RX13 ∧ yX13_allConflicts.cls ≠ "java/lang/invoke/MethodHandle" ∧ yX13_allConflicts.cls ≠ "java/lang/invoke/VarHandle" ∧ (parseMethodDescriptor yX13_allConflicts.desc).map (fun d => d.parameters.length) = some 0 := by decide +kernel
theorem hs_X13_allConflicts : yX13_allConflicts.cls ≠ "java/lang/invoke/MethodHandle" ∧ yX13_allConflicts.cls ≠ "java/lang/invoke/VarHandle" ∧ (parseMethodDescriptor yX13_allConflicts.desc).map (fun d => d.parameters.length) = some 0 := by decide +kernel
set_option maxHeartbeats 4000000 in
set_option maxRecDepth 100000 in
theorem l_X13_allConflicts_L4 (C : CX p l e s m args meth c cX13_allConflicts 3 RX13 (Option.some Jvm.ClassFile.FieldType.int) E) {o : Nat} (ho : K o = some (11, 0)) {r : Int32} {w' : Wd} (k : Int32 → Int32 → Wd → Option (Int32 × Wd)) (hk : ∀ (v1_4 : Int32) (v2_4 : Int32) (w : Wd) (H : Heap) (locs : List Loc) (ls : Array Slot), HQ E K z w s H locs → lv_has ls 3 [(1, .int v1_4), (2, .int v2_4), (0, rv E (some o))] → k v1_4 v2_4 w = some (r, w') → W p l e ({ frames := 1, cells := 0, slots := 0, locals := 22 } : Room) s m args below meth c H locs 0 0 (MQ below (QI E K z w' r) args s 0 0 (hA E)) (F0 m 36 ls [])) : ∀ (n : Nat) (v1_4 : Int32) (v2_4 : Int32) (w : Wd) (H : Heap) (locs : List Loc) (ls : Array Slot), HQ E K z w s H locs → lv_has ls 3 [(1, .int v1_4), (2, .int v2_4), (0, rv E (some o))] → f_X13_allConflicts_L4 K o k n v1_4 v2_4 w = some (r, w') → W p l e ({ frames := 1, cells := 0, slots := 0, locals := 22 } : Room) s m args below meth c H locs 0 0 (MQ below (QI E K z w' r) args s 0 0 (hA E)) (F0 m 4 ls []) := by
  obtain ⟨hx, hb, hml, hown, hts, hKs, hT, hb0, hlocks, hret⟩ := id C
  intro n
  induction n with
  | zero =>
    intro v1_4 v2_4 w H locs ls hH hl hf
    cases hf
  | succ n ih =>
    intro v1_4 v2_4 w H locs ls hH hl hf
    rw [f_X13_allConflicts_L4] at hf
    refine lv_iload_n hx hb dX13_allConflicts_4 rfl (lv_at hl 1 rfl) ?_
    refine hl_aload_n hx hb dX13_allConflicts_5 rfl (lv_at hl 2 rfl) ?_
    refine g13_1 hx hb hts hown hKs hH rfl ho m6_182 dX13_allConflicts_6 ?_
    refine lv_iconst (v := 3) hx hb dX13_allConflicts_9 (by decide) ?_
    obtain ⟨a2, ha2, hf⟩ := bnd hf
    replace ha2 := cha_some ha2
    obtain ⟨j3, hj3, hf⟩ := bnd hf
    refine hw_iald hx hb hKs hH ha2.1 ha2.2 hj3 dX13_allConflicts_10 ?_
    refine lv_icmp_ge (tgt := 36) hx hb dX13_allConflicts_11 (by decide) (fun c4 => ?_) (fun c4 => ?_)
    · replace hf := (if_pos c4).symm.trans hf
      exact hk v1_4 v2_4 _ _ _ _ hH (lv_sub hl [0, 1, 2] rfl) hf
    · replace hf := (if_neg c4).symm.trans hf
      refine lv_iload_n hx hb dX13_allConflicts_14 rfl (lv_at hl 0 rfl) ?_
      refine hl_aload_n hx hb dX13_allConflicts_15 rfl (lv_at hl 2 rfl) ?_
      refine g13_1 hx hb hts hown hKs hH rfl ho m6_182 dX13_allConflicts_16 ?_
      refine lv_sipush (v := 148) hx hb dX13_allConflicts_19 (by decide) ?_
      refine lv_iload_n hx hb dX13_allConflicts_22 rfl (lv_at hl 1 rfl) ?_
      refine lv_iadd hx hb dX13_allConflicts_23 ?_
      obtain ⟨j5, hj5, hf⟩ := bnd hf
      refine hw_iald hx hb hKs hH ha2.1 ha2.2 hj5 dX13_allConflicts_24 ?_
      obtain ⟨q6, hq6, hf⟩ := bnd hf
      refine hcS_i hx hb hml hown hts hKs hT hb0 hH (As := [.int ((aI w a2.1 j5))]) (rest := [.int v1_4]) (k_X13_bits l E K H.size (aI w a2.1 j5) w hq6) (gS m7_147 m7_148 m1_16 m7_149) hs_X13_bits ⟨Nat.le_of_ble_eq_true rfl, Nat.le_of_ble_eq_true rfl, rfl, rfl⟩ hl.1 rfl (rcI rc0) rfl dX13_allConflicts_25 ⟨Nat.zero_le _, Nat.zero_le _⟩ (fun H locs hH => ?_)
      refine lv_iadd hx hb dX13_allConflicts_28 ?_
      refine lv_istore_n (i := 1) (lv' := [(1, .int ((v1_4 + q6.1))), (2, .int v2_4), (0, rv E (some o))]) hx hb dX13_allConflicts_29 rfl hl (by decide) rfl (fun ls hl => ?_)
      refine lv_iinc (v := (v2_4 + 1)) (lv' := [(2, .int ((v2_4 + 1))), (1, .int ((v1_4 + q6.1))), (0, rv E (some o))]) hx hb dX13_allConflicts_30 hl (k := 1) rfl rfl (by decide) rfl (fun ls hl => ?_)
      refine lv_goto (tgt := 4) hx hb dX13_allConflicts_33 (by decide) ?_
      exact ih (v1_4 + q6.1) (v2_4 + 1) _ _ _ _ hH (lv_sub hl [1, 0, 2] rfl) hf
set_option maxHeartbeats 4000000 in
set_option maxRecDepth 100000 in
theorem k_X13_allConflicts (l : Launch) (E : Ev) (K : Kd) (z : Nat) (o : Nat) (w : Wd) (ho : K o = some (11, 0)) {r : Int32} {w' : Wd} (hf : f_X13_allConflicts K o w = some (r, w')) : Met l yX13_allConflicts (Cond.code yX13_allConflicts cX13_allConflicts 3 (Option.some Jvm.ClassFile.FieldType.int) :: bt) ({ frames := 1, cells := 0, slots := 0, locals := 22 } : Room) (va_Pc [rv E (some o)] (HB E K w z)) (QI E K z w' r) 0 0 (hA E) := by
  refine Met.ofW (cc := cX13_allConflicts) (maxL := 3) (ret := (Option.some Jvm.ClassFile.FieldType.int)) (by decide) rfl ?_
  intro p e s m args below meth c s₁ B hml hv
  obtain ⟨rfl, hz, hP, hKs, hT, hb0⟩ := hv
  have C : CX p l e s m _ meth c cX13_allConflicts 3 RX13 (Option.some Jvm.ClassFile.FieldType.int) E := ⟨B.exec, B.bytes, hml, findClass_of_methodNamed B.named, fun w h => atoms_spec (ws := Cond.code yX13_allConflicts cX13_allConflicts 3 (Option.some Jvm.ClassFile.FieldType.int) :: bt) B.pre w (List.mem_cons_of_mem _ h), hKs, hT, by rw [hz]; exact hb0, B.notSynchronized, B.returns⟩
  have hH : HQ E K z w s s.heap [] := ⟨hP, va_S.rf, hz⟩
  obtain ⟨hx, hb, hml, hown, hts, hKs, hT, hb0, hlocks, hret⟩ := id C
  have hl := lv_entry [rv E (some o)] (n := 3) (by simp [lg_len_nil, lg_len_i, lg_len_j, lg_len_q, lg_len_f, lg_len_d, lg_len_r])
  rw [lg_entry_eq]
  generalize (lg_sl [rv E (some o)] ++ List.replicate (3 - (lg_sl [rv E (some o)]).length) Slot.unset).toArray = ls at hl ⊢
  replace hl : lv_has ls 3 [(0, rv E (some o))] := by simpa only [lv_args, cat_q, cat_i, cat_j, reduceIte, Nat.reduceEqDiff, Nat.reduceAdd, Nat.zero_add] using hl
  generalize s.heap = H at hH ⊢
  unfold f_X13_allConflicts at hf
  refine lv_iconst (v := 0) hx hb dX13_allConflicts_0 (by decide) ?_
  refine lv_istore_n (i := 1) (lv' := [(1, .int 0), (0, rv E (some o))]) hx hb dX13_allConflicts_1 rfl hl (by decide) rfl (fun ls hl => ?_)
  refine lv_iconst (v := 0) hx hb dX13_allConflicts_2 (by decide) ?_
  refine lv_istore_n (i := 2) (lv' := [(2, .int 0), (1, .int 0), (0, rv E (some o))]) hx hb dX13_allConflicts_3 rfl hl (by decide) rfl (fun ls hl => ?_)
  refine l_X13_allConflicts_L4  C ho _ (fun v1_4 v2_4 w1 H locs ls hH hl hf => ?_) fu 0 0 w _ _ _ hH (lv_sub hl [1, 0, 2] rfl) hf
  refine lv_iload_n hx hb dX13_allConflicts_36 rfl (lv_at hl 0 rfl) ?_
  refine lv_iconst (v := 2) hx hb dX13_allConflicts_37 (by decide) ?_
  refine lv_idiv hx hb dX13_allConflicts_38 (by decide) ?_
  exact hw_iret hx hb hret hf hH hlocks dX13_allConflicts_39

theorem dX13_count_0 : decode cX13_count 0 = .ok (.aload_n 0, 1) := by decide +kernel
theorem dX13_count_1 : decode cX13_count 1 = .ok (.iconst 0, 1) := by decide +kernel
theorem dX13_count_2 : decode cX13_count 2 = .ok (.putfield 104, 3) := by decide +kernel
theorem dX13_count_5 : decode cX13_count 5 = .ok (.iload_n 1, 1) := by decide +kernel
theorem dX13_count_6 : decode cX13_count 6 = .ok (.tableswitch 120 0 9 #[54, 61, 68, 75, 82, 89, 94, 99, 106, 115], 54) := by decide +kernel
theorem dX13_count_60 : decode cX13_count 60 = .ok (.aload_n 0, 1) := by decide +kernel
theorem dX13_count_61 : decode cX13_count 61 = .ok (.getfield 7, 3) := by decide +kernel
theorem dX13_count_64 : decode cX13_count 64 = .ok (.iconst 0, 1) := by decide +kernel
theorem dX13_count_65 : decode cX13_count 65 = .ok (.iaload, 1) := by decide +kernel
theorem dX13_count_66 : decode cX13_count 66 = .ok (.ireturn, 1) := by decide +kernel
theorem dX13_count_67 : decode cX13_count 67 = .ok (.aload_n 0, 1) := by decide +kernel
theorem dX13_count_68 : decode cX13_count 68 = .ok (.getfield 7, 3) := by decide +kernel
theorem dX13_count_71 : decode cX13_count 71 = .ok (.iconst 1, 1) := by decide +kernel
theorem dX13_count_72 : decode cX13_count 72 = .ok (.iaload, 1) := by decide +kernel
theorem dX13_count_73 : decode cX13_count 73 = .ok (.ireturn, 1) := by decide +kernel
theorem dX13_count_74 : decode cX13_count 74 = .ok (.aload_n 0, 1) := by decide +kernel
theorem dX13_count_75 : decode cX13_count 75 = .ok (.getfield 7, 3) := by decide +kernel
theorem dX13_count_78 : decode cX13_count 78 = .ok (.iconst 2, 1) := by decide +kernel
theorem dX13_count_79 : decode cX13_count 79 = .ok (.iaload, 1) := by decide +kernel
theorem dX13_count_80 : decode cX13_count 80 = .ok (.ireturn, 1) := by decide +kernel
theorem dX13_count_81 : decode cX13_count 81 = .ok (.aload_n 0, 1) := by decide +kernel
theorem dX13_count_82 : decode cX13_count 82 = .ok (.getfield 7, 3) := by decide +kernel
theorem dX13_count_85 : decode cX13_count 85 = .ok (.iconst 3, 1) := by decide +kernel
theorem dX13_count_86 : decode cX13_count 86 = .ok (.iaload, 1) := by decide +kernel
theorem dX13_count_87 : decode cX13_count 87 = .ok (.ireturn, 1) := by decide +kernel
theorem dX13_count_88 : decode cX13_count 88 = .ok (.aload_n 0, 1) := by decide +kernel
theorem dX13_count_89 : decode cX13_count 89 = .ok (.getfield 16, 3) := by decide +kernel
theorem dX13_count_92 : decode cX13_count 92 = .ok (.iconst 1, 1) := by decide +kernel
theorem dX13_count_93 : decode cX13_count 93 = .ok (.iaload, 1) := by decide +kernel
theorem dX13_count_94 : decode cX13_count 94 = .ok (.ireturn, 1) := by decide +kernel
theorem dX13_count_95 : decode cX13_count 95 = .ok (.aload_n 0, 1) := by decide +kernel
theorem dX13_count_96 : decode cX13_count 96 = .ok (.invokevirtual 314, 3) := by decide +kernel
theorem dX13_count_99 : decode cX13_count 99 = .ok (.ireturn, 1) := by decide +kernel
theorem dX13_count_100 : decode cX13_count 100 = .ok (.aload_n 0, 1) := by decide +kernel
theorem dX13_count_101 : decode cX13_count 101 = .ok (.invokevirtual 317, 3) := by decide +kernel
theorem dX13_count_104 : decode cX13_count 104 = .ok (.ireturn, 1) := by decide +kernel
theorem dX13_count_105 : decode cX13_count 105 = .ok (.aload_n 0, 1) := by decide +kernel
theorem dX13_count_106 : decode cX13_count 106 = .ok (.getfield 16, 3) := by decide +kernel
theorem dX13_count_109 : decode cX13_count 109 = .ok (.iconst 0, 1) := by decide +kernel
theorem dX13_count_110 : decode cX13_count 110 = .ok (.iaload, 1) := by decide +kernel
theorem dX13_count_111 : decode cX13_count 111 = .ok (.ireturn, 1) := by decide +kernel
theorem dX13_count_112 : decode cX13_count 112 = .ok (.aload_n 0, 1) := by decide +kernel
theorem dX13_count_113 : decode cX13_count 113 = .ok (.getfield 7, 3) := by decide +kernel
theorem dX13_count_116 : decode cX13_count 116 = .ok (.sipush 164, 3) := by decide +kernel
theorem dX13_count_119 : decode cX13_count 119 = .ok (.iaload, 1) := by decide +kernel
theorem dX13_count_120 : decode cX13_count 120 = .ok (.ireturn, 1) := by decide +kernel
theorem dX13_count_121 : decode cX13_count 121 = .ok (.aload_n 0, 1) := by decide +kernel
theorem dX13_count_122 : decode cX13_count 122 = .ok (.getfield 97, 3) := by decide +kernel
theorem dX13_count_125 : decode cX13_count 125 = .ok (.ireturn, 1) := by decide +kernel
theorem dX13_count_126 : decode cX13_count 126 = .ok (.iload_n 1, 1) := by decide +kernel
theorem dX13_count_127 : decode cX13_count 127 = .ok (.i2l, 1) := by decide +kernel
theorem dX13_count_128 : decode cX13_count 128 = .ok (.ldc2_w 320, 3) := by decide +kernel
theorem dX13_count_131 : decode cX13_count 131 = .ok (.ldc2_w 322, 3) := by decide +kernel
theorem dX13_count_134 : decode cX13_count 134 = .ok (.invokestatic 123, 3) := by decide +kernel
theorem dX13_count_137 : decode cX13_count 137 = .ok (.ifCond .eq 14, 3) := by decide +kernel
theorem dX13_count_140 : decode cX13_count 140 = .ok (.aload_n 0, 1) := by decide +kernel
theorem dX13_count_141 : decode cX13_count 141 = .ok (.iload_n 1, 1) := by decide +kernel
theorem dX13_count_142 : decode cX13_count 142 = .ok (.bipush 10, 2) := by decide +kernel
theorem dX13_count_144 : decode cX13_count 144 = .ok (.isub, 1) := by decide +kernel
theorem dX13_count_145 : decode cX13_count 145 = .ok (.invokevirtual 154, 3) := by decide +kernel
theorem dX13_count_148 : decode cX13_count 148 = .ok (.goto 4, 3) := by decide +kernel
theorem dX13_count_151 : decode cX13_count 151 = .ok (.iconst (-1), 1) := by decide +kernel
theorem dX13_count_152 : decode cX13_count 152 = .ok (.ireturn, 1) := by decide +kernel
theorem hd_X13_count : yX13_count.cls = RX13 ∧ yX13_count.cls ≠ "java/lang/invoke/MethodHandle" ∧ yX13_count.cls ≠ "java/lang/invoke/VarHandle" ∧ (parseMethodDescriptor yX13_count.desc).map (fun d => d.parameters.length) = some 1 := by decide +kernel
theorem hs_X13_count : yX13_count.cls ≠ "java/lang/invoke/MethodHandle" ∧ yX13_count.cls ≠ "java/lang/invoke/VarHandle" ∧ (parseMethodDescriptor yX13_count.desc).map (fun d => d.parameters.length) = some 1 := by decide +kernel
set_option maxHeartbeats 4000000 in
set_option maxRecDepth 100000 in
theorem k_X13_count (l : Launch) (E : Ev) (K : Kd) (z : Nat) (o : Nat) (a_1 : Int32) (w : Wd) (ho : K o = some (11, 0)) {r : Int32} {w' : Wd} (hf : f_X13_count K o a_1 w = some (r, w')) : Met l yX13_count (Cond.code yX13_count cX13_count 2 (Option.some Jvm.ClassFile.FieldType.int) :: bt) ({ frames := 3, cells := 0, slots := 0, locals := 67 } : Room) (va_Pc [rv E (some o), .int a_1] (HB E K w z)) (QI E K z w' r) 0 0 (hA E) := by
  refine Met.ofW (cc := cX13_count) (maxL := 2) (ret := (Option.some Jvm.ClassFile.FieldType.int)) (by decide) rfl ?_
  intro p e s m args below meth c s₁ B hml hv
  obtain ⟨rfl, hz, hP, hKs, hT, hb0⟩ := hv
  have C : CX p l e s m _ meth c cX13_count 2 RX13 (Option.some Jvm.ClassFile.FieldType.int) E := ⟨B.exec, B.bytes, hml, findClass_of_methodNamed B.named, fun w h => atoms_spec (ws := Cond.code yX13_count cX13_count 2 (Option.some Jvm.ClassFile.FieldType.int) :: bt) B.pre w (List.mem_cons_of_mem _ h), hKs, hT, by rw [hz]; exact hb0, B.notSynchronized, B.returns⟩
  have hH : HQ E K z w s s.heap [] := ⟨hP, va_S.rf, hz⟩
  obtain ⟨hx, hb, hml, hown, hts, hKs, hT, hb0, hlocks, hret⟩ := id C
  have hl := lv_entry [rv E (some o), .int a_1] (n := 2) (by simp [lg_len_nil, lg_len_i, lg_len_j, lg_len_q, lg_len_f, lg_len_d, lg_len_r])
  rw [lg_entry_eq]
  generalize (lg_sl [rv E (some o), .int a_1] ++ List.replicate (2 - (lg_sl [rv E (some o), .int a_1]).length) Slot.unset).toArray = ls at hl ⊢
  replace hl : lv_has ls 2 [(0, rv E (some o)), (1, .int a_1)] := by simpa only [lv_args, cat_q, cat_i, cat_j, reduceIte, Nat.reduceEqDiff, Nat.reduceAdd, Nat.zero_add] using hl
  generalize s.heap = H at hH ⊢
  unfold f_X13_count at hf
  refine hl_aload_n hx hb dX13_count_0 rfl (lv_at hl 0 rfl) ?_
  refine lv_iconst (v := 0) hx hb dX13_count_1 (by decide) ?_
  obtain ⟨w1, hw1, hf⟩ := bnd hf
  replace hw1 := Option.some.inj hw1
  refine p13_0 (v := 0) hx hb hts hown hKs hH rfl ho m6_181 dX13_count_2 (fun H locs hH => ?_)
  rw [hw1] at hH
  refine lv_iload_n hx hb dX13_count_5 rfl (lv_at hl 1 rfl) ?_
  by_cases c2 : (a_1 < 0 ∨ 9 < a_1)
  · replace hf := (if_pos c2).symm.trans hf
    refine hl_tabOut (tgt := 126) hx hb dX13_count_6 c2 (by decide) (by decide) (by decide) ?_
    refine lv_iload_n hx hb dX13_count_126 rfl (lv_at hl 1 rfl) ?_
    refine lv_i2l (v := (a_1.toInt64)) hx hb dX13_count_127 rfl ?_
    refine lv_ldc2 (v := 10) hx hb hown (hts _ m8_187) dX13_count_128 ?_
    refine lv_ldc2 (v := 13) hx hb hown (hts _ m8_188) dX13_count_131 ?_
    obtain ⟨q3, hq3, hf⟩ := bnd hf
    refine hcS_i hx hb hml hown hts hKs hT hb0 hH (As := [.long (a_1.toInt64), .long 10, .long 13]) (rest := []) (k_X13_isIn l E K H.size (a_1.toInt64) 10 13 w1 hq3) (gS m7_88 m7_89 m1_16 m7_90) hs_X13_isIn ⟨Nat.le_of_ble_eq_true rfl, Nat.le_of_ble_eq_true rfl, rfl, rfl⟩ hl.1 rfl rc0 rfl dX13_count_134 ⟨Nat.zero_le _, Nat.zero_le _⟩ (fun H locs hH => ?_)
    refine lv_if_eq (tgt := 151) hx hb dX13_count_137 (by decide) (fun c4 => ?_) (fun c4 => ?_)
    · replace hf := (if_pos c4).symm.trans hf
      refine lv_iconst (v := (-1)) hx hb dX13_count_151 (by decide) ?_
      exact hw_iret hx hb hret hf hH hlocks dX13_count_152
    · replace hf := (if_neg c4).symm.trans hf
      refine hl_aload_n hx hb dX13_count_140 rfl (lv_at hl 0 rfl) ?_
      refine lv_iload_n hx hb dX13_count_141 rfl (lv_at hl 1 rfl) ?_
      refine lv_bipush (v := 10) hx hb dX13_count_142 (by decide) ?_
      refine lv_isub hx hb dX13_count_144 ?_
      obtain ⟨q5, hq5, hf⟩ := bnd hf
      refine hcV_i hx hb hml hown hts hKs hT hb0 hH (As := [.int ((a_1 - 10))]) (rest := []) (k_X13_manyIn l E K H.size o (a_1 - 10) q3.2 ho hq5) (gV m7_138 m7_140 ms_56 m1_16 m7_141) hd_X13_manyIn ⟨Nat.le_of_ble_eq_true rfl, Nat.le_of_ble_eq_true rfl, rfl, rfl⟩ rfl ho rfl rfl rfl hl.1 rfl rc0 rfl dX13_count_145 ⟨Nat.zero_le _, Nat.zero_le _⟩ (fun H locs hH => ?_)
      refine lv_goto (tgt := 152) hx hb dX13_count_148 (by decide) ?_
      exact hw_iret hx hb hret hf hH hlocks dX13_count_152
  replace hf := (if_neg c2).symm.trans hf
  by_cases c6 : a_1 = 0
  · replace hf := (if_pos c6).symm.trans hf
    refine hl_tabIn (tgt := 60) hx hb dX13_count_6 c6 (by decide) (by decide) rfl (by decide) ?_
    refine hl_aload_n hx hb dX13_count_60 rfl (lv_at hl 0 rfl) ?_
    refine g13_1 hx hb hts hown hKs hH rfl ho m6_182 dX13_count_61 ?_
    refine lv_iconst (v := 0) hx hb dX13_count_64 (by decide) ?_
    obtain ⟨a7, ha7, hf⟩ := bnd hf
    replace ha7 := cha_some ha7
    obtain ⟨j8, hj8, hf⟩ := bnd hf
    refine hw_iald hx hb hKs hH ha7.1 ha7.2 hj8 dX13_count_65 ?_
    exact hw_iret hx hb hret hf hH hlocks dX13_count_66
  replace hf := (if_neg c6).symm.trans hf
  by_cases c9 : a_1 = 1
  · replace hf := (if_pos c9).symm.trans hf
    refine hl_tabIn (tgt := 67) hx hb dX13_count_6 c9 (by decide) (by decide) rfl (by decide) ?_
    refine hl_aload_n hx hb dX13_count_67 rfl (lv_at hl 0 rfl) ?_
    refine g13_1 hx hb hts hown hKs hH rfl ho m6_182 dX13_count_68 ?_
    refine lv_iconst (v := 1) hx hb dX13_count_71 (by decide) ?_
    obtain ⟨a10, ha10, hf⟩ := bnd hf
    replace ha10 := cha_some ha10
    obtain ⟨j11, hj11, hf⟩ := bnd hf
    refine hw_iald hx hb hKs hH ha10.1 ha10.2 hj11 dX13_count_72 ?_
    exact hw_iret hx hb hret hf hH hlocks dX13_count_73
  replace hf := (if_neg c9).symm.trans hf
  by_cases c12 : a_1 = 2
  · replace hf := (if_pos c12).symm.trans hf
    refine hl_tabIn (tgt := 74) hx hb dX13_count_6 c12 (by decide) (by decide) rfl (by decide) ?_
    refine hl_aload_n hx hb dX13_count_74 rfl (lv_at hl 0 rfl) ?_
    refine g13_1 hx hb hts hown hKs hH rfl ho m6_182 dX13_count_75 ?_
    refine lv_iconst (v := 2) hx hb dX13_count_78 (by decide) ?_
    obtain ⟨a13, ha13, hf⟩ := bnd hf
    replace ha13 := cha_some ha13
    obtain ⟨j14, hj14, hf⟩ := bnd hf
    refine hw_iald hx hb hKs hH ha13.1 ha13.2 hj14 dX13_count_79 ?_
    exact hw_iret hx hb hret hf hH hlocks dX13_count_80
  replace hf := (if_neg c12).symm.trans hf
  by_cases c15 : a_1 = 3
  · replace hf := (if_pos c15).symm.trans hf
    refine hl_tabIn (tgt := 81) hx hb dX13_count_6 c15 (by decide) (by decide) rfl (by decide) ?_
    refine hl_aload_n hx hb dX13_count_81 rfl (lv_at hl 0 rfl) ?_
    refine g13_1 hx hb hts hown hKs hH rfl ho m6_182 dX13_count_82 ?_
    refine lv_iconst (v := 3) hx hb dX13_count_85 (by decide) ?_
    obtain ⟨a16, ha16, hf⟩ := bnd hf
    replace ha16 := cha_some ha16
    obtain ⟨j17, hj17, hf⟩ := bnd hf
    refine hw_iald hx hb hKs hH ha16.1 ha16.2 hj17 dX13_count_86 ?_
    exact hw_iret hx hb hret hf hH hlocks dX13_count_87
  replace hf := (if_neg c15).symm.trans hf
  by_cases c18 : a_1 = 4
  · replace hf := (if_pos c18).symm.trans hf
    refine hl_tabIn (tgt := 88) hx hb dX13_count_6 c18 (by decide) (by decide) rfl (by decide) ?_
    refine hl_aload_n hx hb dX13_count_88 rfl (lv_at hl 0 rfl) ?_
    refine g13_3 hx hb hts hown hKs hH rfl ho m6_184 dX13_count_89 ?_
    refine lv_iconst (v := 1) hx hb dX13_count_92 (by decide) ?_
    obtain ⟨a19, ha19, hf⟩ := bnd hf
    replace ha19 := cha_some ha19
    obtain ⟨j20, hj20, hf⟩ := bnd hf
    refine hw_iald hx hb hKs hH ha19.1 ha19.2 hj20 dX13_count_93 ?_
    exact hw_iret hx hb hret hf hH hlocks dX13_count_94
  replace hf := (if_neg c18).symm.trans hf
  by_cases c21 : a_1 = 5
  · replace hf := (if_pos c21).symm.trans hf
    refine hl_tabIn (tgt := 95) hx hb dX13_count_6 c21 (by decide) (by decide) rfl (by decide) ?_
    refine hl_aload_n hx hb dX13_count_95 rfl (lv_at hl 0 rfl) ?_
    obtain ⟨q22, hq22, hf⟩ := bnd hf
    refine hcV_i hx hb hml hown hts hKs hT hb0 hH (As := []) (rest := []) (k_X13_allBars l E K H.size o w1 ho hq22) (gV m8_179 m8_181 ms_96 m1_16 m8_182) hd_X13_allBars ⟨Nat.le_of_ble_eq_true rfl, Nat.le_of_ble_eq_true rfl, rfl, rfl⟩ rfl ho rfl rfl rfl hl.1 rfl rc0 rfl dX13_count_96 ⟨Nat.zero_le _, Nat.zero_le _⟩ (fun H locs hH => ?_)
    exact hw_iret hx hb hret hf hH hlocks dX13_count_99
  replace hf := (if_neg c21).symm.trans hf
  by_cases c23 : a_1 = 6
  · replace hf := (if_pos c23).symm.trans hf
    refine hl_tabIn (tgt := 100) hx hb dX13_count_6 c23 (by decide) (by decide) rfl (by decide) ?_
    refine hl_aload_n hx hb dX13_count_100 rfl (lv_at hl 0 rfl) ?_
    obtain ⟨q24, hq24, hf⟩ := bnd hf
    refine hcV_i hx hb hml hown hts hKs hT hb0 hH (As := []) (rest := []) (k_X13_allConflicts l E K H.size o w1 ho hq24) (gV m8_183 m8_185 ms_97 m1_16 m8_186) hd_X13_allConflicts ⟨Nat.le_of_ble_eq_true rfl, Nat.le_of_ble_eq_true rfl, rfl, rfl⟩ rfl ho rfl rfl rfl hl.1 rfl rc0 rfl dX13_count_101 ⟨Nat.zero_le _, Nat.zero_le _⟩ (fun H locs hH => ?_)
    exact hw_iret hx hb hret hf hH hlocks dX13_count_104
  replace hf := (if_neg c23).symm.trans hf
  by_cases c25 : a_1 = 7
  · replace hf := (if_pos c25).symm.trans hf
    refine hl_tabIn (tgt := 105) hx hb dX13_count_6 c25 (by decide) (by decide) rfl (by decide) ?_
    refine hl_aload_n hx hb dX13_count_105 rfl (lv_at hl 0 rfl) ?_
    refine g13_3 hx hb hts hown hKs hH rfl ho m6_184 dX13_count_106 ?_
    refine lv_iconst (v := 0) hx hb dX13_count_109 (by decide) ?_
    obtain ⟨a26, ha26, hf⟩ := bnd hf
    replace ha26 := cha_some ha26
    obtain ⟨j27, hj27, hf⟩ := bnd hf
    refine hw_iald hx hb hKs hH ha26.1 ha26.2 hj27 dX13_count_110 ?_
    exact hw_iret hx hb hret hf hH hlocks dX13_count_111
  replace hf := (if_neg c25).symm.trans hf
  by_cases c28 : a_1 = 8
  · replace hf := (if_pos c28).symm.trans hf
    refine hl_tabIn (tgt := 112) hx hb dX13_count_6 c28 (by decide) (by decide) rfl (by decide) ?_
    refine hl_aload_n hx hb dX13_count_112 rfl (lv_at hl 0 rfl) ?_
    refine g13_1 hx hb hts hown hKs hH rfl ho m6_182 dX13_count_113 ?_
    refine lv_sipush (v := 164) hx hb dX13_count_116 (by decide) ?_
    obtain ⟨a29, ha29, hf⟩ := bnd hf
    replace ha29 := cha_some ha29
    obtain ⟨j30, hj30, hf⟩ := bnd hf
    refine hw_iald hx hb hKs hH ha29.1 ha29.2 hj30 dX13_count_119 ?_
    exact hw_iret hx hb hret hf hH hlocks dX13_count_120
  replace hf := (if_neg c28).symm.trans hf
  by_cases c31 : a_1 = 9
  · replace hf := (if_pos c31).symm.trans hf
    refine hl_tabIn (tgt := 121) hx hb dX13_count_6 c31 (by decide) (by decide) rfl (by decide) ?_
    refine hl_aload_n hx hb dX13_count_121 rfl (lv_at hl 0 rfl) ?_
    refine g13_9 hx hb hts hown hKs hH rfl ho m6_190 dX13_count_122 ?_
    exact hw_iret hx hb hret hf hH hlocks dX13_count_125
  replace hf := (if_neg c31).symm.trans hf
  cases hf

theorem dX13_lengthening_0 : decode cX13_lengthening 0 = .ok (.aload_n 0, 1) := by decide +kernel
theorem dX13_lengthening_1 : decode cX13_lengthening 1 = .ok (.iload_n 1, 1) := by decide +kernel
theorem dX13_lengthening_2 : decode cX13_lengthening 2 = .ok (.invokestatic 279, 3) := by decide +kernel
theorem dX13_lengthening_5 : decode cX13_lengthening 5 = .ok (.invokevirtual 110, 3) := by decide +kernel
theorem dX13_lengthening_8 : decode cX13_lengthening 8 = .ok (.ifCond .eq 16, 3) := by decide +kernel
theorem dX13_lengthening_11 : decode cX13_lengthening 11 = .ok (.aload_n 0, 1) := by decide +kernel
theorem dX13_lengthening_12 : decode cX13_lengthening 12 = .ok (.getfield 7, 3) := by decide +kernel
theorem dX13_lengthening_15 : decode cX13_lengthening 15 = .ok (.sipush 160, 3) := by decide +kernel
theorem dX13_lengthening_18 : decode cX13_lengthening 18 = .ok (.iload_n 1, 1) := by decide +kernel
theorem dX13_lengthening_19 : decode cX13_lengthening 19 = .ok (.iadd, 1) := by decide +kernel
theorem dX13_lengthening_20 : decode cX13_lengthening 20 = .ok (.iaload, 1) := by decide +kernel
theorem dX13_lengthening_21 : decode cX13_lengthening 21 = .ok (.goto 4, 3) := by decide +kernel
theorem dX13_lengthening_24 : decode cX13_lengthening 24 = .ok (.iconst 0, 1) := by decide +kernel
theorem dX13_lengthening_25 : decode cX13_lengthening 25 = .ok (.ireturn, 1) := by decide +kernel
theorem hd_X13_lengthening : yX13_lengthening.cls = RX13 ∧ yX13_lengthening.cls ≠ "java/lang/invoke/MethodHandle" ∧ yX13_lengthening.cls ≠ "java/lang/invoke/VarHandle" ∧ (parseMethodDescriptor yX13_lengthening.desc).map (fun d => d.parameters.length) = some 1 := by decide +kernel
theorem hs_X13_lengthening : yX13_lengthening.cls ≠ "java/lang/invoke/MethodHandle" ∧ yX13_lengthening.cls ≠ "java/lang/invoke/VarHandle" ∧ (parseMethodDescriptor yX13_lengthening.desc).map (fun d => d.parameters.length) = some 1 := by decide +kernel
set_option maxHeartbeats 4000000 in
set_option maxRecDepth 100000 in
theorem k_X13_lengthening (l : Launch) (E : Ev) (K : Kd) (z : Nat) (o : Nat) (a_1 : Int32) (w : Wd) (ho : K o = some (11, 0)) {r : Int32} {w' : Wd} (hf : f_X13_lengthening K o a_1 w = some (r, w')) : Met l yX13_lengthening (Cond.code yX13_lengthening cX13_lengthening 2 (Option.some Jvm.ClassFile.FieldType.int) :: bt) ({ frames := 2, cells := 0, slots := 0, locals := 45 } : Room) (va_Pc [rv E (some o), .int a_1] (HB E K w z)) (QI E K z w' r) 0 0 (hA E) := by
  refine Met.ofW (cc := cX13_lengthening) (maxL := 2) (ret := (Option.some Jvm.ClassFile.FieldType.int)) (by decide) rfl ?_
  intro p e s m args below meth c s₁ B hml hv
  obtain ⟨rfl, hz, hP, hKs, hT, hb0⟩ := hv
  have C : CX p l e s m _ meth c cX13_lengthening 2 RX13 (Option.some Jvm.ClassFile.FieldType.int) E := ⟨B.exec, B.bytes, hml, findClass_of_methodNamed B.named, fun w h => atoms_spec (ws := Cond.code yX13_lengthening cX13_lengthening 2 (Option.some Jvm.ClassFile.FieldType.int) :: bt) B.pre w (List.mem_cons_of_mem _ h), hKs, hT, by rw [hz]; exact hb0, B.notSynchronized, B.returns⟩
  have hH : HQ E K z w s s.heap [] := ⟨hP, va_S.rf, hz⟩
  obtain ⟨hx, hb, hml, hown, hts, hKs, hT, hb0, hlocks, hret⟩ := id C
  have hl := lv_entry [rv E (some o), .int a_1] (n := 2) (by simp [lg_len_nil, lg_len_i, lg_len_j, lg_len_q, lg_len_f, lg_len_d, lg_len_r])
  rw [lg_entry_eq]
  generalize (lg_sl [rv E (some o), .int a_1] ++ List.replicate (2 - (lg_sl [rv E (some o), .int a_1]).length) Slot.unset).toArray = ls at hl ⊢
  replace hl : lv_has ls 2 [(0, rv E (some o)), (1, .int a_1)] := by simpa only [lv_args, cat_q, cat_i, cat_j, reduceIte, Nat.reduceEqDiff, Nat.reduceAdd, Nat.zero_add] using hl
  generalize s.heap = H at hH ⊢
  unfold f_X13_lengthening at hf
  refine hl_aload_n hx hb dX13_lengthening_0 rfl (lv_at hl 0 rfl) ?_
  refine lv_iload_n hx hb dX13_lengthening_1 rfl (lv_at hl 1 rfl) ?_
  obtain ⟨q1, hq1, hf⟩ := bnd hf
  refine hcS_i hx hb hml hown hts hKs hT hb0 hH (As := [.int a_1]) (rest := [rv E (some o)]) (k_X13_isReason l E K H.size a_1 w hq1) (gS m8_78 m8_79 m1_16 m8_80) hs_X13_isReason ⟨Nat.le_of_ble_eq_true rfl, Nat.le_of_ble_eq_true rfl, rfl, rfl⟩ hl.1 rfl (rcV rc0) rfl dX13_lengthening_2 ⟨Nat.zero_le _, Nat.zero_le _⟩ (fun H locs hH => ?_)
  obtain ⟨q2, hq2, hf⟩ := bnd hf
  refine hcV_i hx hb hml hown hts hKs hT hb0 hH (As := [.int (b2i q1.1)]) (rest := []) (k_X13_is l E K H.size o q1.1 q1.2 ho hq2) (gV m7_68 m7_70 ms_47 m1_16 m7_71) hd_X13_is ⟨Nat.le_of_ble_eq_true rfl, Nat.le_of_ble_eq_true rfl, rfl, rfl⟩ rfl ho rfl rfl rfl hl.1 rfl rc0 rfl dX13_lengthening_5 ⟨Nat.zero_le _, Nat.zero_le _⟩ (fun H locs hH => ?_)
  refine lv_if_eq (tgt := 24) hx hb dX13_lengthening_8 (by decide) (fun c3 => ?_) (fun c3 => ?_)
  · replace hf := (if_pos c3).symm.trans hf
    refine lv_iconst (v := 0) hx hb dX13_lengthening_24 (by decide) ?_
    exact hw_iret hx hb hret hf hH hlocks dX13_lengthening_25
  · replace hf := (if_neg c3).symm.trans hf
    refine hl_aload_n hx hb dX13_lengthening_11 rfl (lv_at hl 0 rfl) ?_
    refine g13_1 hx hb hts hown hKs hH rfl ho m6_182 dX13_lengthening_12 ?_
    refine lv_sipush (v := 160) hx hb dX13_lengthening_15 (by decide) ?_
    refine lv_iload_n hx hb dX13_lengthening_18 rfl (lv_at hl 1 rfl) ?_
    refine lv_iadd hx hb dX13_lengthening_19 ?_
    obtain ⟨a4, ha4, hf⟩ := bnd hf
    replace ha4 := cha_some ha4
    obtain ⟨j5, hj5, hf⟩ := bnd hf
    refine hw_iald hx hb hKs hH ha4.1 ha4.2 hj5 dX13_lengthening_20 ?_
    refine lv_goto (tgt := 25) hx hb dX13_lengthening_21 (by decide) ?_
    exact hw_iret hx hb hret hf hH hlocks dX13_lengthening_25

theorem dX13_laysPeaceful_0 : decode cX13_laysPeaceful 0 = .ok (.iconst 0, 1) := by decide +kernel
theorem dX13_laysPeaceful_1 : decode cX13_laysPeaceful 1 = .ok (.istore_n 2, 1) := by decide +kernel
theorem dX13_laysPeaceful_2 : decode cX13_laysPeaceful 2 = .ok (.iload_n 2, 1) := by decide +kernel
theorem dX13_laysPeaceful_3 : decode cX13_laysPeaceful 3 = .ok (.iload_n 1, 1) := by decide +kernel
theorem dX13_laysPeaceful_4 : decode cX13_laysPeaceful 4 = .ok (.if_icmp .gt 69, 3) := by decide +kernel
theorem dX13_laysPeaceful_7 : decode cX13_laysPeaceful 7 = .ok (.iconst 1, 1) := by decide +kernel
theorem dX13_laysPeaceful_8 : decode cX13_laysPeaceful 8 = .ok (.istore_n 3, 1) := by decide +kernel
theorem dX13_laysPeaceful_9 : decode cX13_laysPeaceful 9 = .ok (.iconst 0, 1) := by decide +kernel
theorem dX13_laysPeaceful_10 : decode cX13_laysPeaceful 10 = .ok (.istore 4, 2) := by decide +kernel
theorem dX13_laysPeaceful_12 : decode cX13_laysPeaceful 12 = .ok (.iload 4, 2) := by decide +kernel
theorem dX13_laysPeaceful_14 : decode cX13_laysPeaceful 14 = .ok (.bipush 12, 2) := by decide +kernel
theorem dX13_laysPeaceful_16 : decode cX13_laysPeaceful 16 = .ok (.if_icmp .ge 44, 3) := by decide +kernel
theorem dX13_laysPeaceful_19 : decode cX13_laysPeaceful 19 = .ok (.iload_n 3, 1) := by decide +kernel
theorem dX13_laysPeaceful_20 : decode cX13_laysPeaceful 20 = .ok (.ifCond .eq 40, 3) := by decide +kernel
theorem dX13_laysPeaceful_23 : decode cX13_laysPeaceful 23 = .ok (.iload_n 2, 1) := by decide +kernel
theorem dX13_laysPeaceful_24 : decode cX13_laysPeaceful 24 = .ok (.iload 4, 2) := by decide +kernel
theorem dX13_laysPeaceful_26 : decode cX13_laysPeaceful 26 = .ok (.invokestatic 167, 3) := by decide +kernel
theorem dX13_laysPeaceful_29 : decode cX13_laysPeaceful 29 = .ok (.ifCond .eq 19, 3) := by decide +kernel
theorem dX13_laysPeaceful_32 : decode cX13_laysPeaceful 32 = .ok (.aload_n 0, 1) := by decide +kernel
theorem dX13_laysPeaceful_33 : decode cX13_laysPeaceful 33 = .ok (.getfield 7, 3) := by decide +kernel
theorem dX13_laysPeaceful_36 : decode cX13_laysPeaceful 36 = .ok (.sipush 148, 3) := by decide +kernel
theorem dX13_laysPeaceful_39 : decode cX13_laysPeaceful 39 = .ok (.iload 4, 2) := by decide +kernel
theorem dX13_laysPeaceful_41 : decode cX13_laysPeaceful 41 = .ok (.iadd, 1) := by decide +kernel
theorem dX13_laysPeaceful_42 : decode cX13_laysPeaceful 42 = .ok (.iaload, 1) := by decide +kernel
theorem dX13_laysPeaceful_43 : decode cX13_laysPeaceful 43 = .ok (.iload_n 2, 1) := by decide +kernel
theorem dX13_laysPeaceful_44 : decode cX13_laysPeaceful 44 = .ok (.iand, 1) := by decide +kernel
theorem dX13_laysPeaceful_45 : decode cX13_laysPeaceful 45 = .ok (.ifCond .ne 7, 3) := by decide +kernel
theorem dX13_laysPeaceful_48 : decode cX13_laysPeaceful 48 = .ok (.iconst 1, 1) := by decide +kernel
theorem dX13_laysPeaceful_49 : decode cX13_laysPeaceful 49 = .ok (.goto 4, 3) := by decide +kernel
theorem dX13_laysPeaceful_52 : decode cX13_laysPeaceful 52 = .ok (.iconst 0, 1) := by decide +kernel
theorem dX13_laysPeaceful_53 : decode cX13_laysPeaceful 53 = .ok (.istore_n 3, 1) := by decide +kernel
theorem dX13_laysPeaceful_54 : decode cX13_laysPeaceful 54 = .ok (.iinc 4 1, 3) := by decide +kernel
theorem dX13_laysPeaceful_57 : decode cX13_laysPeaceful 57 = .ok (.goto (-45), 3) := by decide +kernel
theorem dX13_laysPeaceful_60 : decode cX13_laysPeaceful 60 = .ok (.aload_n 0, 1) := by decide +kernel
theorem dX13_laysPeaceful_61 : decode cX13_laysPeaceful 61 = .ok (.getfield 57, 3) := by decide +kernel
theorem dX13_laysPeaceful_64 : decode cX13_laysPeaceful 64 = .ok (.iload_n 2, 1) := by decide +kernel
theorem dX13_laysPeaceful_65 : decode cX13_laysPeaceful 65 = .ok (.iload_n 3, 1) := by decide +kernel
theorem dX13_laysPeaceful_66 : decode cX13_laysPeaceful 66 = .ok (.bastore, 1) := by decide +kernel
theorem dX13_laysPeaceful_67 : decode cX13_laysPeaceful 67 = .ok (.iinc 2 1, 3) := by decide +kernel
theorem dX13_laysPeaceful_70 : decode cX13_laysPeaceful 70 = .ok (.goto (-68), 3) := by decide +kernel
theorem dX13_laysPeaceful_73 : decode cX13_laysPeaceful 73 = .ok (.return_, 1) := by decide +kernel
theorem hd_X13_laysPeaceful : yX13_laysPeaceful.cls = RX13 ∧ yX13_laysPeaceful.cls ≠ "java/lang/invoke/MethodHandle" ∧ yX13_laysPeaceful.cls ≠ "java/lang/invoke/VarHandle" ∧ (parseMethodDescriptor yX13_laysPeaceful.desc).map (fun d => d.parameters.length) = some 1 := by decide +kernel
theorem hs_X13_laysPeaceful : yX13_laysPeaceful.cls ≠ "java/lang/invoke/MethodHandle" ∧ yX13_laysPeaceful.cls ≠ "java/lang/invoke/VarHandle" ∧ (parseMethodDescriptor yX13_laysPeaceful.desc).map (fun d => d.parameters.length) = some 1 := by decide +kernel
set_option maxHeartbeats 4000000 in
set_option maxRecDepth 100000 in
theorem l_X13_laysPeaceful_L12 (C : CX p l e s m args meth c cX13_laysPeaceful 5 RX13 (Option.none : Option Jvm.ClassFile.FieldType) E) {o : Nat} (ho : K o = some (11, 0)) {w' : Wd} (k : Int32 → Int32 → Int32 → Int32 → Wd → Option Wd) (hk : ∀ (v1_12 : Int32) (v2_12 : Int32) (v3_12 : Int32) (v4_12 : Int32) (w : Wd) (H : Heap) (locs : List Loc) (ls : Array Slot), HQ E K z w s H locs → lv_has ls 5 [(1, .int v1_12), (2, .int v2_12), (3, .int v3_12), (4, .int v4_12), (0, rv E (some o))] → k v1_12 v2_12 v3_12 v4_12 w = some w' → W p l e ({ frames := 1, cells := 0, slots := 0, locals := 21 } : Room) s m args below meth c H locs 0 0 (MQ below (QV E K z w') args s 0 0 (hA E)) (F0 m 60 ls [])) : ∀ (n : Nat) (v1_12 : Int32) (v2_12 : Int32) (v3_12 : Int32) (v4_12 : Int32) (w : Wd) (H : Heap) (locs : List Loc) (ls : Array Slot), HQ E K z w s H locs → lv_has ls 5 [(1, .int v1_12), (2, .int v2_12), (3, .int v3_12), (4, .int v4_12), (0, rv E (some o))] → f_X13_laysPeaceful_L12 K o k n v1_12 v2_12 v3_12 v4_12 w = some w' → W p l e ({ frames := 1, cells := 0, slots := 0, locals := 21 } : Room) s m args below meth c H locs 0 0 (MQ below (QV E K z w') args s 0 0 (hA E)) (F0 m 12 ls []) := by
  obtain ⟨hx, hb, hml, hown, hts, hKs, hT, hb0, hlocks, hret⟩ := id C
  intro n
  induction n with
  | zero =>
    intro v1_12 v2_12 v3_12 v4_12 w H locs ls hH hl hf
    cases hf
  | succ n ih =>
    intro v1_12 v2_12 v3_12 v4_12 w H locs ls hH hl hf
    rw [f_X13_laysPeaceful_L12] at hf
    refine lv_iload hx hb dX13_laysPeaceful_12 (lv_at hl 3 rfl) ?_
    refine lv_bipush (v := 12) hx hb dX13_laysPeaceful_14 (by decide) ?_
    refine lv_icmp_ge (tgt := 60) hx hb dX13_laysPeaceful_16 (by decide) (fun c4 => ?_) (fun c4 => ?_)
    · replace hf := (if_pos c4).symm.trans hf
      exact hk v1_12 v2_12 v3_12 v4_12 _ _ _ _ hH (lv_sub hl [0, 1, 2, 3, 4] rfl) hf
    · replace hf := (if_neg c4).symm.trans hf
      refine lv_iload_n hx hb dX13_laysPeaceful_19 rfl (lv_at hl 2 rfl) ?_
      refine lv_if_eq (tgt := 60) hx hb dX13_laysPeaceful_20 (by decide) (fun c5 => ?_) (fun c5 => ?_)
      · replace hf := (if_pos c5).symm.trans hf
        exact hk v1_12 v2_12 v3_12 v4_12 _ _ _ _ hH (lv_sub hl [0, 1, 2, 3, 4] rfl) hf
      · replace hf := (if_neg c5).symm.trans hf
        refine lv_iload_n hx hb dX13_laysPeaceful_23 rfl (lv_at hl 1 rfl) ?_
        refine lv_iload hx hb dX13_laysPeaceful_24 (lv_at hl 3 rfl) ?_
        obtain ⟨q6, hq6, hf⟩ := bnd hf
        refine hcS_i hx hb hml hown hts hKs hT hb0 hH (As := [.int v2_12, .int v4_12]) (rest := []) (k_X13_has l E K H.size v2_12 v4_12 w hq6) (gS m7_223 m7_224 m1_16 m7_225) hs_X13_has ⟨Nat.le_of_ble_eq_true rfl, Nat.le_of_ble_eq_true rfl, rfl, rfl⟩ hl.1 rfl rc0 rfl dX13_laysPeaceful_26 ⟨Nat.zero_le _, Nat.zero_le _⟩ (fun H locs hH => ?_)
        refine lv_if_eq (tgt := 48) hx hb dX13_laysPeaceful_29 (by decide) (fun c7 => ?_) (fun c7 => ?_)
        · replace hf := (if_pos c7).symm.trans hf
          refine lv_iconst (v := 1) hx hb dX13_laysPeaceful_48 (by decide) ?_
          refine lv_goto (tgt := 53) hx hb dX13_laysPeaceful_49 (by decide) ?_
          refine lv_istore_n (i := 3) (lv' := [(3, .int 1), (1, .int v1_12), (2, .int v2_12), (4, .int v4_12), (0, rv E (some o))]) hx hb dX13_laysPeaceful_53 rfl hl (by decide) rfl (fun ls hl => ?_)
          refine lv_iinc (v := (v4_12 + 1)) (lv' := [(4, .int ((v4_12 + 1))), (3, .int 1), (1, .int v1_12), (2, .int v2_12), (0, rv E (some o))]) hx hb dX13_laysPeaceful_54 hl (k := 3) rfl rfl (by decide) rfl (fun ls hl => ?_)
          refine lv_goto (tgt := 12) hx hb dX13_laysPeaceful_57 (by decide) ?_
          exact ih v1_12 v2_12 1 (v4_12 + 1) _ _ _ _ hH (lv_sub hl [2, 3, 1, 0, 4] rfl) hf
        · replace hf := (if_neg c7).symm.trans hf
          refine hl_aload_n hx hb dX13_laysPeaceful_32 rfl (lv_at hl 4 rfl) ?_
          refine g13_1 hx hb hts hown hKs hH rfl ho m6_182 dX13_laysPeaceful_33 ?_
          refine lv_sipush (v := 148) hx hb dX13_laysPeaceful_36 (by decide) ?_
          refine lv_iload hx hb dX13_laysPeaceful_39 (lv_at hl 3 rfl) ?_
          refine lv_iadd hx hb dX13_laysPeaceful_41 ?_
          obtain ⟨a8, ha8, hf⟩ := bnd hf
          replace ha8 := cha_some ha8
          obtain ⟨j9, hj9, hf⟩ := bnd hf
          refine hw_iald hx hb hKs hH ha8.1 ha8.2 hj9 dX13_laysPeaceful_42 ?_
          refine lv_iload_n hx hb dX13_laysPeaceful_43 rfl (lv_at hl 1 rfl) ?_
          refine lv_iand hx hb dX13_laysPeaceful_44 ?_
          refine lv_if_ne (tgt := 52) hx hb dX13_laysPeaceful_45 (by decide) (fun c10 => ?_) (fun c10 => ?_)
          · replace hf := (if_neg c10).symm.trans hf
            refine lv_iconst (v := 0) hx hb dX13_laysPeaceful_52 (by decide) ?_
            refine lv_istore_n (i := 3) (lv' := [(3, .int 0), (1, .int v1_12), (2, .int v2_12), (4, .int v4_12), (0, rv E (some o))]) hx hb dX13_laysPeaceful_53 rfl hl (by decide) rfl (fun ls hl => ?_)
            refine lv_iinc (v := (v4_12 + 1)) (lv' := [(4, .int ((v4_12 + 1))), (3, .int 0), (1, .int v1_12), (2, .int v2_12), (0, rv E (some o))]) hx hb dX13_laysPeaceful_54 hl (k := 3) rfl rfl (by decide) rfl (fun ls hl => ?_)
            refine lv_goto (tgt := 12) hx hb dX13_laysPeaceful_57 (by decide) ?_
            exact ih v1_12 v2_12 0 (v4_12 + 1) _ _ _ _ hH (lv_sub hl [2, 3, 1, 0, 4] rfl) hf
          · replace hf := (if_pos c10).symm.trans hf
            refine lv_iconst (v := 1) hx hb dX13_laysPeaceful_48 (by decide) ?_
            refine lv_goto (tgt := 53) hx hb dX13_laysPeaceful_49 (by decide) ?_
            refine lv_istore_n (i := 3) (lv' := [(3, .int 1), (1, .int v1_12), (2, .int v2_12), (4, .int v4_12), (0, rv E (some o))]) hx hb dX13_laysPeaceful_53 rfl hl (by decide) rfl (fun ls hl => ?_)
            refine lv_iinc (v := (v4_12 + 1)) (lv' := [(4, .int ((v4_12 + 1))), (3, .int 1), (1, .int v1_12), (2, .int v2_12), (0, rv E (some o))]) hx hb dX13_laysPeaceful_54 hl (k := 3) rfl rfl (by decide) rfl (fun ls hl => ?_)
            refine lv_goto (tgt := 12) hx hb dX13_laysPeaceful_57 (by decide) ?_
            exact ih v1_12 v2_12 1 (v4_12 + 1) _ _ _ _ hH (lv_sub hl [2, 3, 1, 0, 4] rfl) hf
set_option maxHeartbeats 4000000 in
set_option maxRecDepth 100000 in
theorem l_X13_laysPeaceful_L2 (C : CX p l e s m args meth c cX13_laysPeaceful 5 RX13 (Option.none : Option Jvm.ClassFile.FieldType) E) {o : Nat} (ho : K o = some (11, 0)) {w' : Wd} (k : Int32 → Int32 → Wd → Option Wd) (hk : ∀ (v1_2 : Int32) (v2_2 : Int32) (w : Wd) (H : Heap) (locs : List Loc) (ls : Array Slot), HQ E K z w s H locs → lv_has ls 5 [(1, .int v1_2), (2, .int v2_2), (0, rv E (some o))] → k v1_2 v2_2 w = some w' → W p l e ({ frames := 1, cells := 0, slots := 0, locals := 21 } : Room) s m args below meth c H locs 0 0 (MQ below (QV E K z w') args s 0 0 (hA E)) (F0 m 73 ls [])) : ∀ (n : Nat) (v1_2 : Int32) (v2_2 : Int32) (w : Wd) (H : Heap) (locs : List Loc) (ls : Array Slot), HQ E K z w s H locs → lv_has ls 5 [(1, .int v1_2), (2, .int v2_2), (0, rv E (some o))] → f_X13_laysPeaceful_L2 K o k n v1_2 v2_2 w = some w' → W p l e ({ frames := 1, cells := 0, slots := 0, locals := 21 } : Room) s m args below meth c H locs 0 0 (MQ below (QV E K z w') args s 0 0 (hA E)) (F0 m 2 ls []) := by
  obtain ⟨hx, hb, hml, hown, hts, hKs, hT, hb0, hlocks, hret⟩ := id C
  intro n
  induction n with
  | zero =>
    intro v1_2 v2_2 w H locs ls hH hl hf
    cases hf
  | succ n ih =>
    intro v1_2 v2_2 w H locs ls hH hl hf
    rw [f_X13_laysPeaceful_L2] at hf
    refine lv_iload_n hx hb dX13_laysPeaceful_2 rfl (lv_at hl 1 rfl) ?_
    refine lv_iload_n hx hb dX13_laysPeaceful_3 rfl (lv_at hl 0 rfl) ?_
    refine lv_icmp_gt (tgt := 73) hx hb dX13_laysPeaceful_4 (by decide) (fun c2 => ?_) (fun c2 => ?_)
    · replace hf := (if_pos c2).symm.trans hf
      exact hk v1_2 v2_2 _ _ _ _ hH (lv_sub hl [0, 1, 2] rfl) hf
    · replace hf := (if_neg c2).symm.trans hf
      refine lv_iconst (v := 1) hx hb dX13_laysPeaceful_7 (by decide) ?_
      refine lv_istore_n (i := 3) (lv' := [(3, .int 1), (1, .int v1_2), (2, .int v2_2), (0, rv E (some o))]) hx hb dX13_laysPeaceful_8 rfl hl (by decide) rfl (fun ls hl => ?_)
      refine lv_iconst (v := 0) hx hb dX13_laysPeaceful_9 (by decide) ?_
      refine lv_istore (i := 4) (lv' := [(4, .int 0), (3, .int 1), (1, .int v1_2), (2, .int v2_2), (0, rv E (some o))]) hx hb dX13_laysPeaceful_10 hl (by decide) rfl (fun ls hl => ?_)
      refine l_X13_laysPeaceful_L12  C ho _ (fun v1_12 v2_12 v3_12 v4_12 w3 H locs ls hH hl hf => ?_) fu v1_2 v2_2 1 0 w _ _ _ hH (lv_sub hl [2, 3, 1, 0, 4] rfl) hf
      refine hl_aload_n hx hb dX13_laysPeaceful_60 rfl (lv_at hl 4 rfl) ?_
      refine g13_22 hx hb hts hown hKs hH rfl ho m6_203 dX13_laysPeaceful_61 ?_
      refine lv_iload_n hx hb dX13_laysPeaceful_64 rfl (lv_at hl 1 rfl) ?_
      refine lv_iload_n hx hb dX13_laysPeaceful_65 rfl (lv_at hl 2 rfl) ?_
      obtain ⟨a11, ha11, hf⟩ := bnd hf
      replace ha11 := cha_some ha11
      obtain ⟨j12, hj12, hf⟩ := bnd hf
      obtain ⟨w13, hw13, hf⟩ := bnd hf
      replace hw13 := Option.some.inj hw13
      refine hw_zast (x := v3_12) hx hb hKs hH ha11.1 ha11.2 hj12 dX13_laysPeaceful_66 (fun H locs hH => ?_)
      rw [hw13] at hH
      refine lv_iinc (v := (v2_12 + 1)) (lv' := [(2, .int ((v2_12 + 1))), (1, .int v1_12), (3, .int v3_12), (4, .int v4_12), (0, rv E (some o))]) hx hb dX13_laysPeaceful_67 hl (k := 1) rfl rfl (by decide) rfl (fun ls hl => ?_)
      refine lv_goto (tgt := 2) hx hb dX13_laysPeaceful_70 (by decide) ?_
      exact ih v1_12 (v2_12 + 1) _ _ _ _ hH (lv_sub hl [1, 0, 4] rfl) hf
set_option maxHeartbeats 4000000 in
set_option maxRecDepth 100000 in
theorem k_X13_laysPeaceful (l : Launch) (E : Ev) (K : Kd) (z : Nat) (o : Nat) (a_1 : Int32) (w : Wd) (ho : K o = some (11, 0)) {w' : Wd} (hf : f_X13_laysPeaceful K o a_1 w = some w') : Met l yX13_laysPeaceful (Cond.code yX13_laysPeaceful cX13_laysPeaceful 5 (Option.none : Option Jvm.ClassFile.FieldType) :: bt) ({ frames := 1, cells := 0, slots := 0, locals := 21 } : Room) (va_Pc [rv E (some o), .int a_1] (HB E K w z)) (QV E K z w') 0 0 (hA E) := by
  refine Met.ofW (cc := cX13_laysPeaceful) (maxL := 5) (ret := (Option.none : Option Jvm.ClassFile.FieldType)) (by decide) rfl ?_
  intro p e s m args below meth c s₁ B hml hv
  obtain ⟨rfl, hz, hP, hKs, hT, hb0⟩ := hv
  have C : CX p l e s m _ meth c cX13_laysPeaceful 5 RX13 (Option.none : Option Jvm.ClassFile.FieldType) E := ⟨B.exec, B.bytes, hml, findClass_of_methodNamed B.named, fun w h => atoms_spec (ws := Cond.code yX13_laysPeaceful cX13_laysPeaceful 5 (Option.none : Option Jvm.ClassFile.FieldType) :: bt) B.pre w (List.mem_cons_of_mem _ h), hKs, hT, by rw [hz]; exact hb0, B.notSynchronized, B.returns⟩
  have hH : HQ E K z w s s.heap [] := ⟨hP, va_S.rf, hz⟩
  obtain ⟨hx, hb, hml, hown, hts, hKs, hT, hb0, hlocks, hret⟩ := id C
  have hl := lv_entry [rv E (some o), .int a_1] (n := 5) (by simp [lg_len_nil, lg_len_i, lg_len_j, lg_len_q, lg_len_f, lg_len_d, lg_len_r])
  rw [lg_entry_eq]
  generalize (lg_sl [rv E (some o), .int a_1] ++ List.replicate (5 - (lg_sl [rv E (some o), .int a_1]).length) Slot.unset).toArray = ls at hl ⊢
  replace hl : lv_has ls 5 [(0, rv E (some o)), (1, .int a_1)] := by simpa only [lv_args, cat_q, cat_i, cat_j, reduceIte, Nat.reduceEqDiff, Nat.reduceAdd, Nat.zero_add] using hl
  generalize s.heap = H at hH ⊢
  unfold f_X13_laysPeaceful at hf
  refine lv_iconst (v := 0) hx hb dX13_laysPeaceful_0 (by decide) ?_
  refine lv_istore_n (i := 2) (lv' := [(2, .int 0), (0, rv E (some o)), (1, .int a_1)]) hx hb dX13_laysPeaceful_1 rfl hl (by decide) rfl (fun ls hl => ?_)
  refine l_X13_laysPeaceful_L2  C ho _ (fun v1_2 v2_2 w1 H locs ls hH hl hf => ?_) fu a_1 0 w _ _ _ hH (lv_sub hl [2, 0, 1] rfl) hf
  exact hw_vret hx hb hret hf hH hlocks dX13_laysPeaceful_73

theorem dX13_takesPart_0 : decode cX13_takesPart 0 = .ok (.iconst 0, 1) := by decide +kernel
theorem dX13_takesPart_1 : decode cX13_takesPart 1 = .ok (.istore_n 3, 1) := by decide +kernel
theorem dX13_takesPart_2 : decode cX13_takesPart 2 = .ok (.iconst 0, 1) := by decide +kernel
theorem dX13_takesPart_3 : decode cX13_takesPart 3 = .ok (.istore 4, 2) := by decide +kernel
theorem dX13_takesPart_5 : decode cX13_takesPart 5 = .ok (.iload 4, 2) := by decide +kernel
theorem dX13_takesPart_7 : decode cX13_takesPart 7 = .ok (.aload_n 0, 1) := by decide +kernel
theorem dX13_takesPart_8 : decode cX13_takesPart 8 = .ok (.getfield 7, 3) := by decide +kernel
theorem dX13_takesPart_11 : decode cX13_takesPart 11 = .ok (.iconst 3, 1) := by decide +kernel
theorem dX13_takesPart_12 : decode cX13_takesPart 12 = .ok (.iaload, 1) := by decide +kernel
theorem dX13_takesPart_13 : decode cX13_takesPart 13 = .ok (.if_icmp .ge 33, 3) := by decide +kernel
theorem dX13_takesPart_16 : decode cX13_takesPart 16 = .ok (.aload_n 0, 1) := by decide +kernel
theorem dX13_takesPart_17 : decode cX13_takesPart 17 = .ok (.getfield 16, 3) := by decide +kernel
theorem dX13_takesPart_20 : decode cX13_takesPart 20 = .ok (.bipush 34, 2) := by decide +kernel
theorem dX13_takesPart_22 : decode cX13_takesPart 22 = .ok (.iload 4, 2) := by decide +kernel
theorem dX13_takesPart_24 : decode cX13_takesPart 24 = .ok (.iadd, 1) := by decide +kernel
theorem dX13_takesPart_25 : decode cX13_takesPart 25 = .ok (.iaload, 1) := by decide +kernel
theorem dX13_takesPart_26 : decode cX13_takesPart 26 = .ok (.iload_n 1, 1) := by decide +kernel
theorem dX13_takesPart_27 : decode cX13_takesPart 27 = .ok (.invokestatic 167, 3) := by decide +kernel
theorem dX13_takesPart_30 : decode cX13_takesPart 30 = .ok (.ifCond .ne 10, 3) := by decide +kernel
theorem dX13_takesPart_33 : decode cX13_takesPart 33 = .ok (.iload_n 3, 1) := by decide +kernel
theorem dX13_takesPart_34 : decode cX13_takesPart 34 = .ok (.iconst 1, 1) := by decide +kernel
theorem dX13_takesPart_35 : decode cX13_takesPart 35 = .ok (.iload 4, 2) := by decide +kernel
theorem dX13_takesPart_37 : decode cX13_takesPart 37 = .ok (.ishl, 1) := by decide +kernel
theorem dX13_takesPart_38 : decode cX13_takesPart 38 = .ok (.ior, 1) := by decide +kernel
theorem dX13_takesPart_39 : decode cX13_takesPart 39 = .ok (.istore_n 3, 1) := by decide +kernel
theorem dX13_takesPart_40 : decode cX13_takesPart 40 = .ok (.iinc 4 1, 3) := by decide +kernel
theorem dX13_takesPart_43 : decode cX13_takesPart 43 = .ok (.goto (-38), 3) := by decide +kernel
theorem dX13_takesPart_46 : decode cX13_takesPart 46 = .ok (.iload_n 2, 1) := by decide +kernel
theorem dX13_takesPart_47 : decode cX13_takesPart 47 = .ok (.istore 4, 2) := by decide +kernel
theorem dX13_takesPart_49 : decode cX13_takesPart 49 = .ok (.iload 4, 2) := by decide +kernel
theorem dX13_takesPart_51 : decode cX13_takesPart 51 = .ok (.ifCond .le 100, 3) := by decide +kernel
theorem dX13_takesPart_54 : decode cX13_takesPart 54 = .ok (.iload 4, 2) := by decide +kernel
theorem dX13_takesPart_56 : decode cX13_takesPart 56 = .ok (.iload_n 3, 1) := by decide +kernel
theorem dX13_takesPart_57 : decode cX13_takesPart 57 = .ok (.iand, 1) := by decide +kernel
theorem dX13_takesPart_58 : decode cX13_takesPart 58 = .ok (.istore 5, 2) := by decide +kernel
theorem dX13_takesPart_60 : decode cX13_takesPart 60 = .ok (.iload 5, 2) := by decide +kernel
theorem dX13_takesPart_62 : decode cX13_takesPart 62 = .ok (.istore 6, 2) := by decide +kernel
theorem dX13_takesPart_64 : decode cX13_takesPart 64 = .ok (.iload 6, 2) := by decide +kernel
theorem dX13_takesPart_66 : decode cX13_takesPart 66 = .ok (.ifCond .le 79, 3) := by decide +kernel
theorem dX13_takesPart_69 : decode cX13_takesPart 69 = .ok (.aload_n 0, 1) := by decide +kernel
theorem dX13_takesPart_70 : decode cX13_takesPart 70 = .ok (.getfield 54, 3) := by decide +kernel
theorem dX13_takesPart_73 : decode cX13_takesPart 73 = .ok (.iload 4, 2) := by decide +kernel
theorem dX13_takesPart_75 : decode cX13_takesPart 75 = .ok (.iload 6, 2) := by decide +kernel
theorem dX13_takesPart_77 : decode cX13_takesPart 77 = .ok (.ixor, 1) := by decide +kernel
theorem dX13_takesPart_78 : decode cX13_takesPart 78 = .ok (.iaload, 1) := by decide +kernel
theorem dX13_takesPart_79 : decode cX13_takesPart 79 = .ok (.istore 7, 2) := by decide +kernel
theorem dX13_takesPart_81 : decode cX13_takesPart 81 = .ok (.aload_n 0, 1) := by decide +kernel
theorem dX13_takesPart_82 : decode cX13_takesPart 82 = .ok (.getfield 57, 3) := by decide +kernel
theorem dX13_takesPart_85 : decode cX13_takesPart 85 = .ok (.iload 6, 2) := by decide +kernel
theorem dX13_takesPart_87 : decode cX13_takesPart 87 = .ok (.baload, 1) := by decide +kernel
theorem dX13_takesPart_88 : decode cX13_takesPart 88 = .ok (.ifCond .eq 45, 3) := by decide +kernel
theorem dX13_takesPart_91 : decode cX13_takesPart 91 = .ok (.iload 7, 2) := by decide +kernel
theorem dX13_takesPart_93 : decode cX13_takesPart 93 = .ok (.iconst (-1), 1) := by decide +kernel
theorem dX13_takesPart_94 : decode cX13_takesPart 94 = .ok (.if_icmp .eq 39, 3) := by decide +kernel
theorem dX13_takesPart_97 : decode cX13_takesPart 97 = .ok (.aload_n 0, 1) := by decide +kernel
theorem dX13_takesPart_98 : decode cX13_takesPart 98 = .ok (.getfield 54, 3) := by decide +kernel
theorem dX13_takesPart_101 : decode cX13_takesPart 101 = .ok (.iload 4, 2) := by decide +kernel
theorem dX13_takesPart_103 : decode cX13_takesPart 103 = .ok (.iaload, 1) := by decide +kernel
theorem dX13_takesPart_104 : decode cX13_takesPart 104 = .ok (.iconst (-1), 1) := by decide +kernel
theorem dX13_takesPart_105 : decode cX13_takesPart 105 = .ok (.if_icmp .eq 17, 3) := by decide +kernel
theorem dX13_takesPart_108 : decode cX13_takesPart 108 = .ok (.iload 7, 2) := by decide +kernel
theorem dX13_takesPart_110 : decode cX13_takesPart 110 = .ok (.iconst 1, 1) := by decide +kernel
theorem dX13_takesPart_111 : decode cX13_takesPart 111 = .ok (.iadd, 1) := by decide +kernel
theorem dX13_takesPart_112 : decode cX13_takesPart 112 = .ok (.aload_n 0, 1) := by decide +kernel
theorem dX13_takesPart_113 : decode cX13_takesPart 113 = .ok (.getfield 54, 3) := by decide +kernel
theorem dX13_takesPart_116 : decode cX13_takesPart 116 = .ok (.iload 4, 2) := by decide +kernel
theorem dX13_takesPart_118 : decode cX13_takesPart 118 = .ok (.iaload, 1) := by decide +kernel
theorem dX13_takesPart_119 : decode cX13_takesPart 119 = .ok (.if_icmp .ge 14, 3) := by decide +kernel
theorem dX13_takesPart_122 : decode cX13_takesPart 122 = .ok (.aload_n 0, 1) := by decide +kernel
theorem dX13_takesPart_123 : decode cX13_takesPart 123 = .ok (.getfield 54, 3) := by decide +kernel
theorem dX13_takesPart_126 : decode cX13_takesPart 126 = .ok (.iload 4, 2) := by decide +kernel
theorem dX13_takesPart_128 : decode cX13_takesPart 128 = .ok (.iload 7, 2) := by decide +kernel
theorem dX13_takesPart_130 : decode cX13_takesPart 130 = .ok (.iconst 1, 1) := by decide +kernel
theorem dX13_takesPart_131 : decode cX13_takesPart 131 = .ok (.iadd, 1) := by decide +kernel
theorem dX13_takesPart_132 : decode cX13_takesPart 132 = .ok (.iastore, 1) := by decide +kernel
theorem dX13_takesPart_133 : decode cX13_takesPart 133 = .ok (.iload 6, 2) := by decide +kernel
theorem dX13_takesPart_135 : decode cX13_takesPart 135 = .ok (.iconst 1, 1) := by decide +kernel
theorem dX13_takesPart_136 : decode cX13_takesPart 136 = .ok (.isub, 1) := by decide +kernel
theorem dX13_takesPart_137 : decode cX13_takesPart 137 = .ok (.iload 5, 2) := by decide +kernel
theorem dX13_takesPart_139 : decode cX13_takesPart 139 = .ok (.iand, 1) := by decide +kernel
theorem dX13_takesPart_140 : decode cX13_takesPart 140 = .ok (.istore 6, 2) := by decide +kernel
theorem dX13_takesPart_142 : decode cX13_takesPart 142 = .ok (.goto (-78), 3) := by decide +kernel
theorem dX13_takesPart_145 : decode cX13_takesPart 145 = .ok (.iinc 4 (-1), 3) := by decide +kernel
theorem dX13_takesPart_148 : decode cX13_takesPart 148 = .ok (.goto (-99), 3) := by decide +kernel
theorem dX13_takesPart_151 : decode cX13_takesPart 151 = .ok (.return_, 1) := by decide +kernel
theorem hd_X13_takesPart : yX13_takesPart.cls = RX13 ∧ yX13_takesPart.cls ≠ "java/lang/invoke/MethodHandle" ∧ yX13_takesPart.cls ≠ "java/lang/invoke/VarHandle" ∧ (parseMethodDescriptor yX13_takesPart.desc).map (fun d => d.parameters.length) = some 2 := by decide +kernel
theorem hs_X13_takesPart : yX13_takesPart.cls ≠ "java/lang/invoke/MethodHandle" ∧ yX13_takesPart.cls ≠ "java/lang/invoke/VarHandle" ∧ (parseMethodDescriptor yX13_takesPart.desc).map (fun d => d.parameters.length) = some 2 := by decide +kernel
set_option maxHeartbeats 4000000 in
set_option maxRecDepth 100000 in
theorem l_X13_takesPart_L5 (C : CX p l e s m args meth c cX13_takesPart 8 RX13 (Option.none : Option Jvm.ClassFile.FieldType) E) {o : Nat} (ho : K o = some (11, 0)) {w' : Wd} (k : Int32 → Int32 → Int32 → Int32 → Wd → Option Wd) (hk : ∀ (v1_5 : Int32) (v2_5 : Int32) (v3_5 : Int32) (v4_5 : Int32) (w : Wd) (H : Heap) (locs : List Loc) (ls : Array Slot), HQ E K z w s H locs → lv_has ls 8 [(1, .int v1_5), (2, .int v2_5), (3, .int v3_5), (4, .int v4_5), (0, rv E (some o))] → k v1_5 v2_5 v3_5 v4_5 w = some w' → W p l e ({ frames := 1, cells := 0, slots := 0, locals := 21 } : Room) s m args below meth c H locs 0 0 (MQ below (QV E K z w') args s 0 0 (hA E)) (F0 m 46 ls [])) : ∀ (n : Nat) (v1_5 : Int32) (v2_5 : Int32) (v3_5 : Int32) (v4_5 : Int32) (w : Wd) (H : Heap) (locs : List Loc) (ls : Array Slot), HQ E K z w s H locs → lv_has ls 8 [(1, .int v1_5), (2, .int v2_5), (3, .int v3_5), (4, .int v4_5), (0, rv E (some o))] → f_X13_takesPart_L5 K o k n v1_5 v2_5 v3_5 v4_5 w = some w' → W p l e ({ frames := 1, cells := 0, slots := 0, locals := 21 } : Room) s m args below meth c H locs 0 0 (MQ below (QV E K z w') args s 0 0 (hA E)) (F0 m 5 ls []) := by
  obtain ⟨hx, hb, hml, hown, hts, hKs, hT, hb0, hlocks, hret⟩ := id C
  intro n
  induction n with
  | zero =>
    intro v1_5 v2_5 v3_5 v4_5 w H locs ls hH hl hf
    cases hf
  | succ n ih =>
    intro v1_5 v2_5 v3_5 v4_5 w H locs ls hH hl hf
    rw [f_X13_takesPart_L5] at hf
    refine lv_iload hx hb dX13_takesPart_5 (lv_at hl 3 rfl) ?_
    refine hl_aload_n hx hb dX13_takesPart_7 rfl (lv_at hl 4 rfl) ?_
    refine g13_1 hx hb hts hown hKs hH rfl ho m6_182 dX13_takesPart_8 ?_
    refine lv_iconst (v := 3) hx hb dX13_takesPart_11 (by decide) ?_
    obtain ⟨a2, ha2, hf⟩ := bnd hf
    replace ha2 := cha_some ha2
    obtain ⟨j3, hj3, hf⟩ := bnd hf
    refine hw_iald hx hb hKs hH ha2.1 ha2.2 hj3 dX13_takesPart_12 ?_
    refine lv_icmp_ge (tgt := 46) hx hb dX13_takesPart_13 (by decide) (fun c4 => ?_) (fun c4 => ?_)
    · replace hf := (if_pos c4).symm.trans hf
      exact hk v1_5 v2_5 v3_5 v4_5 _ _ _ _ hH (lv_sub hl [0, 1, 2, 3, 4] rfl) hf
    · replace hf := (if_neg c4).symm.trans hf
      refine hl_aload_n hx hb dX13_takesPart_16 rfl (lv_at hl 4 rfl) ?_
      refine g13_3 hx hb hts hown hKs hH rfl ho m6_184 dX13_takesPart_17 ?_
      refine lv_bipush (v := 34) hx hb dX13_takesPart_20 (by decide) ?_
      refine lv_iload hx hb dX13_takesPart_22 (lv_at hl 3 rfl) ?_
      refine lv_iadd hx hb dX13_takesPart_24 ?_
      obtain ⟨a5, ha5, hf⟩ := bnd hf
      replace ha5 := cha_some ha5
      obtain ⟨j6, hj6, hf⟩ := bnd hf
      refine hw_iald hx hb hKs hH ha5.1 ha5.2 hj6 dX13_takesPart_25 ?_
      refine lv_iload_n hx hb dX13_takesPart_26 rfl (lv_at hl 0 rfl) ?_
      obtain ⟨q7, hq7, hf⟩ := bnd hf
      refine hcS_i hx hb hml hown hts hKs hT hb0 hH (As := [.int ((aI w a5.1 j6)), .int v1_5]) (rest := []) (k_X13_has l E K H.size (aI w a5.1 j6) v1_5 w hq7) (gS m7_223 m7_224 m1_16 m7_225) hs_X13_has ⟨Nat.le_of_ble_eq_true rfl, Nat.le_of_ble_eq_true rfl, rfl, rfl⟩ hl.1 rfl rc0 rfl dX13_takesPart_27 ⟨Nat.zero_le _, Nat.zero_le _⟩ (fun H locs hH => ?_)
      refine lv_if_ne (tgt := 40) hx hb dX13_takesPart_30 (by decide) (fun c8 => ?_) (fun c8 => ?_)
      · replace hf := (if_neg c8).symm.trans hf
        refine lv_iinc (v := (v4_5 + 1)) (lv' := [(4, .int ((v4_5 + 1))), (1, .int v1_5), (2, .int v2_5), (3, .int v3_5), (0, rv E (some o))]) hx hb dX13_takesPart_40 hl (k := 3) rfl rfl (by decide) rfl (fun ls hl => ?_)
        refine lv_goto (tgt := 5) hx hb dX13_takesPart_43 (by decide) ?_
        exact ih v1_5 v2_5 v3_5 (v4_5 + 1) _ _ _ _ hH (lv_sub hl [1, 2, 3, 0, 4] rfl) hf
      · replace hf := (if_pos c8).symm.trans hf
        refine lv_iload_n hx hb dX13_takesPart_33 rfl (lv_at hl 2 rfl) ?_
        refine lv_iconst (v := 1) hx hb dX13_takesPart_34 (by decide) ?_
        refine lv_iload hx hb dX13_takesPart_35 (lv_at hl 3 rfl) ?_
        refine lv_ishl hx hb dX13_takesPart_37 ?_
        refine lv_ior hx hb dX13_takesPart_38 ?_
        refine lv_istore_n (i := 3) (lv' := [(3, .int ((v3_5 ||| (1 <<< (v4_5 &&& 31))))), (1, .int v1_5), (2, .int v2_5), (4, .int v4_5), (0, rv E (some o))]) hx hb dX13_takesPart_39 rfl hl (by decide) rfl (fun ls hl => ?_)
        refine lv_iinc (v := (v4_5 + 1)) (lv' := [(4, .int ((v4_5 + 1))), (3, .int ((v3_5 ||| (1 <<< (v4_5 &&& 31))))), (1, .int v1_5), (2, .int v2_5), (0, rv E (some o))]) hx hb dX13_takesPart_40 hl (k := 3) rfl rfl (by decide) rfl (fun ls hl => ?_)
        refine lv_goto (tgt := 5) hx hb dX13_takesPart_43 (by decide) ?_
        exact ih v1_5 v2_5 (v3_5 ||| (1 <<< (v4_5 &&& 31))) (v4_5 + 1) _ _ _ _ hH (lv_sub hl [2, 3, 1, 0, 4] rfl) hf
set_option maxHeartbeats 4000000 in
set_option maxRecDepth 100000 in
theorem l_X13_takesPart_L64 (C : CX p l e s m args meth c cX13_takesPart 8 RX13 (Option.none : Option Jvm.ClassFile.FieldType) E) {o : Nat} (ho : K o = some (11, 0)) {w' : Wd} (k : Int32 → Int32 → Int32 → Int32 → Int32 → Int32 → Wd → Option Wd) (hk : ∀ (v1_64 : Int32) (v2_64 : Int32) (v3_64 : Int32) (v4_64 : Int32) (v5_64 : Int32) (v6_64 : Int32) (w : Wd) (H : Heap) (locs : List Loc) (ls : Array Slot), HQ E K z w s H locs → lv_has ls 8 [(1, .int v1_64), (2, .int v2_64), (3, .int v3_64), (4, .int v4_64), (5, .int v5_64), (6, .int v6_64), (0, rv E (some o))] → k v1_64 v2_64 v3_64 v4_64 v5_64 v6_64 w = some w' → W p l e ({ frames := 1, cells := 0, slots := 0, locals := 21 } : Room) s m args below meth c H locs 0 0 (MQ below (QV E K z w') args s 0 0 (hA E)) (F0 m 145 ls [])) : ∀ (n : Nat) (v1_64 : Int32) (v2_64 : Int32) (v3_64 : Int32) (v4_64 : Int32) (v5_64 : Int32) (v6_64 : Int32) (w : Wd) (H : Heap) (locs : List Loc) (ls : Array Slot), HQ E K z w s H locs → lv_has ls 8 [(1, .int v1_64), (2, .int v2_64), (3, .int v3_64), (4, .int v4_64), (5, .int v5_64), (6, .int v6_64), (0, rv E (some o))] → f_X13_takesPart_L64 K o k n v1_64 v2_64 v3_64 v4_64 v5_64 v6_64 w = some w' → W p l e ({ frames := 1, cells := 0, slots := 0, locals := 21 } : Room) s m args below meth c H locs 0 0 (MQ below (QV E K z w') args s 0 0 (hA E)) (F0 m 64 ls []) := by
  obtain ⟨hx, hb, hml, hown, hts, hKs, hT, hb0, hlocks, hret⟩ := id C
  intro n
  induction n with
  | zero =>
    intro v1_64 v2_64 v3_64 v4_64 v5_64 v6_64 w H locs ls hH hl hf
    cases hf
  | succ n ih =>
    intro v1_64 v2_64 v3_64 v4_64 v5_64 v6_64 w H locs ls hH hl hf
    rw [f_X13_takesPart_L64] at hf
    refine lv_iload hx hb dX13_takesPart_64 (lv_at hl 5 rfl) ?_
    refine lv_if_le (tgt := 145) hx hb dX13_takesPart_66 (by decide) (fun c12 => ?_) (fun c12 => ?_)
    · replace hf := (if_pos c12).symm.trans hf
      exact hk v1_64 v2_64 v3_64 v4_64 v5_64 v6_64 _ _ _ _ hH (lv_sub hl [0, 1, 2, 3, 4, 5, 6] rfl) hf
    · replace hf := (if_neg c12).symm.trans hf
      refine hl_aload_n hx hb dX13_takesPart_69 rfl (lv_at hl 6 rfl) ?_
      refine g13_21 hx hb hts hown hKs hH rfl ho m6_202 dX13_takesPart_70 ?_
      refine lv_iload hx hb dX13_takesPart_73 (lv_at hl 3 rfl) ?_
      refine lv_iload hx hb dX13_takesPart_75 (lv_at hl 5 rfl) ?_
      refine lv_ixor hx hb dX13_takesPart_77 ?_
      obtain ⟨a13, ha13, hf⟩ := bnd hf
      replace ha13 := cha_some ha13
      obtain ⟨j14, hj14, hf⟩ := bnd hf
      refine hw_iald hx hb hKs hH ha13.1 ha13.2 hj14 dX13_takesPart_78 ?_
      refine lv_istore (i := 7) (lv' := [(7, .int ((aI w a13.1 j14))), (1, .int v1_64), (2, .int v2_64), (3, .int v3_64), (4, .int v4_64), (5, .int v5_64), (6, .int v6_64), (0, rv E (some o))]) hx hb dX13_takesPart_79 hl (by decide) rfl (fun ls hl => ?_)
      refine hl_aload_n hx hb dX13_takesPart_81 rfl (lv_at hl 7 rfl) ?_
      refine g13_22 hx hb hts hown hKs hH rfl ho m6_203 dX13_takesPart_82 ?_
      refine lv_iload hx hb dX13_takesPart_85 (lv_at hl 6 rfl) ?_
      obtain ⟨a15, ha15, hf⟩ := bnd hf
      replace ha15 := cha_some ha15
      obtain ⟨j16, hj16, hf⟩ := bnd hf
      refine hw_zald hx hb hKs hH ha15.1 ha15.2 hj16 dX13_takesPart_87 ?_
      refine lv_if_eq (tgt := 133) hx hb dX13_takesPart_88 (by decide) (fun c17 => ?_) (fun c17 => ?_)
      · replace hf := (if_pos c17).symm.trans hf
        refine lv_iload hx hb dX13_takesPart_133 (lv_at hl 6 rfl) ?_
        refine lv_iconst (v := 1) hx hb dX13_takesPart_135 (by decide) ?_
        refine lv_isub hx hb dX13_takesPart_136 ?_
        refine lv_iload hx hb dX13_takesPart_137 (lv_at hl 5 rfl) ?_
        refine lv_iand hx hb dX13_takesPart_139 ?_
        refine lv_istore (i := 6) (lv' := [(6, .int (((v6_64 - 1) &&& v5_64))), (7, .int ((aI w a13.1 j14))), (1, .int v1_64), (2, .int v2_64), (3, .int v3_64), (4, .int v4_64), (5, .int v5_64), (0, rv E (some o))]) hx hb dX13_takesPart_140 hl (by decide) rfl (fun ls hl => ?_)
        refine lv_goto (tgt := 64) hx hb dX13_takesPart_142 (by decide) ?_
        exact ih v1_64 v2_64 v3_64 v4_64 v5_64 ((v6_64 - 1) &&& v5_64) _ _ _ _ hH (lv_sub hl [2, 3, 4, 5, 6, 0, 7] rfl) hf
      · replace hf := (if_neg c17).symm.trans hf
        refine lv_iload hx hb dX13_takesPart_91 (lv_at hl 0 rfl) ?_
        refine lv_iconst (v := (-1)) hx hb dX13_takesPart_93 (by decide) ?_
        refine lv_icmp_eq (tgt := 133) hx hb dX13_takesPart_94 (by decide) (fun c18 => ?_) (fun c18 => ?_)
        · replace hf := (if_pos c18).symm.trans hf
          refine lv_iload hx hb dX13_takesPart_133 (lv_at hl 6 rfl) ?_
          refine lv_iconst (v := 1) hx hb dX13_takesPart_135 (by decide) ?_
          refine lv_isub hx hb dX13_takesPart_136 ?_
          refine lv_iload hx hb dX13_takesPart_137 (lv_at hl 5 rfl) ?_
          refine lv_iand hx hb dX13_takesPart_139 ?_
          refine lv_istore (i := 6) (lv' := [(6, .int (((v6_64 - 1) &&& v5_64))), (7, .int ((aI w a13.1 j14))), (1, .int v1_64), (2, .int v2_64), (3, .int v3_64), (4, .int v4_64), (5, .int v5_64), (0, rv E (some o))]) hx hb dX13_takesPart_140 hl (by decide) rfl (fun ls hl => ?_)
          refine lv_goto (tgt := 64) hx hb dX13_takesPart_142 (by decide) ?_
          exact ih v1_64 v2_64 v3_64 v4_64 v5_64 ((v6_64 - 1) &&& v5_64) _ _ _ _ hH (lv_sub hl [2, 3, 4, 5, 6, 0, 7] rfl) hf
        · replace hf := (if_neg c18).symm.trans hf
          refine hl_aload_n hx hb dX13_takesPart_97 rfl (lv_at hl 7 rfl) ?_
          refine g13_21 hx hb hts hown hKs hH rfl ho m6_202 dX13_takesPart_98 ?_
          refine lv_iload hx hb dX13_takesPart_101 (lv_at hl 4 rfl) ?_
          obtain ⟨j19, hj19, hf⟩ := bnd hf
          refine hw_iald hx hb hKs hH ha13.1 ha13.2 hj19 dX13_takesPart_103 ?_
          refine lv_iconst (v := (-1)) hx hb dX13_takesPart_104 (by decide) ?_
          refine lv_icmp_eq (tgt := 122) hx hb dX13_takesPart_105 (by decide) (fun c20 => ?_) (fun c20 => ?_)
          · replace hf := (if_pos c20).symm.trans hf
            refine hl_aload_n hx hb dX13_takesPart_122 rfl (lv_at hl 7 rfl) ?_
            refine g13_21 hx hb hts hown hKs hH rfl ho m6_202 dX13_takesPart_123 ?_
            refine lv_iload hx hb dX13_takesPart_126 (lv_at hl 4 rfl) ?_
            refine lv_iload hx hb dX13_takesPart_128 (lv_at hl 0 rfl) ?_
            refine lv_iconst (v := 1) hx hb dX13_takesPart_130 (by decide) ?_
            refine lv_iadd hx hb dX13_takesPart_131 ?_
            obtain ⟨j21, hj21, hf⟩ := bnd hf
            obtain ⟨w22, hw22, hf⟩ := bnd hf
            replace hw22 := Option.some.inj hw22
            refine hw_iast (x := ((aI w a13.1 j14) + 1)) hx hb hKs hH ha13.1 ha13.2 hj21 dX13_takesPart_132 (fun H locs hH => ?_)
            rw [hw22] at hH
            refine lv_iload hx hb dX13_takesPart_133 (lv_at hl 6 rfl) ?_
            refine lv_iconst (v := 1) hx hb dX13_takesPart_135 (by decide) ?_
            refine lv_isub hx hb dX13_takesPart_136 ?_
            refine lv_iload hx hb dX13_takesPart_137 (lv_at hl 5 rfl) ?_
            refine lv_iand hx hb dX13_takesPart_139 ?_
            refine lv_istore (i := 6) (lv' := [(6, .int (((v6_64 - 1) &&& v5_64))), (7, .int ((aI w a13.1 j14))), (1, .int v1_64), (2, .int v2_64), (3, .int v3_64), (4, .int v4_64), (5, .int v5_64), (0, rv E (some o))]) hx hb dX13_takesPart_140 hl (by decide) rfl (fun ls hl => ?_)
            refine lv_goto (tgt := 64) hx hb dX13_takesPart_142 (by decide) ?_
            exact ih v1_64 v2_64 v3_64 v4_64 v5_64 ((v6_64 - 1) &&& v5_64) _ _ _ _ hH (lv_sub hl [2, 3, 4, 5, 6, 0, 7] rfl) hf
          · replace hf := (if_neg c20).symm.trans hf
            refine lv_iload hx hb dX13_takesPart_108 (lv_at hl 0 rfl) ?_
            refine lv_iconst (v := 1) hx hb dX13_takesPart_110 (by decide) ?_
            refine lv_iadd hx hb dX13_takesPart_111 ?_
            refine hl_aload_n hx hb dX13_takesPart_112 rfl (lv_at hl 7 rfl) ?_
            refine g13_21 hx hb hts hown hKs hH rfl ho m6_202 dX13_takesPart_113 ?_
            refine lv_iload hx hb dX13_takesPart_116 (lv_at hl 4 rfl) ?_
            obtain ⟨j23, hj23, hf⟩ := bnd hf
            refine hw_iald hx hb hKs hH ha13.1 ha13.2 hj23 dX13_takesPart_118 ?_
            refine lv_icmp_ge (tgt := 133) hx hb dX13_takesPart_119 (by decide) (fun c24 => ?_) (fun c24 => ?_)
            · replace hf := (if_pos c24).symm.trans hf
              refine lv_iload hx hb dX13_takesPart_133 (lv_at hl 6 rfl) ?_
              refine lv_iconst (v := 1) hx hb dX13_takesPart_135 (by decide) ?_
              refine lv_isub hx hb dX13_takesPart_136 ?_
              refine lv_iload hx hb dX13_takesPart_137 (lv_at hl 5 rfl) ?_
              refine lv_iand hx hb dX13_takesPart_139 ?_
              refine lv_istore (i := 6) (lv' := [(6, .int (((v6_64 - 1) &&& v5_64))), (7, .int ((aI w a13.1 j14))), (1, .int v1_64), (2, .int v2_64), (3, .int v3_64), (4, .int v4_64), (5, .int v5_64), (0, rv E (some o))]) hx hb dX13_takesPart_140 hl (by decide) rfl (fun ls hl => ?_)
              refine lv_goto (tgt := 64) hx hb dX13_takesPart_142 (by decide) ?_
              exact ih v1_64 v2_64 v3_64 v4_64 v5_64 ((v6_64 - 1) &&& v5_64) _ _ _ _ hH (lv_sub hl [2, 3, 4, 5, 6, 0, 7] rfl) hf
            · replace hf := (if_neg c24).symm.trans hf
              refine hl_aload_n hx hb dX13_takesPart_122 rfl (lv_at hl 7 rfl) ?_
              refine g13_21 hx hb hts hown hKs hH rfl ho m6_202 dX13_takesPart_123 ?_
              refine lv_iload hx hb dX13_takesPart_126 (lv_at hl 4 rfl) ?_
              refine lv_iload hx hb dX13_takesPart_128 (lv_at hl 0 rfl) ?_
              refine lv_iconst (v := 1) hx hb dX13_takesPart_130 (by decide) ?_
              refine lv_iadd hx hb dX13_takesPart_131 ?_
              obtain ⟨j25, hj25, hf⟩ := bnd hf
              obtain ⟨w26, hw26, hf⟩ := bnd hf
              replace hw26 := Option.some.inj hw26
              refine hw_iast (x := ((aI w a13.1 j14) + 1)) hx hb hKs hH ha13.1 ha13.2 hj25 dX13_takesPart_132 (fun H locs hH => ?_)
              rw [hw26] at hH
              refine lv_iload hx hb dX13_takesPart_133 (lv_at hl 6 rfl) ?_
              refine lv_iconst (v := 1) hx hb dX13_takesPart_135 (by decide) ?_
              refine lv_isub hx hb dX13_takesPart_136 ?_
              refine lv_iload hx hb dX13_takesPart_137 (lv_at hl 5 rfl) ?_
              refine lv_iand hx hb dX13_takesPart_139 ?_
              refine lv_istore (i := 6) (lv' := [(6, .int (((v6_64 - 1) &&& v5_64))), (7, .int ((aI w a13.1 j14))), (1, .int v1_64), (2, .int v2_64), (3, .int v3_64), (4, .int v4_64), (5, .int v5_64), (0, rv E (some o))]) hx hb dX13_takesPart_140 hl (by decide) rfl (fun ls hl => ?_)
              refine lv_goto (tgt := 64) hx hb dX13_takesPart_142 (by decide) ?_
              exact ih v1_64 v2_64 v3_64 v4_64 v5_64 ((v6_64 - 1) &&& v5_64) _ _ _ _ hH (lv_sub hl [2, 3, 4, 5, 6, 0, 7] rfl) hf
set_option maxHeartbeats 4000000 in
set_option maxRecDepth 100000 in
theorem l_X13_takesPart_L49 (C : CX p l e s m args meth c cX13_takesPart 8 RX13 (Option.none : Option Jvm.ClassFile.FieldType) E) {o : Nat} (ho : K o = some (11, 0)) {w' : Wd} (k : Int32 → Int32 → Int32 → Int32 → Wd → Option Wd) (hk : ∀ (v1_49 : Int32) (v2_49 : Int32) (v3_49 : Int32) (v4_49 : Int32) (w : Wd) (H : Heap) (locs : List Loc) (ls : Array Slot), HQ E K z w s H locs → lv_has ls 8 [(1, .int v1_49), (2, .int v2_49), (3, .int v3_49), (4, .int v4_49), (0, rv E (some o))] → k v1_49 v2_49 v3_49 v4_49 w = some w' → W p l e ({ frames := 1, cells := 0, slots := 0, locals := 21 } : Room) s m args below meth c H locs 0 0 (MQ below (QV E K z w') args s 0 0 (hA E)) (F0 m 151 ls [])) : ∀ (n : Nat) (v1_49 : Int32) (v2_49 : Int32) (v3_49 : Int32) (v4_49 : Int32) (w : Wd) (H : Heap) (locs : List Loc) (ls : Array Slot), HQ E K z w s H locs → lv_has ls 8 [(1, .int v1_49), (2, .int v2_49), (3, .int v3_49), (4, .int v4_49), (0, rv E (some o))] → f_X13_takesPart_L49 K o k n v1_49 v2_49 v3_49 v4_49 w = some w' → W p l e ({ frames := 1, cells := 0, slots := 0, locals := 21 } : Room) s m args below meth c H locs 0 0 (MQ below (QV E K z w') args s 0 0 (hA E)) (F0 m 49 ls []) := by
  obtain ⟨hx, hb, hml, hown, hts, hKs, hT, hb0, hlocks, hret⟩ := id C
  intro n
  induction n with
  | zero =>
    intro v1_49 v2_49 v3_49 v4_49 w H locs ls hH hl hf
    cases hf
  | succ n ih =>
    intro v1_49 v2_49 v3_49 v4_49 w H locs ls hH hl hf
    rw [f_X13_takesPart_L49] at hf
    refine lv_iload hx hb dX13_takesPart_49 (lv_at hl 3 rfl) ?_
    refine lv_if_le (tgt := 151) hx hb dX13_takesPart_51 (by decide) (fun c10 => ?_) (fun c10 => ?_)
    · replace hf := (if_pos c10).symm.trans hf
      exact hk v1_49 v2_49 v3_49 v4_49 _ _ _ _ hH (lv_sub hl [0, 1, 2, 3, 4] rfl) hf
    · replace hf := (if_neg c10).symm.trans hf
      refine lv_iload hx hb dX13_takesPart_54 (lv_at hl 3 rfl) ?_
      refine lv_iload_n hx hb dX13_takesPart_56 rfl (lv_at hl 2 rfl) ?_
      refine lv_iand hx hb dX13_takesPart_57 ?_
      refine lv_istore (i := 5) (lv' := [(5, .int ((v4_49 &&& v3_49))), (1, .int v1_49), (2, .int v2_49), (3, .int v3_49), (4, .int v4_49), (0, rv E (some o))]) hx hb dX13_takesPart_58 hl (by decide) rfl (fun ls hl => ?_)
      refine lv_iload hx hb dX13_takesPart_60 (lv_at hl 0 rfl) ?_
      refine lv_istore (i := 6) (lv' := [(6, .int ((v4_49 &&& v3_49))), (5, .int ((v4_49 &&& v3_49))), (1, .int v1_49), (2, .int v2_49), (3, .int v3_49), (4, .int v4_49), (0, rv E (some o))]) hx hb dX13_takesPart_62 hl (by decide) rfl (fun ls hl => ?_)
      refine l_X13_takesPart_L64  C ho _ (fun v1_64 v2_64 v3_64 v4_64 v5_64 v6_64 w11 H locs ls hH hl hf => ?_) fu v1_49 v2_49 v3_49 v4_49 (v4_49 &&& v3_49) (v4_49 &&& v3_49) w _ _ _ hH (lv_sub hl [2, 3, 4, 5, 1, 0, 6] rfl) hf
      refine lv_iinc (v := (v4_64 + (-1))) (lv' := [(4, .int ((v4_64 + (-1)))), (1, .int v1_64), (2, .int v2_64), (3, .int v3_64), (5, .int v5_64), (6, .int v6_64), (0, rv E (some o))]) hx hb dX13_takesPart_145 hl (k := 3) rfl rfl (by decide) rfl (fun ls hl => ?_)
      refine lv_goto (tgt := 49) hx hb dX13_takesPart_148 (by decide) ?_
      exact ih v1_64 v2_64 v3_64 (v4_64 + (-1)) _ _ _ _ hH (lv_sub hl [1, 2, 3, 0, 6] rfl) hf
set_option maxHeartbeats 4000000 in
set_option maxRecDepth 100000 in
theorem k_X13_takesPart (l : Launch) (E : Ev) (K : Kd) (z : Nat) (o : Nat) (a_1 : Int32) (a_2 : Int32) (w : Wd) (ho : K o = some (11, 0)) {w' : Wd} (hf : f_X13_takesPart K o a_1 a_2 w = some w') : Met l yX13_takesPart (Cond.code yX13_takesPart cX13_takesPart 8 (Option.none : Option Jvm.ClassFile.FieldType) :: bt) ({ frames := 1, cells := 0, slots := 0, locals := 21 } : Room) (va_Pc [rv E (some o), .int a_1, .int a_2] (HB E K w z)) (QV E K z w') 0 0 (hA E) := by
  refine Met.ofW (cc := cX13_takesPart) (maxL := 8) (ret := (Option.none : Option Jvm.ClassFile.FieldType)) (by decide) rfl ?_
  intro p e s m args below meth c s₁ B hml hv
  obtain ⟨rfl, hz, hP, hKs, hT, hb0⟩ := hv
  have C : CX p l e s m _ meth c cX13_takesPart 8 RX13 (Option.none : Option Jvm.ClassFile.FieldType) E := ⟨B.exec, B.bytes, hml, findClass_of_methodNamed B.named, fun w h => atoms_spec (ws := Cond.code yX13_takesPart cX13_takesPart 8 (Option.none : Option Jvm.ClassFile.FieldType) :: bt) B.pre w (List.mem_cons_of_mem _ h), hKs, hT, by rw [hz]; exact hb0, B.notSynchronized, B.returns⟩
  have hH : HQ E K z w s s.heap [] := ⟨hP, va_S.rf, hz⟩
  obtain ⟨hx, hb, hml, hown, hts, hKs, hT, hb0, hlocks, hret⟩ := id C
  have hl := lv_entry [rv E (some o), .int a_1, .int a_2] (n := 8) (by simp [lg_len_nil, lg_len_i, lg_len_j, lg_len_q, lg_len_f, lg_len_d, lg_len_r])
  rw [lg_entry_eq]
  generalize (lg_sl [rv E (some o), .int a_1, .int a_2] ++ List.replicate (8 - (lg_sl [rv E (some o), .int a_1, .int a_2]).length) Slot.unset).toArray = ls at hl ⊢
  replace hl : lv_has ls 8 [(0, rv E (some o)), (1, .int a_1), (2, .int a_2)] := by simpa only [lv_args, cat_q, cat_i, cat_j, reduceIte, Nat.reduceEqDiff, Nat.reduceAdd, Nat.zero_add] using hl
  generalize s.heap = H at hH ⊢
  unfold f_X13_takesPart at hf
  refine lv_iconst (v := 0) hx hb dX13_takesPart_0 (by decide) ?_
  refine lv_istore_n (i := 3) (lv' := [(3, .int 0), (0, rv E (some o)), (1, .int a_1), (2, .int a_2)]) hx hb dX13_takesPart_1 rfl hl (by decide) rfl (fun ls hl => ?_)
  refine lv_iconst (v := 0) hx hb dX13_takesPart_2 (by decide) ?_
  refine lv_istore (i := 4) (lv' := [(4, .int 0), (3, .int 0), (0, rv E (some o)), (1, .int a_1), (2, .int a_2)]) hx hb dX13_takesPart_3 hl (by decide) rfl (fun ls hl => ?_)
  refine l_X13_takesPart_L5  C ho _ (fun v1_5 v2_5 v3_5 v4_5 w1 H locs ls hH hl hf => ?_) fu a_1 a_2 0 0 w _ _ _ hH (lv_sub hl [3, 4, 1, 0, 2] rfl) hf
  refine lv_iload_n hx hb dX13_takesPart_46 rfl (lv_at hl 1 rfl) ?_
  refine lv_istore (i := 4) (lv' := [(4, .int v2_5), (1, .int v1_5), (2, .int v2_5), (3, .int v3_5), (0, rv E (some o))]) hx hb dX13_takesPart_47 hl (by decide) rfl (fun ls hl => ?_)
  refine l_X13_takesPart_L49  C ho _ (fun v1_49 v2_49 v3_49 v4_49 w9 H locs ls hH hl hf => ?_) fu v1_5 v2_5 v3_5 v2_5 w1 _ _ _ hH (lv_sub hl [1, 2, 3, 0, 4] rfl) hf
  exact hw_vret hx hb hret hf hH hlocks dX13_takesPart_151

theorem dX13_fewestOfficers_0 : decode cX13_fewestOfficers 0 = .ok (.aload_n 0, 1) := by decide +kernel
theorem dX13_fewestOfficers_1 : decode cX13_fewestOfficers 1 = .ok (.iconst 0, 1) := by decide +kernel
theorem dX13_fewestOfficers_2 : decode cX13_fewestOfficers 2 = .ok (.putfield 104, 3) := by decide +kernel
theorem dX13_fewestOfficers_5 : decode cX13_fewestOfficers 5 = .ok (.iconst 1, 1) := by decide +kernel
theorem dX13_fewestOfficers_6 : decode cX13_fewestOfficers 6 = .ok (.aload_n 0, 1) := by decide +kernel
theorem dX13_fewestOfficers_7 : decode cX13_fewestOfficers 7 = .ok (.getfield 7, 3) := by decide +kernel
theorem dX13_fewestOfficers_10 : decode cX13_fewestOfficers 10 = .ok (.iconst 3, 1) := by decide +kernel
theorem dX13_fewestOfficers_11 : decode cX13_fewestOfficers 11 = .ok (.iaload, 1) := by decide +kernel
theorem dX13_fewestOfficers_12 : decode cX13_fewestOfficers 12 = .ok (.ishl, 1) := by decide +kernel
theorem dX13_fewestOfficers_13 : decode cX13_fewestOfficers 13 = .ok (.iconst 1, 1) := by decide +kernel
theorem dX13_fewestOfficers_14 : decode cX13_fewestOfficers 14 = .ok (.isub, 1) := by decide +kernel
theorem dX13_fewestOfficers_15 : decode cX13_fewestOfficers 15 = .ok (.istore_n 1, 1) := by decide +kernel
theorem dX13_fewestOfficers_16 : decode cX13_fewestOfficers 16 = .ok (.aload_n 0, 1) := by decide +kernel
theorem dX13_fewestOfficers_17 : decode cX13_fewestOfficers 17 = .ok (.iload_n 1, 1) := by decide +kernel
theorem dX13_fewestOfficers_18 : decode cX13_fewestOfficers 18 = .ok (.invokevirtual 324, 3) := by decide +kernel
theorem dX13_fewestOfficers_21 : decode cX13_fewestOfficers 21 = .ok (.aload_n 0, 1) := by decide +kernel
theorem dX13_fewestOfficers_22 : decode cX13_fewestOfficers 22 = .ok (.getfield 54, 3) := by decide +kernel
theorem dX13_fewestOfficers_25 : decode cX13_fewestOfficers 25 = .ok (.iconst 0, 1) := by decide +kernel
theorem dX13_fewestOfficers_26 : decode cX13_fewestOfficers 26 = .ok (.iconst 0, 1) := by decide +kernel
theorem dX13_fewestOfficers_27 : decode cX13_fewestOfficers 27 = .ok (.iastore, 1) := by decide +kernel
theorem dX13_fewestOfficers_28 : decode cX13_fewestOfficers 28 = .ok (.iconst 1, 1) := by decide +kernel
theorem dX13_fewestOfficers_29 : decode cX13_fewestOfficers 29 = .ok (.istore_n 2, 1) := by decide +kernel
theorem dX13_fewestOfficers_30 : decode cX13_fewestOfficers 30 = .ok (.iload_n 2, 1) := by decide +kernel
theorem dX13_fewestOfficers_31 : decode cX13_fewestOfficers 31 = .ok (.iload_n 1, 1) := by decide +kernel
theorem dX13_fewestOfficers_32 : decode cX13_fewestOfficers 32 = .ok (.if_icmp .gt 16, 3) := by decide +kernel
theorem dX13_fewestOfficers_35 : decode cX13_fewestOfficers 35 = .ok (.aload_n 0, 1) := by decide +kernel
theorem dX13_fewestOfficers_36 : decode cX13_fewestOfficers 36 = .ok (.getfield 54, 3) := by decide +kernel
theorem dX13_fewestOfficers_39 : decode cX13_fewestOfficers 39 = .ok (.iload_n 2, 1) := by decide +kernel
theorem dX13_fewestOfficers_40 : decode cX13_fewestOfficers 40 = .ok (.iconst (-1), 1) := by decide +kernel
theorem dX13_fewestOfficers_41 : decode cX13_fewestOfficers 41 = .ok (.iastore, 1) := by decide +kernel
theorem dX13_fewestOfficers_42 : decode cX13_fewestOfficers 42 = .ok (.iinc 2 1, 3) := by decide +kernel
theorem dX13_fewestOfficers_45 : decode cX13_fewestOfficers 45 = .ok (.goto (-15), 3) := by decide +kernel
theorem dX13_fewestOfficers_48 : decode cX13_fewestOfficers 48 = .ok (.iconst 0, 1) := by decide +kernel
theorem dX13_fewestOfficers_49 : decode cX13_fewestOfficers 49 = .ok (.istore_n 2, 1) := by decide +kernel
theorem dX13_fewestOfficers_50 : decode cX13_fewestOfficers 50 = .ok (.iload_n 2, 1) := by decide +kernel
theorem dX13_fewestOfficers_51 : decode cX13_fewestOfficers 51 = .ok (.aload_n 0, 1) := by decide +kernel
theorem dX13_fewestOfficers_52 : decode cX13_fewestOfficers 52 = .ok (.getfield 7, 3) := by decide +kernel
theorem dX13_fewestOfficers_55 : decode cX13_fewestOfficers 55 = .ok (.iconst 1, 1) := by decide +kernel
theorem dX13_fewestOfficers_56 : decode cX13_fewestOfficers 56 = .ok (.iaload, 1) := by decide +kernel
theorem dX13_fewestOfficers_57 : decode cX13_fewestOfficers 57 = .ok (.if_icmp .ge 15, 3) := by decide +kernel
theorem dX13_fewestOfficers_60 : decode cX13_fewestOfficers 60 = .ok (.aload_n 0, 1) := by decide +kernel
theorem dX13_fewestOfficers_61 : decode cX13_fewestOfficers 61 = .ok (.iload_n 2, 1) := by decide +kernel
theorem dX13_fewestOfficers_62 : decode cX13_fewestOfficers 62 = .ok (.iload_n 1, 1) := by decide +kernel
theorem dX13_fewestOfficers_63 : decode cX13_fewestOfficers 63 = .ok (.invokevirtual 328, 3) := by decide +kernel
theorem dX13_fewestOfficers_66 : decode cX13_fewestOfficers 66 = .ok (.iinc 2 1, 3) := by decide +kernel
theorem dX13_fewestOfficers_69 : decode cX13_fewestOfficers 69 = .ok (.goto (-19), 3) := by decide +kernel
theorem dX13_fewestOfficers_72 : decode cX13_fewestOfficers 72 = .ok (.aload_n 0, 1) := by decide +kernel
theorem dX13_fewestOfficers_73 : decode cX13_fewestOfficers 73 = .ok (.getfield 54, 3) := by decide +kernel
theorem dX13_fewestOfficers_76 : decode cX13_fewestOfficers 76 = .ok (.iload_n 1, 1) := by decide +kernel
theorem dX13_fewestOfficers_77 : decode cX13_fewestOfficers 77 = .ok (.iaload, 1) := by decide +kernel
theorem dX13_fewestOfficers_78 : decode cX13_fewestOfficers 78 = .ok (.ireturn, 1) := by decide +kernel
theorem hd_X13_fewestOfficers : yX13_fewestOfficers.cls = RX13 ∧ yX13_fewestOfficers.cls ≠ "java/lang/invoke/MethodHandle" ∧ yX13_fewestOfficers.cls ≠ "java/lang/invoke/VarHandle" ∧ (parseMethodDescriptor yX13_fewestOfficers.desc).map (fun d => d.parameters.length) = some 0 := by decide +kernel
theorem hs_X13_fewestOfficers : yX13_fewestOfficers.cls ≠ "java/lang/invoke/MethodHandle" ∧ yX13_fewestOfficers.cls ≠ "java/lang/invoke/VarHandle" ∧ (parseMethodDescriptor yX13_fewestOfficers.desc).map (fun d => d.parameters.length) = some 0 := by decide +kernel
set_option maxHeartbeats 4000000 in
set_option maxRecDepth 100000 in
theorem l_X13_fewestOfficers_L30 (C : CX p l e s m args meth c cX13_fewestOfficers 3 RX13 (Option.some Jvm.ClassFile.FieldType.int) E) {o : Nat} (ho : K o = some (11, 0)) {r : Int32} {w' : Wd} (k : Int32 → Int32 → Wd → Option (Int32 × Wd)) (hk : ∀ (v1_30 : Int32) (v2_30 : Int32) (w : Wd) (H : Heap) (locs : List Loc) (ls : Array Slot), HQ E K z w s H locs → lv_has ls 3 [(1, .int v1_30), (2, .int v2_30), (0, rv E (some o))] → k v1_30 v2_30 w = some (r, w') → W p l e ({ frames := 2, cells := 0, slots := 0, locals := 48 } : Room) s m args below meth c H locs 0 0 (MQ below (QI E K z w' r) args s 0 0 (hA E)) (F0 m 48 ls [])) : ∀ (n : Nat) (v1_30 : Int32) (v2_30 : Int32) (w : Wd) (H : Heap) (locs : List Loc) (ls : Array Slot), HQ E K z w s H locs → lv_has ls 3 [(1, .int v1_30), (2, .int v2_30), (0, rv E (some o))] → f_X13_fewestOfficers_L30 K o k n v1_30 v2_30 w = some (r, w') → W p l e ({ frames := 2, cells := 0, slots := 0, locals := 48 } : Room) s m args below meth c H locs 0 0 (MQ below (QI E K z w' r) args s 0 0 (hA E)) (F0 m 30 ls []) := by
  obtain ⟨hx, hb, hml, hown, hts, hKs, hT, hb0, hlocks, hret⟩ := id C
  intro n
  induction n with
  | zero =>
    intro v1_30 v2_30 w H locs ls hH hl hf
    cases hf
  | succ n ih =>
    intro v1_30 v2_30 w H locs ls hH hl hf
    rw [f_X13_fewestOfficers_L30] at hf
    refine lv_iload_n hx hb dX13_fewestOfficers_30 rfl (lv_at hl 1 rfl) ?_
    refine lv_iload_n hx hb dX13_fewestOfficers_31 rfl (lv_at hl 0 rfl) ?_
    refine lv_icmp_gt (tgt := 48) hx hb dX13_fewestOfficers_32 (by decide) (fun c9 => ?_) (fun c9 => ?_)
    · replace hf := (if_pos c9).symm.trans hf
      exact hk v1_30 v2_30 _ _ _ _ hH (lv_sub hl [0, 1, 2] rfl) hf
    · replace hf := (if_neg c9).symm.trans hf
      refine hl_aload_n hx hb dX13_fewestOfficers_35 rfl (lv_at hl 2 rfl) ?_
      refine g13_21 hx hb hts hown hKs hH rfl ho m6_202 dX13_fewestOfficers_36 ?_
      refine lv_iload_n hx hb dX13_fewestOfficers_39 rfl (lv_at hl 1 rfl) ?_
      refine lv_iconst (v := (-1)) hx hb dX13_fewestOfficers_40 (by decide) ?_
      obtain ⟨a10, ha10, hf⟩ := bnd hf
      replace ha10 := cha_some ha10
      obtain ⟨j11, hj11, hf⟩ := bnd hf
      obtain ⟨w12, hw12, hf⟩ := bnd hf
      replace hw12 := Option.some.inj hw12
      refine hw_iast (x := (-1)) hx hb hKs hH ha10.1 ha10.2 hj11 dX13_fewestOfficers_41 (fun H locs hH => ?_)
      rw [hw12] at hH
      refine lv_iinc (v := (v2_30 + 1)) (lv' := [(2, .int ((v2_30 + 1))), (1, .int v1_30), (0, rv E (some o))]) hx hb dX13_fewestOfficers_42 hl (k := 1) rfl rfl (by decide) rfl (fun ls hl => ?_)
      refine lv_goto (tgt := 30) hx hb dX13_fewestOfficers_45 (by decide) ?_
      exact ih v1_30 (v2_30 + 1) _ _ _ _ hH (lv_sub hl [1, 0, 2] rfl) hf
set_option maxHeartbeats 4000000 in
set_option maxRecDepth 100000 in
theorem l_X13_fewestOfficers_L50 (C : CX p l e s m args meth c cX13_fewestOfficers 3 RX13 (Option.some Jvm.ClassFile.FieldType.int) E) {o : Nat} (ho : K o = some (11, 0)) {r : Int32} {w' : Wd} (k : Int32 → Int32 → Wd → Option (Int32 × Wd)) (hk : ∀ (v1_50 : Int32) (v2_50 : Int32) (w : Wd) (H : Heap) (locs : List Loc) (ls : Array Slot), HQ E K z w s H locs → lv_has ls 3 [(1, .int v1_50), (2, .int v2_50), (0, rv E (some o))] → k v1_50 v2_50 w = some (r, w') → W p l e ({ frames := 2, cells := 0, slots := 0, locals := 48 } : Room) s m args below meth c H locs 0 0 (MQ below (QI E K z w' r) args s 0 0 (hA E)) (F0 m 72 ls [])) : ∀ (n : Nat) (v1_50 : Int32) (v2_50 : Int32) (w : Wd) (H : Heap) (locs : List Loc) (ls : Array Slot), HQ E K z w s H locs → lv_has ls 3 [(1, .int v1_50), (2, .int v2_50), (0, rv E (some o))] → f_X13_fewestOfficers_L50 K o k n v1_50 v2_50 w = some (r, w') → W p l e ({ frames := 2, cells := 0, slots := 0, locals := 48 } : Room) s m args below meth c H locs 0 0 (MQ below (QI E K z w' r) args s 0 0 (hA E)) (F0 m 50 ls []) := by
  obtain ⟨hx, hb, hml, hown, hts, hKs, hT, hb0, hlocks, hret⟩ := id C
  intro n
  induction n with
  | zero =>
    intro v1_50 v2_50 w H locs ls hH hl hf
    cases hf
  | succ n ih =>
    intro v1_50 v2_50 w H locs ls hH hl hf
    rw [f_X13_fewestOfficers_L50] at hf
    refine lv_iload_n hx hb dX13_fewestOfficers_50 rfl (lv_at hl 1 rfl) ?_
    refine hl_aload_n hx hb dX13_fewestOfficers_51 rfl (lv_at hl 2 rfl) ?_
    refine g13_1 hx hb hts hown hKs hH rfl ho m6_182 dX13_fewestOfficers_52 ?_
    refine lv_iconst (v := 1) hx hb dX13_fewestOfficers_55 (by decide) ?_
    obtain ⟨a14, ha14, hf⟩ := bnd hf
    replace ha14 := cha_some ha14
    obtain ⟨j15, hj15, hf⟩ := bnd hf
    refine hw_iald hx hb hKs hH ha14.1 ha14.2 hj15 dX13_fewestOfficers_56 ?_
    refine lv_icmp_ge (tgt := 72) hx hb dX13_fewestOfficers_57 (by decide) (fun c16 => ?_) (fun c16 => ?_)
    · replace hf := (if_pos c16).symm.trans hf
      exact hk v1_50 v2_50 _ _ _ _ hH (lv_sub hl [0, 1, 2] rfl) hf
    · replace hf := (if_neg c16).symm.trans hf
      refine hl_aload_n hx hb dX13_fewestOfficers_60 rfl (lv_at hl 2 rfl) ?_
      refine lv_iload_n hx hb dX13_fewestOfficers_61 rfl (lv_at hl 1 rfl) ?_
      refine lv_iload_n hx hb dX13_fewestOfficers_62 rfl (lv_at hl 0 rfl) ?_
      obtain ⟨q17, hq17, hf⟩ := bnd hf
      refine hcV_v hx hb hml hown hts hKs hT hb0 hH (As := [.int v2_50, .int v1_50]) (rest := []) (k_X13_takesPart l E K H.size o v2_50 v1_50 w ho hq17) (gV m8_201 m8_203 ms_99 m1_16 m8_204) hd_X13_takesPart ⟨Nat.le_of_ble_eq_true rfl, Nat.le_of_ble_eq_true rfl, rfl, rfl⟩ rfl ho rfl rfl rfl hl.1 rfl rc0 rfl dX13_fewestOfficers_63 ⟨Nat.zero_le _, Nat.zero_le _⟩ (fun H locs hH => ?_)
      refine lv_iinc (v := (v2_50 + 1)) (lv' := [(2, .int ((v2_50 + 1))), (1, .int v1_50), (0, rv E (some o))]) hx hb dX13_fewestOfficers_66 hl (k := 1) rfl rfl (by decide) rfl (fun ls hl => ?_)
      refine lv_goto (tgt := 50) hx hb dX13_fewestOfficers_69 (by decide) ?_
      exact ih v1_50 (v2_50 + 1) _ _ _ _ hH (lv_sub hl [1, 0, 2] rfl) hf
set_option maxHeartbeats 4000000 in
set_option maxRecDepth 100000 in
theorem k_X13_fewestOfficers (l : Launch) (E : Ev) (K : Kd) (z : Nat) (o : Nat) (w : Wd) (ho : K o = some (11, 0)) {r : Int32} {w' : Wd} (hf : f_X13_fewestOfficers K o w = some (r, w')) : Met l yX13_fewestOfficers (Cond.code yX13_fewestOfficers cX13_fewestOfficers 3 (Option.some Jvm.ClassFile.FieldType.int) :: bt) ({ frames := 2, cells := 0, slots := 0, locals := 48 } : Room) (va_Pc [rv E (some o)] (HB E K w z)) (QI E K z w' r) 0 0 (hA E) := by
  refine Met.ofW (cc := cX13_fewestOfficers) (maxL := 3) (ret := (Option.some Jvm.ClassFile.FieldType.int)) (by decide) rfl ?_
  intro p e s m args below meth c s₁ B hml hv
  obtain ⟨rfl, hz, hP, hKs, hT, hb0⟩ := hv
  have C : CX p l e s m _ meth c cX13_fewestOfficers 3 RX13 (Option.some Jvm.ClassFile.FieldType.int) E := ⟨B.exec, B.bytes, hml, findClass_of_methodNamed B.named, fun w h => atoms_spec (ws := Cond.code yX13_fewestOfficers cX13_fewestOfficers 3 (Option.some Jvm.ClassFile.FieldType.int) :: bt) B.pre w (List.mem_cons_of_mem _ h), hKs, hT, by rw [hz]; exact hb0, B.notSynchronized, B.returns⟩
  have hH : HQ E K z w s s.heap [] := ⟨hP, va_S.rf, hz⟩
  obtain ⟨hx, hb, hml, hown, hts, hKs, hT, hb0, hlocks, hret⟩ := id C
  have hl := lv_entry [rv E (some o)] (n := 3) (by simp [lg_len_nil, lg_len_i, lg_len_j, lg_len_q, lg_len_f, lg_len_d, lg_len_r])
  rw [lg_entry_eq]
  generalize (lg_sl [rv E (some o)] ++ List.replicate (3 - (lg_sl [rv E (some o)]).length) Slot.unset).toArray = ls at hl ⊢
  replace hl : lv_has ls 3 [(0, rv E (some o))] := by simpa only [lv_args, cat_q, cat_i, cat_j, reduceIte, Nat.reduceEqDiff, Nat.reduceAdd, Nat.zero_add] using hl
  generalize s.heap = H at hH ⊢
  unfold f_X13_fewestOfficers at hf
  refine hl_aload_n hx hb dX13_fewestOfficers_0 rfl (lv_at hl 0 rfl) ?_
  refine lv_iconst (v := 0) hx hb dX13_fewestOfficers_1 (by decide) ?_
  obtain ⟨w1, hw1, hf⟩ := bnd hf
  replace hw1 := Option.some.inj hw1
  refine p13_0 (v := 0) hx hb hts hown hKs hH rfl ho m6_181 dX13_fewestOfficers_2 (fun H locs hH => ?_)
  rw [hw1] at hH
  refine lv_iconst (v := 1) hx hb dX13_fewestOfficers_5 (by decide) ?_
  refine hl_aload_n hx hb dX13_fewestOfficers_6 rfl (lv_at hl 0 rfl) ?_
  refine g13_1 hx hb hts hown hKs hH rfl ho m6_182 dX13_fewestOfficers_7 ?_
  refine lv_iconst (v := 3) hx hb dX13_fewestOfficers_10 (by decide) ?_
  obtain ⟨a2, ha2, hf⟩ := bnd hf
  replace ha2 := cha_some ha2
  obtain ⟨j3, hj3, hf⟩ := bnd hf
  refine hw_iald hx hb hKs hH ha2.1 ha2.2 hj3 dX13_fewestOfficers_11 ?_
  refine lv_ishl hx hb dX13_fewestOfficers_12 ?_
  refine lv_iconst (v := 1) hx hb dX13_fewestOfficers_13 (by decide) ?_
  refine lv_isub hx hb dX13_fewestOfficers_14 ?_
  refine lv_istore_n (i := 1) (lv' := [(1, .int (((1 <<< ((aI w1 a2.1 j3) &&& 31)) - 1))), (0, rv E (some o))]) hx hb dX13_fewestOfficers_15 rfl hl (by decide) rfl (fun ls hl => ?_)
  refine hl_aload_n hx hb dX13_fewestOfficers_16 rfl (lv_at hl 1 rfl) ?_
  refine lv_iload_n hx hb dX13_fewestOfficers_17 rfl (lv_at hl 0 rfl) ?_
  obtain ⟨q4, hq4, hf⟩ := bnd hf
  refine hcV_v hx hb hml hown hts hKs hT hb0 hH (As := [.int (((1 <<< ((aI w1 a2.1 j3) &&& 31)) - 1))]) (rest := []) (k_X13_laysPeaceful l E K H.size o ((1 <<< ((aI w1 a2.1 j3) &&& 31)) - 1) w1 ho hq4) (gV m8_197 m8_199 ms_98 m1_16 m8_200) hd_X13_laysPeaceful ⟨Nat.le_of_ble_eq_true rfl, Nat.le_of_ble_eq_true rfl, rfl, rfl⟩ rfl ho rfl rfl rfl hl.1 rfl rc0 rfl dX13_fewestOfficers_18 ⟨Nat.zero_le _, Nat.zero_le _⟩ (fun H locs hH => ?_)
  refine hl_aload_n hx hb dX13_fewestOfficers_21 rfl (lv_at hl 1 rfl) ?_
  refine g13_21 hx hb hts hown hKs hH rfl ho m6_202 dX13_fewestOfficers_22 ?_
  refine lv_iconst (v := 0) hx hb dX13_fewestOfficers_25 (by decide) ?_
  refine lv_iconst (v := 0) hx hb dX13_fewestOfficers_26 (by decide) ?_
  obtain ⟨a5, ha5, hf⟩ := bnd hf
  replace ha5 := cha_some ha5
  obtain ⟨j6, hj6, hf⟩ := bnd hf
  obtain ⟨w7, hw7, hf⟩ := bnd hf
  replace hw7 := Option.some.inj hw7
  refine hw_iast (x := 0) hx hb hKs hH ha5.1 ha5.2 hj6 dX13_fewestOfficers_27 (fun H locs hH => ?_)
  rw [hw7] at hH
  refine lv_iconst (v := 1) hx hb dX13_fewestOfficers_28 (by decide) ?_
  refine lv_istore_n (i := 2) (lv' := [(2, .int 1), (1, .int (((1 <<< ((aI w1 a2.1 j3) &&& 31)) - 1))), (0, rv E (some o))]) hx hb dX13_fewestOfficers_29 rfl hl (by decide) rfl (fun ls hl => ?_)
  refine l_X13_fewestOfficers_L30  C ho _ (fun v1_30 v2_30 w8 H locs ls hH hl hf => ?_) fu ((1 <<< ((aI w1 a2.1 j3) &&& 31)) - 1) 1 w7 _ _ _ hH (lv_sub hl [1, 0, 2] rfl) hf
  refine lv_iconst (v := 0) hx hb dX13_fewestOfficers_48 (by decide) ?_
  refine lv_istore_n (i := 2) (lv' := [(2, .int 0), (1, .int v1_30), (0, rv E (some o))]) hx hb dX13_fewestOfficers_49 rfl hl (by decide) rfl (fun ls hl => ?_)
  refine l_X13_fewestOfficers_L50  C ho _ (fun v1_50 v2_50 w13 H locs ls hH hl hf => ?_) fu v1_30 0 w8 _ _ _ hH (lv_sub hl [1, 0, 2] rfl) hf
  refine hl_aload_n hx hb dX13_fewestOfficers_72 rfl (lv_at hl 2 rfl) ?_
  refine g13_21 hx hb hts hown hKs hH rfl ho m6_202 dX13_fewestOfficers_73 ?_
  refine lv_iload_n hx hb dX13_fewestOfficers_76 rfl (lv_at hl 0 rfl) ?_
  obtain ⟨a18, ha18, hf⟩ := bnd hf
  replace ha18 := cha_some ha18
  obtain ⟨j19, hj19, hf⟩ := bnd hf
  refine hw_iald hx hb hKs hH ha18.1 ha18.2 hj19 dX13_fewestOfficers_77 ?_
  exact hw_iret hx hb hret hf hH hlocks dX13_fewestOfficers_78

theorem dX13_feed_0 : decode cX13_feed 0 = .ok (.aload_n 0, 1) := by decide +kernel
theorem dX13_feed_1 : decode cX13_feed 1 = .ok (.iconst 0, 1) := by decide +kernel
theorem dX13_feed_2 : decode cX13_feed 2 = .ok (.putfield 104, 3) := by decide +kernel
theorem dX13_feed_5 : decode cX13_feed 5 = .ok (.aload_n 0, 1) := by decide +kernel
theorem dX13_feed_6 : decode cX13_feed 6 = .ok (.getfield 331, 3) := by decide +kernel
theorem dX13_feed_9 : decode cX13_feed 9 = .ok (.bipush 20, 2) := by decide +kernel
theorem dX13_feed_11 : decode cX13_feed 11 = .ok (.iadd, 1) := by decide +kernel
theorem dX13_feed_12 : decode cX13_feed 12 = .ok (.sipush 900, 3) := by decide +kernel
theorem dX13_feed_15 : decode cX13_feed 15 = .ok (.if_icmp .le 5, 3) := by decide +kernel
theorem dX13_feed_18 : decode cX13_feed 18 = .ok (.iconst (-1), 1) := by decide +kernel
theorem dX13_feed_19 : decode cX13_feed 19 = .ok (.ireturn, 1) := by decide +kernel
theorem dX13_feed_20 : decode cX13_feed 20 = .ok (.iconst 0, 1) := by decide +kernel
theorem dX13_feed_21 : decode cX13_feed 21 = .ok (.istore 6, 2) := by decide +kernel
theorem dX13_feed_23 : decode cX13_feed 23 = .ok (.iload 6, 2) := by decide +kernel
theorem dX13_feed_25 : decode cX13_feed 25 = .ok (.bipush 20, 2) := by decide +kernel
theorem dX13_feed_27 : decode cX13_feed 27 = .ok (.if_icmp .ge 90, 3) := by decide +kernel
theorem dX13_feed_30 : decode cX13_feed 30 = .ok (.iload 6, 2) := by decide +kernel
theorem dX13_feed_32 : decode cX13_feed 32 = .ok (.iconst 4, 1) := by decide +kernel
theorem dX13_feed_33 : decode cX13_feed 33 = .ok (.if_icmp .ge 7, 3) := by decide +kernel
theorem dX13_feed_36 : decode cX13_feed 36 = .ok (.iload_n 1, 1) := by decide +kernel
theorem dX13_feed_37 : decode cX13_feed 37 = .ok (.goto 39, 3) := by decide +kernel
theorem dX13_feed_40 : decode cX13_feed 40 = .ok (.iload 6, 2) := by decide +kernel
theorem dX13_feed_42 : decode cX13_feed 42 = .ok (.bipush 8, 2) := by decide +kernel
theorem dX13_feed_44 : decode cX13_feed 44 = .ok (.if_icmp .ge 7, 3) := by decide +kernel
theorem dX13_feed_47 : decode cX13_feed 47 = .ok (.iload_n 2, 1) := by decide +kernel
theorem dX13_feed_48 : decode cX13_feed 48 = .ok (.goto 28, 3) := by decide +kernel
theorem dX13_feed_51 : decode cX13_feed 51 = .ok (.iload 6, 2) := by decide +kernel
theorem dX13_feed_53 : decode cX13_feed 53 = .ok (.bipush 12, 2) := by decide +kernel
theorem dX13_feed_55 : decode cX13_feed 55 = .ok (.if_icmp .ge 7, 3) := by decide +kernel
theorem dX13_feed_58 : decode cX13_feed 58 = .ok (.iload_n 3, 1) := by decide +kernel
theorem dX13_feed_59 : decode cX13_feed 59 = .ok (.goto 17, 3) := by decide +kernel
theorem dX13_feed_62 : decode cX13_feed 62 = .ok (.iload 6, 2) := by decide +kernel
theorem dX13_feed_64 : decode cX13_feed 64 = .ok (.bipush 16, 2) := by decide +kernel
theorem dX13_feed_66 : decode cX13_feed 66 = .ok (.if_icmp .ge 8, 3) := by decide +kernel
theorem dX13_feed_69 : decode cX13_feed 69 = .ok (.iload 4, 2) := by decide +kernel
theorem dX13_feed_71 : decode cX13_feed 71 = .ok (.goto 5, 3) := by decide +kernel
theorem dX13_feed_74 : decode cX13_feed 74 = .ok (.iload 5, 2) := by decide +kernel
theorem dX13_feed_76 : decode cX13_feed 76 = .ok (.istore 7, 2) := by decide +kernel
theorem dX13_feed_78 : decode cX13_feed 78 = .ok (.aload_n 0, 1) := by decide +kernel
theorem dX13_feed_79 : decode cX13_feed 79 = .ok (.getfield 61, 3) := by decide +kernel
theorem dX13_feed_82 : decode cX13_feed 82 = .ok (.aload_n 0, 1) := by decide +kernel
theorem dX13_feed_83 : decode cX13_feed 83 = .ok (.getfield 331, 3) := by decide +kernel
theorem dX13_feed_86 : decode cX13_feed 86 = .ok (.iload 7, 2) := by decide +kernel
theorem dX13_feed_88 : decode cX13_feed 88 = .ok (.bipush 24, 2) := by decide +kernel
theorem dX13_feed_90 : decode cX13_feed 90 = .ok (.bipush 8, 2) := by decide +kernel
theorem dX13_feed_92 : decode cX13_feed 92 = .ok (.iload 6, 2) := by decide +kernel
theorem dX13_feed_94 : decode cX13_feed 94 = .ok (.iconst 4, 1) := by decide +kernel
theorem dX13_feed_95 : decode cX13_feed 95 = .ok (.irem, 1) := by decide +kernel
theorem dX13_feed_96 : decode cX13_feed 96 = .ok (.imul, 1) := by decide +kernel
theorem dX13_feed_97 : decode cX13_feed 97 = .ok (.isub, 1) := by decide +kernel
theorem dX13_feed_98 : decode cX13_feed 98 = .ok (.ishr, 1) := by decide +kernel
theorem dX13_feed_99 : decode cX13_feed 99 = .ok (.i2b, 1) := by decide +kernel
theorem dX13_feed_100 : decode cX13_feed 100 = .ok (.bastore, 1) := by decide +kernel
theorem dX13_feed_101 : decode cX13_feed 101 = .ok (.aload_n 0, 1) := by decide +kernel
theorem dX13_feed_102 : decode cX13_feed 102 = .ok (.aload_n 0, 1) := by decide +kernel
theorem dX13_feed_103 : decode cX13_feed 103 = .ok (.getfield 331, 3) := by decide +kernel
theorem dX13_feed_106 : decode cX13_feed 106 = .ok (.iconst 1, 1) := by decide +kernel
theorem dX13_feed_107 : decode cX13_feed 107 = .ok (.iadd, 1) := by decide +kernel
theorem dX13_feed_108 : decode cX13_feed 108 = .ok (.putfield 331, 3) := by decide +kernel
theorem dX13_feed_111 : decode cX13_feed 111 = .ok (.iinc 6 1, 3) := by decide +kernel
theorem dX13_feed_114 : decode cX13_feed 114 = .ok (.goto (-91), 3) := by decide +kernel
theorem dX13_feed_117 : decode cX13_feed 117 = .ok (.aload_n 0, 1) := by decide +kernel
theorem dX13_feed_118 : decode cX13_feed 118 = .ok (.getfield 331, 3) := by decide +kernel
theorem dX13_feed_121 : decode cX13_feed 121 = .ok (.ireturn, 1) := by decide +kernel
theorem hd_X13_feed : yX13_feed.cls = RX13 ∧ yX13_feed.cls ≠ "java/lang/invoke/MethodHandle" ∧ yX13_feed.cls ≠ "java/lang/invoke/VarHandle" ∧ (parseMethodDescriptor yX13_feed.desc).map (fun d => d.parameters.length) = some 5 := by decide +kernel
theorem hs_X13_feed : yX13_feed.cls ≠ "java/lang/invoke/MethodHandle" ∧ yX13_feed.cls ≠ "java/lang/invoke/VarHandle" ∧ (parseMethodDescriptor yX13_feed.desc).map (fun d => d.parameters.length) = some 5 := by decide +kernel
set_option maxHeartbeats 4000000 in
set_option maxRecDepth 100000 in
theorem l_X13_feed_L23 (C : CX p l e s m args meth c cX13_feed 8 RX13 (Option.some Jvm.ClassFile.FieldType.int) E) {o : Nat} (ho : K o = some (11, 0)) {r : Int32} {w' : Wd} (k : Int32 → Int32 → Int32 → Int32 → Int32 → Int32 → Wd → Option (Int32 × Wd)) (hk : ∀ (v1_23 : Int32) (v2_23 : Int32) (v3_23 : Int32) (v4_23 : Int32) (v5_23 : Int32) (v6_23 : Int32) (w : Wd) (H : Heap) (locs : List Loc) (ls : Array Slot), HQ E K z w s H locs → lv_has ls 8 [(1, .int v1_23), (2, .int v2_23), (3, .int v3_23), (4, .int v4_23), (5, .int v5_23), (6, .int v6_23), (0, rv E (some o))] → k v1_23 v2_23 v3_23 v4_23 v5_23 v6_23 w = some (r, w') → W p l e ({ frames := 0, cells := 0, slots := 0, locals := 0 } : Room) s m args below meth c H locs 0 0 (MQ below (QI E K z w' r) args s 0 0 (hA E)) (F0 m 117 ls [])) : ∀ (n : Nat) (v1_23 : Int32) (v2_23 : Int32) (v3_23 : Int32) (v4_23 : Int32) (v5_23 : Int32) (v6_23 : Int32) (w : Wd) (H : Heap) (locs : List Loc) (ls : Array Slot), HQ E K z w s H locs → lv_has ls 8 [(1, .int v1_23), (2, .int v2_23), (3, .int v3_23), (4, .int v4_23), (5, .int v5_23), (6, .int v6_23), (0, rv E (some o))] → f_X13_feed_L23 K o k n v1_23 v2_23 v3_23 v4_23 v5_23 v6_23 w = some (r, w') → W p l e ({ frames := 0, cells := 0, slots := 0, locals := 0 } : Room) s m args below meth c H locs 0 0 (MQ below (QI E K z w' r) args s 0 0 (hA E)) (F0 m 23 ls []) := by
  obtain ⟨hx, hb, hml, hown, hts, hKs, hT, hb0, hlocks, hret⟩ := id C
  intro n
  induction n with
  | zero =>
    intro v1_23 v2_23 v3_23 v4_23 v5_23 v6_23 w H locs ls hH hl hf
    cases hf
  | succ n ih =>
    intro v1_23 v2_23 v3_23 v4_23 v5_23 v6_23 w H locs ls hH hl hf
    rw [f_X13_feed_L23] at hf
    refine lv_iload hx hb dX13_feed_23 (lv_at hl 5 rfl) ?_
    refine lv_bipush (v := 20) hx hb dX13_feed_25 (by decide) ?_
    refine lv_icmp_ge (tgt := 117) hx hb dX13_feed_27 (by decide) (fun c4 => ?_) (fun c4 => ?_)
    · replace hf := (if_pos c4).symm.trans hf
      exact hk v1_23 v2_23 v3_23 v4_23 v5_23 v6_23 _ _ _ _ hH (lv_sub hl [0, 1, 2, 3, 4, 5, 6] rfl) hf
    · replace hf := (if_neg c4).symm.trans hf
      refine lv_iload hx hb dX13_feed_30 (lv_at hl 5 rfl) ?_
      refine lv_iconst (v := 4) hx hb dX13_feed_32 (by decide) ?_
      refine lv_icmp_ge (tgt := 40) hx hb dX13_feed_33 (by decide) (fun c5 => ?_) (fun c5 => ?_)
      · replace hf := (if_pos c5).symm.trans hf
        refine lv_iload hx hb dX13_feed_40 (lv_at hl 5 rfl) ?_
        refine lv_bipush (v := 8) hx hb dX13_feed_42 (by decide) ?_
        refine lv_icmp_ge (tgt := 51) hx hb dX13_feed_44 (by decide) (fun c6 => ?_) (fun c6 => ?_)
        · replace hf := (if_pos c6).symm.trans hf
          refine lv_iload hx hb dX13_feed_51 (lv_at hl 5 rfl) ?_
          refine lv_bipush (v := 12) hx hb dX13_feed_53 (by decide) ?_
          refine lv_icmp_ge (tgt := 62) hx hb dX13_feed_55 (by decide) (fun c7 => ?_) (fun c7 => ?_)
          · replace hf := (if_pos c7).symm.trans hf
            refine lv_iload hx hb dX13_feed_62 (lv_at hl 5 rfl) ?_
            refine lv_bipush (v := 16) hx hb dX13_feed_64 (by decide) ?_
            refine lv_icmp_ge (tgt := 74) hx hb dX13_feed_66 (by decide) (fun c8 => ?_) (fun c8 => ?_)
            · replace hf := (if_pos c8).symm.trans hf
              refine lv_iload hx hb dX13_feed_74 (lv_at hl 4 rfl) ?_
              refine lv_istore (i := 7) (lv' := [(7, .int v5_23), (1, .int v1_23), (2, .int v2_23), (3, .int v3_23), (4, .int v4_23), (5, .int v5_23), (6, .int v6_23), (0, rv E (some o))]) hx hb dX13_feed_76 hl (by decide) rfl (fun ls hl => ?_)
              refine hl_aload_n hx hb dX13_feed_78 rfl (lv_at hl 7 rfl) ?_
              refine g13_23 hx hb hts hown hKs hH rfl ho m6_204 dX13_feed_79 ?_
              refine hl_aload_n hx hb dX13_feed_82 rfl (lv_at hl 7 rfl) ?_
              refine g13_24 hx hb hts hown hKs hH rfl ho m6_205 dX13_feed_83 ?_
              refine lv_iload hx hb dX13_feed_86 (lv_at hl 0 rfl) ?_
              refine lv_bipush (v := 24) hx hb dX13_feed_88 (by decide) ?_
              refine lv_bipush (v := 8) hx hb dX13_feed_90 (by decide) ?_
              refine lv_iload hx hb dX13_feed_92 (lv_at hl 6 rfl) ?_
              refine lv_iconst (v := 4) hx hb dX13_feed_94 (by decide) ?_
              refine lv_irem hx hb dX13_feed_95 (by decide) ?_
              refine lv_imul hx hb dX13_feed_96 ?_
              refine lv_isub hx hb dX13_feed_97 ?_
              refine lv_ishr hx hb dX13_feed_98 ?_
              refine lv_i2b (v := ((v5_23 >>> ((24 - (8 * (v6_23 - v6_23 / 4 * 4))) &&& 31)).toInt8.toInt32)) hx hb dX13_feed_99 rfl ?_
              obtain ⟨a9, ha9, hf⟩ := bnd hf
              replace ha9 := cha_some ha9
              obtain ⟨j10, hj10, hf⟩ := bnd hf
              obtain ⟨w11, hw11, hf⟩ := bnd hf
              replace hw11 := Option.some.inj hw11
              refine hw_bast (x := ((v5_23 >>> ((24 - (8 * (v6_23 - v6_23 / 4 * 4))) &&& 31)).toInt8.toInt32)) hx hb hKs hH ha9.1 ha9.2 hj10 dX13_feed_100 (fun H locs hH => ?_)
              rw [hw11] at hH
              refine hl_aload_n hx hb dX13_feed_101 rfl (lv_at hl 7 rfl) ?_
              refine hl_aload_n hx hb dX13_feed_102 rfl (lv_at hl 7 rfl) ?_
              refine g13_24 hx hb hts hown hKs hH rfl ho m6_205 dX13_feed_103 ?_
              refine lv_iconst (v := 1) hx hb dX13_feed_106 (by decide) ?_
              refine lv_iadd hx hb dX13_feed_107 ?_
              obtain ⟨w12, hw12, hf⟩ := bnd hf
              replace hw12 := Option.some.inj hw12
              refine p13_24 (v := ((wI w11 1324 o) + 1)) hx hb hts hown hKs hH rfl ho m6_205 dX13_feed_108 (fun H locs hH => ?_)
              rw [hw12] at hH
              refine lv_iinc (v := (v6_23 + 1)) (lv' := [(6, .int ((v6_23 + 1))), (7, .int v5_23), (1, .int v1_23), (2, .int v2_23), (3, .int v3_23), (4, .int v4_23), (5, .int v5_23), (0, rv E (some o))]) hx hb dX13_feed_111 hl (k := 6) rfl rfl (by decide) rfl (fun ls hl => ?_)
              refine lv_goto (tgt := 23) hx hb dX13_feed_114 (by decide) ?_
              exact ih v1_23 v2_23 v3_23 v4_23 v5_23 (v6_23 + 1) _ _ _ _ hH (lv_sub hl [2, 3, 4, 5, 6, 0, 7] rfl) hf
            · replace hf := (if_neg c8).symm.trans hf
              refine lv_iload hx hb dX13_feed_69 (lv_at hl 3 rfl) ?_
              refine lv_goto (tgt := 76) hx hb dX13_feed_71 (by decide) ?_
              refine lv_istore (i := 7) (lv' := [(7, .int v4_23), (1, .int v1_23), (2, .int v2_23), (3, .int v3_23), (4, .int v4_23), (5, .int v5_23), (6, .int v6_23), (0, rv E (some o))]) hx hb dX13_feed_76 hl (by decide) rfl (fun ls hl => ?_)
              refine hl_aload_n hx hb dX13_feed_78 rfl (lv_at hl 7 rfl) ?_
              refine g13_23 hx hb hts hown hKs hH rfl ho m6_204 dX13_feed_79 ?_
              refine hl_aload_n hx hb dX13_feed_82 rfl (lv_at hl 7 rfl) ?_
              refine g13_24 hx hb hts hown hKs hH rfl ho m6_205 dX13_feed_83 ?_
              refine lv_iload hx hb dX13_feed_86 (lv_at hl 0 rfl) ?_
              refine lv_bipush (v := 24) hx hb dX13_feed_88 (by decide) ?_
              refine lv_bipush (v := 8) hx hb dX13_feed_90 (by decide) ?_
              refine lv_iload hx hb dX13_feed_92 (lv_at hl 6 rfl) ?_
              refine lv_iconst (v := 4) hx hb dX13_feed_94 (by decide) ?_
              refine lv_irem hx hb dX13_feed_95 (by decide) ?_
              refine lv_imul hx hb dX13_feed_96 ?_
              refine lv_isub hx hb dX13_feed_97 ?_
              refine lv_ishr hx hb dX13_feed_98 ?_
              refine lv_i2b (v := ((v4_23 >>> ((24 - (8 * (v6_23 - v6_23 / 4 * 4))) &&& 31)).toInt8.toInt32)) hx hb dX13_feed_99 rfl ?_
              obtain ⟨a13, ha13, hf⟩ := bnd hf
              replace ha13 := cha_some ha13
              obtain ⟨j14, hj14, hf⟩ := bnd hf
              obtain ⟨w15, hw15, hf⟩ := bnd hf
              replace hw15 := Option.some.inj hw15
              refine hw_bast (x := ((v4_23 >>> ((24 - (8 * (v6_23 - v6_23 / 4 * 4))) &&& 31)).toInt8.toInt32)) hx hb hKs hH ha13.1 ha13.2 hj14 dX13_feed_100 (fun H locs hH => ?_)
              rw [hw15] at hH
              refine hl_aload_n hx hb dX13_feed_101 rfl (lv_at hl 7 rfl) ?_
              refine hl_aload_n hx hb dX13_feed_102 rfl (lv_at hl 7 rfl) ?_
              refine g13_24 hx hb hts hown hKs hH rfl ho m6_205 dX13_feed_103 ?_
              refine lv_iconst (v := 1) hx hb dX13_feed_106 (by decide) ?_
              refine lv_iadd hx hb dX13_feed_107 ?_
              obtain ⟨w16, hw16, hf⟩ := bnd hf
              replace hw16 := Option.some.inj hw16
              refine p13_24 (v := ((wI w15 1324 o) + 1)) hx hb hts hown hKs hH rfl ho m6_205 dX13_feed_108 (fun H locs hH => ?_)
              rw [hw16] at hH
              refine lv_iinc (v := (v6_23 + 1)) (lv' := [(6, .int ((v6_23 + 1))), (7, .int v4_23), (1, .int v1_23), (2, .int v2_23), (3, .int v3_23), (4, .int v4_23), (5, .int v5_23), (0, rv E (some o))]) hx hb dX13_feed_111 hl (k := 6) rfl rfl (by decide) rfl (fun ls hl => ?_)
              refine lv_goto (tgt := 23) hx hb dX13_feed_114 (by decide) ?_
              exact ih v1_23 v2_23 v3_23 v4_23 v5_23 (v6_23 + 1) _ _ _ _ hH (lv_sub hl [2, 3, 4, 5, 6, 0, 7] rfl) hf
          · replace hf := (if_neg c7).symm.trans hf
            refine lv_iload_n hx hb dX13_feed_58 rfl (lv_at hl 2 rfl) ?_
            refine lv_goto (tgt := 76) hx hb dX13_feed_59 (by decide) ?_
            refine lv_istore (i := 7) (lv' := [(7, .int v3_23), (1, .int v1_23), (2, .int v2_23), (3, .int v3_23), (4, .int v4_23), (5, .int v5_23), (6, .int v6_23), (0, rv E (some o))]) hx hb dX13_feed_76 hl (by decide) rfl (fun ls hl => ?_)
            refine hl_aload_n hx hb dX13_feed_78 rfl (lv_at hl 7 rfl) ?_
            refine g13_23 hx hb hts hown hKs hH rfl ho m6_204 dX13_feed_79 ?_
            refine hl_aload_n hx hb dX13_feed_82 rfl (lv_at hl 7 rfl) ?_
            refine g13_24 hx hb hts hown hKs hH rfl ho m6_205 dX13_feed_83 ?_
            refine lv_iload hx hb dX13_feed_86 (lv_at hl 0 rfl) ?_
            refine lv_bipush (v := 24) hx hb dX13_feed_88 (by decide) ?_
            refine lv_bipush (v := 8) hx hb dX13_feed_90 (by decide) ?_
            refine lv_iload hx hb dX13_feed_92 (lv_at hl 6 rfl) ?_
            refine lv_iconst (v := 4) hx hb dX13_feed_94 (by decide) ?_
            refine lv_irem hx hb dX13_feed_95 (by decide) ?_
            refine lv_imul hx hb dX13_feed_96 ?_
            refine lv_isub hx hb dX13_feed_97 ?_
            refine lv_ishr hx hb dX13_feed_98 ?_
            refine lv_i2b (v := ((v3_23 >>> ((24 - (8 * (v6_23 - v6_23 / 4 * 4))) &&& 31)).toInt8.toInt32)) hx hb dX13_feed_99 rfl ?_
            obtain ⟨a17, ha17, hf⟩ := bnd hf
            replace ha17 := cha_some ha17
            obtain ⟨j18, hj18, hf⟩ := bnd hf
            obtain ⟨w19, hw19, hf⟩ := bnd hf
            replace hw19 := Option.some.inj hw19
            refine hw_bast (x := ((v3_23 >>> ((24 - (8 * (v6_23 - v6_23 / 4 * 4))) &&& 31)).toInt8.toInt32)) hx hb hKs hH ha17.1 ha17.2 hj18 dX13_feed_100 (fun H locs hH => ?_)
            rw [hw19] at hH
            refine hl_aload_n hx hb dX13_feed_101 rfl (lv_at hl 7 rfl) ?_
            refine hl_aload_n hx hb dX13_feed_102 rfl (lv_at hl 7 rfl) ?_
            refine g13_24 hx hb hts hown hKs hH rfl ho m6_205 dX13_feed_103 ?_
            refine lv_iconst (v := 1) hx hb dX13_feed_106 (by decide) ?_
            refine lv_iadd hx hb dX13_feed_107 ?_
            obtain ⟨w20, hw20, hf⟩ := bnd hf
            replace hw20 := Option.some.inj hw20
            refine p13_24 (v := ((wI w19 1324 o) + 1)) hx hb hts hown hKs hH rfl ho m6_205 dX13_feed_108 (fun H locs hH => ?_)
            rw [hw20] at hH
            refine lv_iinc (v := (v6_23 + 1)) (lv' := [(6, .int ((v6_23 + 1))), (7, .int v3_23), (1, .int v1_23), (2, .int v2_23), (3, .int v3_23), (4, .int v4_23), (5, .int v5_23), (0, rv E (some o))]) hx hb dX13_feed_111 hl (k := 6) rfl rfl (by decide) rfl (fun ls hl => ?_)
            refine lv_goto (tgt := 23) hx hb dX13_feed_114 (by decide) ?_
            exact ih v1_23 v2_23 v3_23 v4_23 v5_23 (v6_23 + 1) _ _ _ _ hH (lv_sub hl [2, 3, 4, 5, 6, 0, 7] rfl) hf
        · replace hf := (if_neg c6).symm.trans hf
          refine lv_iload_n hx hb dX13_feed_47 rfl (lv_at hl 1 rfl) ?_
          refine lv_goto (tgt := 76) hx hb dX13_feed_48 (by decide) ?_
          refine lv_istore (i := 7) (lv' := [(7, .int v2_23), (1, .int v1_23), (2, .int v2_23), (3, .int v3_23), (4, .int v4_23), (5, .int v5_23), (6, .int v6_23), (0, rv E (some o))]) hx hb dX13_feed_76 hl (by decide) rfl (fun ls hl => ?_)
          refine hl_aload_n hx hb dX13_feed_78 rfl (lv_at hl 7 rfl) ?_
          refine g13_23 hx hb hts hown hKs hH rfl ho m6_204 dX13_feed_79 ?_
          refine hl_aload_n hx hb dX13_feed_82 rfl (lv_at hl 7 rfl) ?_
          refine g13_24 hx hb hts hown hKs hH rfl ho m6_205 dX13_feed_83 ?_
          refine lv_iload hx hb dX13_feed_86 (lv_at hl 0 rfl) ?_
          refine lv_bipush (v := 24) hx hb dX13_feed_88 (by decide) ?_
          refine lv_bipush (v := 8) hx hb dX13_feed_90 (by decide) ?_
          refine lv_iload hx hb dX13_feed_92 (lv_at hl 6 rfl) ?_
          refine lv_iconst (v := 4) hx hb dX13_feed_94 (by decide) ?_
          refine lv_irem hx hb dX13_feed_95 (by decide) ?_
          refine lv_imul hx hb dX13_feed_96 ?_
          refine lv_isub hx hb dX13_feed_97 ?_
          refine lv_ishr hx hb dX13_feed_98 ?_
          refine lv_i2b (v := ((v2_23 >>> ((24 - (8 * (v6_23 - v6_23 / 4 * 4))) &&& 31)).toInt8.toInt32)) hx hb dX13_feed_99 rfl ?_
          obtain ⟨a21, ha21, hf⟩ := bnd hf
          replace ha21 := cha_some ha21
          obtain ⟨j22, hj22, hf⟩ := bnd hf
          obtain ⟨w23, hw23, hf⟩ := bnd hf
          replace hw23 := Option.some.inj hw23
          refine hw_bast (x := ((v2_23 >>> ((24 - (8 * (v6_23 - v6_23 / 4 * 4))) &&& 31)).toInt8.toInt32)) hx hb hKs hH ha21.1 ha21.2 hj22 dX13_feed_100 (fun H locs hH => ?_)
          rw [hw23] at hH
          refine hl_aload_n hx hb dX13_feed_101 rfl (lv_at hl 7 rfl) ?_
          refine hl_aload_n hx hb dX13_feed_102 rfl (lv_at hl 7 rfl) ?_
          refine g13_24 hx hb hts hown hKs hH rfl ho m6_205 dX13_feed_103 ?_
          refine lv_iconst (v := 1) hx hb dX13_feed_106 (by decide) ?_
          refine lv_iadd hx hb dX13_feed_107 ?_
          obtain ⟨w24, hw24, hf⟩ := bnd hf
          replace hw24 := Option.some.inj hw24
          refine p13_24 (v := ((wI w23 1324 o) + 1)) hx hb hts hown hKs hH rfl ho m6_205 dX13_feed_108 (fun H locs hH => ?_)
          rw [hw24] at hH
          refine lv_iinc (v := (v6_23 + 1)) (lv' := [(6, .int ((v6_23 + 1))), (7, .int v2_23), (1, .int v1_23), (2, .int v2_23), (3, .int v3_23), (4, .int v4_23), (5, .int v5_23), (0, rv E (some o))]) hx hb dX13_feed_111 hl (k := 6) rfl rfl (by decide) rfl (fun ls hl => ?_)
          refine lv_goto (tgt := 23) hx hb dX13_feed_114 (by decide) ?_
          exact ih v1_23 v2_23 v3_23 v4_23 v5_23 (v6_23 + 1) _ _ _ _ hH (lv_sub hl [2, 3, 4, 5, 6, 0, 7] rfl) hf
      · replace hf := (if_neg c5).symm.trans hf
        refine lv_iload_n hx hb dX13_feed_36 rfl (lv_at hl 0 rfl) ?_
        refine lv_goto (tgt := 76) hx hb dX13_feed_37 (by decide) ?_
        refine lv_istore (i := 7) (lv' := [(7, .int v1_23), (1, .int v1_23), (2, .int v2_23), (3, .int v3_23), (4, .int v4_23), (5, .int v5_23), (6, .int v6_23), (0, rv E (some o))]) hx hb dX13_feed_76 hl (by decide) rfl (fun ls hl => ?_)
        refine hl_aload_n hx hb dX13_feed_78 rfl (lv_at hl 7 rfl) ?_
        refine g13_23 hx hb hts hown hKs hH rfl ho m6_204 dX13_feed_79 ?_
        refine hl_aload_n hx hb dX13_feed_82 rfl (lv_at hl 7 rfl) ?_
        refine g13_24 hx hb hts hown hKs hH rfl ho m6_205 dX13_feed_83 ?_
        refine lv_iload hx hb dX13_feed_86 (lv_at hl 0 rfl) ?_
        refine lv_bipush (v := 24) hx hb dX13_feed_88 (by decide) ?_
        refine lv_bipush (v := 8) hx hb dX13_feed_90 (by decide) ?_
        refine lv_iload hx hb dX13_feed_92 (lv_at hl 6 rfl) ?_
        refine lv_iconst (v := 4) hx hb dX13_feed_94 (by decide) ?_
        refine lv_irem hx hb dX13_feed_95 (by decide) ?_
        refine lv_imul hx hb dX13_feed_96 ?_
        refine lv_isub hx hb dX13_feed_97 ?_
        refine lv_ishr hx hb dX13_feed_98 ?_
        refine lv_i2b (v := ((v1_23 >>> ((24 - (8 * (v6_23 - v6_23 / 4 * 4))) &&& 31)).toInt8.toInt32)) hx hb dX13_feed_99 rfl ?_
        obtain ⟨a25, ha25, hf⟩ := bnd hf
        replace ha25 := cha_some ha25
        obtain ⟨j26, hj26, hf⟩ := bnd hf
        obtain ⟨w27, hw27, hf⟩ := bnd hf
        replace hw27 := Option.some.inj hw27
        refine hw_bast (x := ((v1_23 >>> ((24 - (8 * (v6_23 - v6_23 / 4 * 4))) &&& 31)).toInt8.toInt32)) hx hb hKs hH ha25.1 ha25.2 hj26 dX13_feed_100 (fun H locs hH => ?_)
        rw [hw27] at hH
        refine hl_aload_n hx hb dX13_feed_101 rfl (lv_at hl 7 rfl) ?_
        refine hl_aload_n hx hb dX13_feed_102 rfl (lv_at hl 7 rfl) ?_
        refine g13_24 hx hb hts hown hKs hH rfl ho m6_205 dX13_feed_103 ?_
        refine lv_iconst (v := 1) hx hb dX13_feed_106 (by decide) ?_
        refine lv_iadd hx hb dX13_feed_107 ?_
        obtain ⟨w28, hw28, hf⟩ := bnd hf
        replace hw28 := Option.some.inj hw28
        refine p13_24 (v := ((wI w27 1324 o) + 1)) hx hb hts hown hKs hH rfl ho m6_205 dX13_feed_108 (fun H locs hH => ?_)
        rw [hw28] at hH
        refine lv_iinc (v := (v6_23 + 1)) (lv' := [(6, .int ((v6_23 + 1))), (7, .int v1_23), (1, .int v1_23), (2, .int v2_23), (3, .int v3_23), (4, .int v4_23), (5, .int v5_23), (0, rv E (some o))]) hx hb dX13_feed_111 hl (k := 6) rfl rfl (by decide) rfl (fun ls hl => ?_)
        refine lv_goto (tgt := 23) hx hb dX13_feed_114 (by decide) ?_
        exact ih v1_23 v2_23 v3_23 v4_23 v5_23 (v6_23 + 1) _ _ _ _ hH (lv_sub hl [2, 3, 4, 5, 6, 0, 7] rfl) hf
set_option maxHeartbeats 4000000 in
set_option maxRecDepth 100000 in
theorem k_X13_feed (l : Launch) (E : Ev) (K : Kd) (z : Nat) (o : Nat) (a_1 : Int32) (a_2 : Int32) (a_3 : Int32) (a_4 : Int32) (a_5 : Int32) (w : Wd) (ho : K o = some (11, 0)) {r : Int32} {w' : Wd} (hf : f_X13_feed K o a_1 a_2 a_3 a_4 a_5 w = some (r, w')) : Met l yX13_feed (Cond.code yX13_feed cX13_feed 8 (Option.some Jvm.ClassFile.FieldType.int) :: bt) ({ frames := 0, cells := 0, slots := 0, locals := 0 } : Room) (va_Pc [rv E (some o), .int a_1, .int a_2, .int a_3, .int a_4, .int a_5] (HB E K w z)) (QI E K z w' r) 0 0 (hA E) := by
  refine Met.ofW (cc := cX13_feed) (maxL := 8) (ret := (Option.some Jvm.ClassFile.FieldType.int)) (by decide) rfl ?_
  intro p e s m args below meth c s₁ B hml hv
  obtain ⟨rfl, hz, hP, hKs, hT, hb0⟩ := hv
  have C : CX p l e s m _ meth c cX13_feed 8 RX13 (Option.some Jvm.ClassFile.FieldType.int) E := ⟨B.exec, B.bytes, hml, findClass_of_methodNamed B.named, fun w h => atoms_spec (ws := Cond.code yX13_feed cX13_feed 8 (Option.some Jvm.ClassFile.FieldType.int) :: bt) B.pre w (List.mem_cons_of_mem _ h), hKs, hT, by rw [hz]; exact hb0, B.notSynchronized, B.returns⟩
  have hH : HQ E K z w s s.heap [] := ⟨hP, va_S.rf, hz⟩
  obtain ⟨hx, hb, hml, hown, hts, hKs, hT, hb0, hlocks, hret⟩ := id C
  have hl := lv_entry [rv E (some o), .int a_1, .int a_2, .int a_3, .int a_4, .int a_5] (n := 8) (by simp [lg_len_nil, lg_len_i, lg_len_j, lg_len_q, lg_len_f, lg_len_d, lg_len_r])
  rw [lg_entry_eq]
  generalize (lg_sl [rv E (some o), .int a_1, .int a_2, .int a_3, .int a_4, .int a_5] ++ List.replicate (8 - (lg_sl [rv E (some o), .int a_1, .int a_2, .int a_3, .int a_4, .int a_5]).length) Slot.unset).toArray = ls at hl ⊢
  replace hl : lv_has ls 8 [(0, rv E (some o)), (1, .int a_1), (2, .int a_2), (3, .int a_3), (4, .int a_4), (5, .int a_5)] := by simpa only [lv_args, cat_q, cat_i, cat_j, reduceIte, Nat.reduceEqDiff, Nat.reduceAdd, Nat.zero_add] using hl
  generalize s.heap = H at hH ⊢
  unfold f_X13_feed at hf
  refine hl_aload_n hx hb dX13_feed_0 rfl (lv_at hl 0 rfl) ?_
  refine lv_iconst (v := 0) hx hb dX13_feed_1 (by decide) ?_
  obtain ⟨w1, hw1, hf⟩ := bnd hf
  replace hw1 := Option.some.inj hw1
  refine p13_0 (v := 0) hx hb hts hown hKs hH rfl ho m6_181 dX13_feed_2 (fun H locs hH => ?_)
  rw [hw1] at hH
  refine hl_aload_n hx hb dX13_feed_5 rfl (lv_at hl 0 rfl) ?_
  refine g13_24 hx hb hts hown hKs hH rfl ho m6_205 dX13_feed_6 ?_
  refine lv_bipush (v := 20) hx hb dX13_feed_9 (by decide) ?_
  refine lv_iadd hx hb dX13_feed_11 ?_
  refine lv_sipush (v := 900) hx hb dX13_feed_12 (by decide) ?_
  refine lv_icmp_le (tgt := 20) hx hb dX13_feed_15 (by decide) (fun c2 => ?_) (fun c2 => ?_)
  · replace hf := (if_pos c2).symm.trans hf
    refine lv_iconst (v := 0) hx hb dX13_feed_20 (by decide) ?_
    refine lv_istore (i := 6) (lv' := [(6, .int 0), (0, rv E (some o)), (1, .int a_1), (2, .int a_2), (3, .int a_3), (4, .int a_4), (5, .int a_5)]) hx hb dX13_feed_21 hl (by decide) rfl (fun ls hl => ?_)
    refine l_X13_feed_L23  C ho _ (fun v1_23 v2_23 v3_23 v4_23 v5_23 v6_23 w3 H locs ls hH hl hf => ?_) fu a_1 a_2 a_3 a_4 a_5 0 w1 _ _ _ hH (lv_sub hl [2, 3, 4, 5, 6, 0, 1] rfl) hf
    refine hl_aload_n hx hb dX13_feed_117 rfl (lv_at hl 6 rfl) ?_
    refine g13_24 hx hb hts hown hKs hH rfl ho m6_205 dX13_feed_118 ?_
    exact hw_iret hx hb hret hf hH hlocks dX13_feed_121
  · replace hf := (if_neg c2).symm.trans hf
    refine lv_iconst (v := (-1)) hx hb dX13_feed_18 (by decide) ?_
    exact hw_iret hx hb hret hf hH hlocks dX13_feed_19

theorem dX13_truncate_0 : decode cX13_truncate 0 = .ok (.aload_n 0, 1) := by decide +kernel
theorem dX13_truncate_1 : decode cX13_truncate 1 = .ok (.iconst 0, 1) := by decide +kernel
theorem dX13_truncate_2 : decode cX13_truncate 2 = .ok (.putfield 104, 3) := by decide +kernel
theorem dX13_truncate_5 : decode cX13_truncate 5 = .ok (.iload_n 1, 1) := by decide +kernel
theorem dX13_truncate_6 : decode cX13_truncate 6 = .ok (.i2l, 1) := by decide +kernel
theorem dX13_truncate_7 : decode cX13_truncate 7 = .ok (.lconst 0, 1) := by decide +kernel
theorem dX13_truncate_8 : decode cX13_truncate 8 = .ok (.aload_n 0, 1) := by decide +kernel
theorem dX13_truncate_9 : decode cX13_truncate 9 = .ok (.getfield 331, 3) := by decide +kernel
theorem dX13_truncate_12 : decode cX13_truncate 12 = .ok (.i2l, 1) := by decide +kernel
theorem dX13_truncate_13 : decode cX13_truncate 13 = .ok (.invokestatic 123, 3) := by decide +kernel
theorem dX13_truncate_16 : decode cX13_truncate 16 = .ok (.ifCond .ne 5, 3) := by decide +kernel
theorem dX13_truncate_19 : decode cX13_truncate 19 = .ok (.iconst 0, 1) := by decide +kernel
theorem dX13_truncate_20 : decode cX13_truncate 20 = .ok (.ireturn, 1) := by decide +kernel
theorem dX13_truncate_21 : decode cX13_truncate 21 = .ok (.aload_n 0, 1) := by decide +kernel
theorem dX13_truncate_22 : decode cX13_truncate 22 = .ok (.iload_n 1, 1) := by decide +kernel
theorem dX13_truncate_23 : decode cX13_truncate 23 = .ok (.putfield 331, 3) := by decide +kernel
theorem dX13_truncate_26 : decode cX13_truncate 26 = .ok (.iconst 1, 1) := by decide +kernel
theorem dX13_truncate_27 : decode cX13_truncate 27 = .ok (.ireturn, 1) := by decide +kernel
theorem hd_X13_truncate : yX13_truncate.cls = RX13 ∧ yX13_truncate.cls ≠ "java/lang/invoke/MethodHandle" ∧ yX13_truncate.cls ≠ "java/lang/invoke/VarHandle" ∧ (parseMethodDescriptor yX13_truncate.desc).map (fun d => d.parameters.length) = some 1 := by decide +kernel
theorem hs_X13_truncate : yX13_truncate.cls ≠ "java/lang/invoke/MethodHandle" ∧ yX13_truncate.cls ≠ "java/lang/invoke/VarHandle" ∧ (parseMethodDescriptor yX13_truncate.desc).map (fun d => d.parameters.length) = some 1 := by decide +kernel
set_option maxHeartbeats 4000000 in
set_option maxRecDepth 100000 in
theorem k_X13_truncate (l : Launch) (E : Ev) (K : Kd) (z : Nat) (o : Nat) (a_1 : Int32) (w : Wd) (ho : K o = some (11, 0)) {r : Bool} {w' : Wd} (hf : f_X13_truncate K o a_1 w = some (r, w')) : Met l yX13_truncate (Cond.code yX13_truncate cX13_truncate 2 (Option.some Jvm.ClassFile.FieldType.boolean) :: bt) ({ frames := 1, cells := 0, slots := 0, locals := 25 } : Room) (va_Pc [rv E (some o), .int a_1] (HB E K w z)) (QI E K z w' (b2i r)) 0 0 (hA E) := by
  refine Met.ofW (cc := cX13_truncate) (maxL := 2) (ret := (Option.some Jvm.ClassFile.FieldType.boolean)) (by decide) rfl ?_
  intro p e s m args below meth c s₁ B hml hv
  obtain ⟨rfl, hz, hP, hKs, hT, hb0⟩ := hv
  have C : CX p l e s m _ meth c cX13_truncate 2 RX13 (Option.some Jvm.ClassFile.FieldType.boolean) E := ⟨B.exec, B.bytes, hml, findClass_of_methodNamed B.named, fun w h => atoms_spec (ws := Cond.code yX13_truncate cX13_truncate 2 (Option.some Jvm.ClassFile.FieldType.boolean) :: bt) B.pre w (List.mem_cons_of_mem _ h), hKs, hT, by rw [hz]; exact hb0, B.notSynchronized, B.returns⟩
  have hH : HQ E K z w s s.heap [] := ⟨hP, va_S.rf, hz⟩
  obtain ⟨hx, hb, hml, hown, hts, hKs, hT, hb0, hlocks, hret⟩ := id C
  have hl := lv_entry [rv E (some o), .int a_1] (n := 2) (by simp [lg_len_nil, lg_len_i, lg_len_j, lg_len_q, lg_len_f, lg_len_d, lg_len_r])
  rw [lg_entry_eq]
  generalize (lg_sl [rv E (some o), .int a_1] ++ List.replicate (2 - (lg_sl [rv E (some o), .int a_1]).length) Slot.unset).toArray = ls at hl ⊢
  replace hl : lv_has ls 2 [(0, rv E (some o)), (1, .int a_1)] := by simpa only [lv_args, cat_q, cat_i, cat_j, reduceIte, Nat.reduceEqDiff, Nat.reduceAdd, Nat.zero_add] using hl
  generalize s.heap = H at hH ⊢
  unfold f_X13_truncate at hf
  refine hl_aload_n hx hb dX13_truncate_0 rfl (lv_at hl 0 rfl) ?_
  refine lv_iconst (v := 0) hx hb dX13_truncate_1 (by decide) ?_
  obtain ⟨w1, hw1, hf⟩ := bnd hf
  replace hw1 := Option.some.inj hw1
  refine p13_0 (v := 0) hx hb hts hown hKs hH rfl ho m6_181 dX13_truncate_2 (fun H locs hH => ?_)
  rw [hw1] at hH
  refine lv_iload_n hx hb dX13_truncate_5 rfl (lv_at hl 1 rfl) ?_
  refine lv_i2l (v := (a_1.toInt64)) hx hb dX13_truncate_6 rfl ?_
  refine lv_lconst (v := 0) hx hb dX13_truncate_7 rfl ?_
  refine hl_aload_n hx hb dX13_truncate_8 rfl (lv_at hl 0 rfl) ?_
  refine g13_24 hx hb hts hown hKs hH rfl ho m6_205 dX13_truncate_9 ?_
  refine lv_i2l (v := ((wI w1 1324 o).toInt64)) hx hb dX13_truncate_12 rfl ?_
  obtain ⟨q2, hq2, hf⟩ := bnd hf
  refine hcS_i hx hb hml hown hts hKs hT hb0 hH (As := [.long (a_1.toInt64), .long 0, .long ((wI w1 1324 o).toInt64)]) (rest := []) (k_X13_isIn l E K H.size (a_1.toInt64) 0 ((wI w1 1324 o).toInt64) w1 hq2) (gS m7_88 m7_89 m1_16 m7_90) hs_X13_isIn ⟨Nat.le_of_ble_eq_true rfl, Nat.le_of_ble_eq_true rfl, rfl, rfl⟩ hl.1 rfl rc0 rfl dX13_truncate_13 ⟨Nat.zero_le _, Nat.zero_le _⟩ (fun H locs hH => ?_)
  refine lv_if_ne (tgt := 21) hx hb dX13_truncate_16 (by decide) (fun c3 => ?_) (fun c3 => ?_)
  · replace hf := (if_neg c3).symm.trans hf
    refine hl_aload_n hx hb dX13_truncate_21 rfl (lv_at hl 0 rfl) ?_
    refine lv_iload_n hx hb dX13_truncate_22 rfl (lv_at hl 1 rfl) ?_
    obtain ⟨w4, hw4, hf⟩ := bnd hf
    replace hw4 := Option.some.inj hw4
    refine p13_24 (v := a_1) hx hb hts hown hKs hH rfl ho m6_205 dX13_truncate_23 (fun H locs hH => ?_)
    rw [hw4] at hH
    refine lv_iconst (v := 1) hx hb dX13_truncate_26 (by decide) ?_
    exact hw_zret hx hb hret rfl hf hH hlocks dX13_truncate_27
  · replace hf := (if_pos c3).symm.trans hf
    refine lv_iconst (v := 0) hx hb dX13_truncate_19 (by decide) ?_
    exact hw_zret hx hb hret rfl hf hH hlocks dX13_truncate_20
end
