section
variable {p : Program} {l : Launch} {e : Env} {s : State} {m : MethodId} {args : Array Value} {below : List Frame} {meth : Method} {c : Code} {E : Ev} {K : Kd} {z : Nat}

theorem dX12_meanSlack_0 : decode cX12_meanSlack 0 = .ok (.iconst 0, 1) := by decide +kernel
theorem dX12_meanSlack_1 : decode cX12_meanSlack 1 = .ok (.istore_n 1, 1) := by decide +kernel
theorem dX12_meanSlack_2 : decode cX12_meanSlack 2 = .ok (.iconst 0, 1) := by decide +kernel
theorem dX12_meanSlack_3 : decode cX12_meanSlack 3 = .ok (.istore_n 2, 1) := by decide +kernel
theorem dX12_meanSlack_4 : decode cX12_meanSlack 4 = .ok (.iconst 0, 1) := by decide +kernel
theorem dX12_meanSlack_5 : decode cX12_meanSlack 5 = .ok (.istore_n 3, 1) := by decide +kernel
theorem dX12_meanSlack_6 : decode cX12_meanSlack 6 = .ok (.iload_n 3, 1) := by decide +kernel
theorem dX12_meanSlack_7 : decode cX12_meanSlack 7 = .ok (.aload_n 0, 1) := by decide +kernel
theorem dX12_meanSlack_8 : decode cX12_meanSlack 8 = .ok (.getfield 35, 3) := by decide +kernel
theorem dX12_meanSlack_11 : decode cX12_meanSlack 11 = .ok (.getfield 87, 3) := by decide +kernel
theorem dX12_meanSlack_14 : decode cX12_meanSlack 14 = .ok (.iconst 3, 1) := by decide +kernel
theorem dX12_meanSlack_15 : decode cX12_meanSlack 15 = .ok (.invokevirtual 105, 3) := by decide +kernel
theorem dX12_meanSlack_18 : decode cX12_meanSlack 18 = .ok (.if_icmp .ge 38, 3) := by decide +kernel
theorem dX12_meanSlack_21 : decode cX12_meanSlack 21 = .ok (.aload_n 0, 1) := by decide +kernel
theorem dX12_meanSlack_22 : decode cX12_meanSlack 22 = .ok (.getfield 35, 3) := by decide +kernel
theorem dX12_meanSlack_25 : decode cX12_meanSlack 25 = .ok (.getfield 213, 3) := by decide +kernel
theorem dX12_meanSlack_28 : decode cX12_meanSlack 28 = .ok (.iload_n 3, 1) := by decide +kernel
theorem dX12_meanSlack_29 : decode cX12_meanSlack 29 = .ok (.aaload, 1) := by decide +kernel
theorem dX12_meanSlack_30 : decode cX12_meanSlack 30 = .ok (.getfield 236, 3) := by decide +kernel
theorem dX12_meanSlack_33 : decode cX12_meanSlack 33 = .ok (.ifCond .ne 17, 3) := by decide +kernel
theorem dX12_meanSlack_36 : decode cX12_meanSlack 36 = .ok (.iload_n 1, 1) := by decide +kernel
theorem dX12_meanSlack_37 : decode cX12_meanSlack 37 = .ok (.aload_n 0, 1) := by decide +kernel
theorem dX12_meanSlack_38 : decode cX12_meanSlack 38 = .ok (.getfield 35, 3) := by decide +kernel
theorem dX12_meanSlack_41 : decode cX12_meanSlack 41 = .ok (.iload_n 3, 1) := by decide +kernel
theorem dX12_meanSlack_42 : decode cX12_meanSlack 42 = .ok (.invokevirtual 306, 3) := by decide +kernel
theorem dX12_meanSlack_45 : decode cX12_meanSlack 45 = .ok (.iadd, 1) := by decide +kernel
theorem dX12_meanSlack_46 : decode cX12_meanSlack 46 = .ok (.istore_n 1, 1) := by decide +kernel
theorem dX12_meanSlack_47 : decode cX12_meanSlack 47 = .ok (.iinc 2 1, 3) := by decide +kernel
theorem dX12_meanSlack_50 : decode cX12_meanSlack 50 = .ok (.iinc 3 1, 3) := by decide +kernel
theorem dX12_meanSlack_53 : decode cX12_meanSlack 53 = .ok (.goto (-47), 3) := by decide +kernel
theorem dX12_meanSlack_56 : decode cX12_meanSlack 56 = .ok (.iload_n 2, 1) := by decide +kernel
theorem dX12_meanSlack_57 : decode cX12_meanSlack 57 = .ok (.ifCond .ne 7, 3) := by decide +kernel
theorem dX12_meanSlack_60 : decode cX12_meanSlack 60 = .ok (.dconst 0, 1) := by decide +kernel
theorem dX12_meanSlack_61 : decode cX12_meanSlack 61 = .ok (.goto 8, 3) := by decide +kernel
theorem dX12_meanSlack_64 : decode cX12_meanSlack 64 = .ok (.iload_n 1, 1) := by decide +kernel
theorem dX12_meanSlack_65 : decode cX12_meanSlack 65 = .ok (.i2d, 1) := by decide +kernel
theorem dX12_meanSlack_66 : decode cX12_meanSlack 66 = .ok (.iload_n 2, 1) := by decide +kernel
theorem dX12_meanSlack_67 : decode cX12_meanSlack 67 = .ok (.i2d, 1) := by decide +kernel
theorem dX12_meanSlack_68 : decode cX12_meanSlack 68 = .ok (.ddiv, 1) := by decide +kernel
theorem dX12_meanSlack_69 : decode cX12_meanSlack 69 = .ok (.dreturn, 1) := by decide +kernel
theorem hd_X12_meanSlack : yX12_meanSlack.cls = RX12 ∧ yX12_meanSlack.cls ≠ "java/lang/invoke/MethodHandle" ∧ yX12_meanSlack.cls ≠ "java/lang/invoke/VarHandle" ∧ (parseMethodDescriptor yX12_meanSlack.desc).map (fun d => d.parameters.length) = some 0 := by decide +kernel
theorem hs_X12_meanSlack : yX12_meanSlack.cls ≠ "java/lang/invoke/MethodHandle" ∧ yX12_meanSlack.cls ≠ "java/lang/invoke/VarHandle" ∧ (parseMethodDescriptor yX12_meanSlack.desc).map (fun d => d.parameters.length) = some 0 := by decide +kernel
set_option maxHeartbeats 4000000 in
set_option maxRecDepth 100000 in
theorem l_X12_meanSlack_L6 (C : CX p l e s m args meth c cX12_meanSlack 4 RX12 (Option.some Jvm.ClassFile.FieldType.double) E) {o : Nat} (ho : K o = some (10, 0)) {r : UInt64} {w' : Wd} (k : Int32 → Int32 → Int32 → Wd → Option (UInt64 × Wd)) (hk : ∀ (v1_6 : Int32) (v2_6 : Int32) (v3_6 : Int32) (w : Wd) (H : Heap) (locs : List Loc) (ls : Array Slot), HQ E K z w s H locs → lv_has ls 4 [(1, .int v1_6), (2, .int v2_6), (3, .int v3_6), (0, rv E (some o))] → k v1_6 v2_6 v3_6 w = some (r, w') → W p l e ({ frames := 4, cells := 0, slots := 0, locals := 87 } : Room) s m args below meth c H locs 0 0 (MQ below (QD E K z w' r) args s 0 0 (hA E)) (F0 m 56 ls [])) : ∀ (n : Nat) (v1_6 : Int32) (v2_6 : Int32) (v3_6 : Int32) (w : Wd) (H : Heap) (locs : List Loc) (ls : Array Slot), HQ E K z w s H locs → lv_has ls 4 [(1, .int v1_6), (2, .int v2_6), (3, .int v3_6), (0, rv E (some o))] → f_X12_meanSlack_L6 K o k n v1_6 v2_6 v3_6 w = some (r, w') → W p l e ({ frames := 4, cells := 0, slots := 0, locals := 87 } : Room) s m args below meth c H locs 0 0 (MQ below (QD E K z w' r) args s 0 0 (hA E)) (F0 m 6 ls []) := by
  obtain ⟨hx, hb, hml, hown, hts, hKs, hT, hb0, hlocks, hret⟩ := id C
  intro n
  induction n with
  | zero =>
    intro v1_6 v2_6 v3_6 w H locs ls hH hl hf
    cases hf
  | succ n ih =>
    intro v1_6 v2_6 v3_6 w H locs ls hH hl hf
    rw [f_X12_meanSlack_L6] at hf
    refine lv_iload_n hx hb dX12_meanSlack_6 rfl (lv_at hl 2 rfl) ?_
    refine hl_aload_n hx hb dX12_meanSlack_7 rfl (lv_at hl 3 rfl) ?_
    refine g12_5 hx hb hts hown hKs hH rfl ho m2_224 dX12_meanSlack_8 ?_
    obtain ⟨a2, ha2, hf⟩ := bnd hf
    replace ha2 := chk_some ha2
    refine gn10_0 hx hb hts hown hKs hH ha2.1 ha2.2 m2_122 dX12_meanSlack_11 ?_
    refine lv_iconst (v := 3) hx hb dX12_meanSlack_14 (by decide) ?_
    obtain ⟨a3, ha3, hf⟩ := bnd hf
    replace ha3 := chk_some ha3
    obtain ⟨q4, hq4, hf⟩ := bnd hf
    refine hcV_i hx hb hml hown hts hKs hT hb0 hH (As := [.int 3]) (rest := [.int v3_6]) (k_X9_size l E K H.size a3 3 w ha3.2 hq4) (gV m3_229 m3_151 m3_152 m1_2 m3_153) hd_X9_size ⟨Nat.le_of_ble_eq_true rfl, Nat.le_of_ble_eq_true rfl, rfl, rfl⟩ ha3.1 ha3.2 rfl rfl rfl hl.1 rfl (rcI rc0) rfl dX12_meanSlack_15 ⟨Nat.zero_le _, Nat.zero_le _⟩ (fun H locs hH => ?_)
    refine lv_icmp_ge (tgt := 56) hx hb dX12_meanSlack_18 (by decide) (fun c5 => ?_) (fun c5 => ?_)
    · replace hf := (if_pos c5).symm.trans hf
      exact hk v1_6 v2_6 v3_6 _ _ _ _ hH (lv_sub hl [0, 1, 2, 3] rfl) hf
    · replace hf := (if_neg c5).symm.trans hf
      refine hl_aload_n hx hb dX12_meanSlack_21 rfl (lv_at hl 3 rfl) ?_
      refine g12_5 hx hb hts hown hKs hH rfl ho m2_224 dX12_meanSlack_22 ?_
      obtain ⟨a6, ha6, hf⟩ := bnd hf
      replace ha6 := chk_some ha6
      refine gn10_5 hx hb hts hown hKs hH ha6.1 ha6.2 m2_135 dX12_meanSlack_25 ?_
      refine lv_iload_n hx hb dX12_meanSlack_28 rfl (lv_at hl 2 rfl) ?_
      obtain ⟨a7, ha7, hf⟩ := bnd hf
      replace ha7 := cha_some ha7
      obtain ⟨j8, hj8, hf⟩ := bnd hf
      refine hw_aald27 hx hb hKs hH ha7.1 ha7.2 hj8 dX12_meanSlack_29 ?_
      obtain ⟨a9, ha9, hf⟩ := bnd hf
      replace ha9 := chk_some ha9
      refine gn7_0 hx hb hts hown hKs hH ha9.1 ha9.2 m2_71 dX12_meanSlack_30 ?_
      refine lv_if_ne (tgt := 50) hx hb dX12_meanSlack_33 (by decide) (fun c10 => ?_) (fun c10 => ?_)
      · replace hf := (if_neg c10).symm.trans hf
        refine lv_iinc (v := (v3_6 + 1)) (lv' := [(3, .int ((v3_6 + 1))), (1, .int v1_6), (2, .int v2_6), (0, rv E (some o))]) hx hb dX12_meanSlack_50 hl (k := 2) rfl rfl (by decide) rfl (fun ls hl => ?_)
        refine lv_goto (tgt := 6) hx hb dX12_meanSlack_53 (by decide) ?_
        exact ih v1_6 v2_6 (v3_6 + 1) _ _ _ _ hH (lv_sub hl [1, 2, 0, 3] rfl) hf
      · replace hf := (if_pos c10).symm.trans hf
        refine lv_iload_n hx hb dX12_meanSlack_36 rfl (lv_at hl 0 rfl) ?_
        refine hl_aload_n hx hb dX12_meanSlack_37 rfl (lv_at hl 3 rfl) ?_
        refine g12_5 hx hb hts hown hKs hH rfl ho m2_224 dX12_meanSlack_38 ?_
        refine lv_iload_n hx hb dX12_meanSlack_41 rfl (lv_at hl 2 rfl) ?_
        obtain ⟨q11, hq11, hf⟩ := bnd hf
        refine hcV_i hx hb hml hown hts hKs hT hb0 hH (As := [.int v3_6]) (rest := [.int v1_6]) (k_X10_slackOf l E K H.size a6 v3_6 q4.2 ha6.2 hq11) (gV m4_62 m4_63 m4_64 m1_12 m4_65) hd_X10_slackOf ⟨Nat.le_of_ble_eq_true rfl, Nat.le_of_ble_eq_true rfl, rfl, rfl⟩ ha6.1 ha6.2 rfl rfl rfl hl.1 rfl (rcI rc0) rfl dX12_meanSlack_42 ⟨Nat.zero_le _, Nat.zero_le _⟩ (fun H locs hH => ?_)
        refine lv_iadd hx hb dX12_meanSlack_45 ?_
        refine lv_istore_n (lv' := [(1, .int ((v1_6 + q11.1))), (2, .int v2_6), (3, .int v3_6), (0, rv E (some o))]) hx hb dX12_meanSlack_46 rfl hl (by decide) rfl (fun ls hl => ?_)
        refine lv_iinc (v := (v2_6 + 1)) (lv' := [(2, .int ((v2_6 + 1))), (1, .int ((v1_6 + q11.1))), (3, .int v3_6), (0, rv E (some o))]) hx hb dX12_meanSlack_47 hl (k := 1) rfl rfl (by decide) rfl (fun ls hl => ?_)
        refine lv_iinc (v := (v3_6 + 1)) (lv' := [(3, .int ((v3_6 + 1))), (2, .int ((v2_6 + 1))), (1, .int ((v1_6 + q11.1))), (0, rv E (some o))]) hx hb dX12_meanSlack_50 hl (k := 2) rfl rfl (by decide) rfl (fun ls hl => ?_)
        refine lv_goto (tgt := 6) hx hb dX12_meanSlack_53 (by decide) ?_
        exact ih (v1_6 + q11.1) (v2_6 + 1) (v3_6 + 1) _ _ _ _ hH (lv_sub hl [2, 1, 0, 3] rfl) hf
set_option maxHeartbeats 4000000 in
set_option maxRecDepth 100000 in
theorem k_X12_meanSlack (l : Launch) (E : Ev) (K : Kd) (z : Nat) (o : Nat) (w : Wd) (ho : K o = some (10, 0)) {r : UInt64} {w' : Wd} (hf : f_X12_meanSlack K o w = some (r, w')) : Met l yX12_meanSlack (Cond.code yX12_meanSlack cX12_meanSlack 4 (Option.some Jvm.ClassFile.FieldType.double) :: bt) ({ frames := 4, cells := 0, slots := 0, locals := 87 } : Room) (va_Pc [rv E (some o)] (HB E K w z)) (QD E K z w' r) 0 0 (hA E) := by
  refine Met.ofW (cc := cX12_meanSlack) (maxL := 4) (ret := (Option.some Jvm.ClassFile.FieldType.double)) (by decide) rfl ?_
  intro p e s m args below meth c s₁ B hml hv
  obtain ⟨rfl, hz, hP, hKs, hT, hb0⟩ := hv
  have C : CX p l e s m _ meth c cX12_meanSlack 4 RX12 (Option.some Jvm.ClassFile.FieldType.double) E := ⟨B.exec, B.bytes, hml, findClass_of_methodNamed B.named, fun w h => atoms_spec (ws := Cond.code yX12_meanSlack cX12_meanSlack 4 (Option.some Jvm.ClassFile.FieldType.double) :: bt) B.pre w (List.mem_cons_of_mem _ h), hKs, hT, by rw [hz]; exact hb0, B.notSynchronized, B.returns⟩
  have hH : HQ E K z w s s.heap [] := ⟨hP, va_S.rf, hz⟩
  obtain ⟨hx, hb, hml, hown, hts, hKs, hT, hb0, hlocks, hret⟩ := id C
  have hl := lv_entry [rv E (some o)] (n := 4) (by simp [lg_len_nil, lg_len_i, lg_len_j, lg_len_q, lg_len_f, lg_len_d, lg_len_r])
  rw [lg_entry_eq]
  generalize (lg_sl [rv E (some o)] ++ List.replicate (4 - (lg_sl [rv E (some o)]).length) Slot.unset).toArray = ls at hl ⊢
  replace hl : lv_has ls 4 [(0, rv E (some o))] := by simpa only [lv_args, cat_q, cat_i, cat_j, reduceIte, Nat.reduceEqDiff, Nat.reduceAdd, Nat.zero_add] using hl
  generalize s.heap = H at hH ⊢
  unfold f_X12_meanSlack at hf
  refine lv_iconst (v := 0) hx hb dX12_meanSlack_0 (by decide) ?_
  refine lv_istore_n (lv' := [(1, .int 0), (0, rv E (some o))]) hx hb dX12_meanSlack_1 rfl hl (by decide) rfl (fun ls hl => ?_)
  refine lv_iconst (v := 0) hx hb dX12_meanSlack_2 (by decide) ?_
  refine lv_istore_n (lv' := [(2, .int 0), (1, .int 0), (0, rv E (some o))]) hx hb dX12_meanSlack_3 rfl hl (by decide) rfl (fun ls hl => ?_)
  refine lv_iconst (v := 0) hx hb dX12_meanSlack_4 (by decide) ?_
  refine lv_istore_n (lv' := [(3, .int 0), (2, .int 0), (1, .int 0), (0, rv E (some o))]) hx hb dX12_meanSlack_5 rfl hl (by decide) rfl (fun ls hl => ?_)
  refine l_X12_meanSlack_L6  C ho _ (fun v1_6 v2_6 v3_6 w1 H locs ls hH hl hf => ?_) fu 0 0 0 w _ _ _ hH (lv_sub hl [2, 1, 0, 3] rfl) hf
  refine lv_iload_n hx hb dX12_meanSlack_56 rfl (lv_at hl 1 rfl) ?_
  refine lv_if_ne (tgt := 64) hx hb dX12_meanSlack_57 (by decide) (fun c12 => ?_) (fun c12 => ?_)
  · replace hf := (if_neg c12).symm.trans hf
    refine lv_iload_n hx hb dX12_meanSlack_64 rfl (lv_at hl 0 rfl) ?_
    refine lv_i2d hx hb dX12_meanSlack_65 ?_
    refine lv_iload_n hx hb dX12_meanSlack_66 rfl (lv_at hl 1 rfl) ?_
    refine lv_i2d hx hb dX12_meanSlack_67 ?_
    obtain ⟨_, hg13, hf⟩ := bnd hf
    refine lv_ddiv hx hb dX12_meanSlack_68 (n64_ok (grd_some hg13)) ?_
    exact hw_dret hx hb hret hf hH hlocks dX12_meanSlack_69
  · replace hf := (if_pos c12).symm.trans hf
    refine lv_dconst0 hx hb dX12_meanSlack_60 ?_
    refine lv_goto (tgt := 69) hx hb dX12_meanSlack_61 (by decide) ?_
    exact hw_dret hx hb hret hf hH hlocks dX12_meanSlack_69

theorem dX12_undo_0 : decode cX12_undo 0 = .ok (.aload_n 0, 1) := by decide +kernel
theorem dX12_undo_1 : decode cX12_undo 1 = .ok (.getfield 102, 3) := by decide +kernel
theorem dX12_undo_4 : decode cX12_undo 4 = .ok (.ifCond .le 15, 3) := by decide +kernel
theorem dX12_undo_7 : decode cX12_undo 7 = .ok (.aload_n 0, 1) := by decide +kernel
theorem dX12_undo_8 : decode cX12_undo 8 = .ok (.getfield 102, 3) := by decide +kernel
theorem dX12_undo_11 : decode cX12_undo 11 = .ok (.aload_n 0, 1) := by decide +kernel
theorem dX12_undo_12 : decode cX12_undo 12 = .ok (.getfield 45, 3) := by decide +kernel
theorem dX12_undo_15 : decode cX12_undo 15 = .ok (.arraylength, 1) := by decide +kernel
theorem dX12_undo_16 : decode cX12_undo 16 = .ok (.if_icmp .le 11, 3) := by decide +kernel
theorem dX12_undo_19 : decode cX12_undo 19 = .ok (.new 331, 3) := by decide +kernel
theorem dX12_undo_22 : decode cX12_undo 22 = .ok (.dup, 1) := by decide +kernel
theorem dX12_undo_23 : decode cX12_undo 23 = .ok (.invokespecial 333, 3) := by decide +kernel
theorem dX12_undo_26 : decode cX12_undo 26 = .ok (.athrow, 1) := by decide +kernel
theorem dX12_undo_27 : decode cX12_undo 27 = .ok (.aload_n 0, 1) := by decide +kernel
theorem dX12_undo_28 : decode cX12_undo 28 = .ok (.dup, 1) := by decide +kernel
theorem dX12_undo_29 : decode cX12_undo 29 = .ok (.getfield 102, 3) := by decide +kernel
theorem dX12_undo_32 : decode cX12_undo 32 = .ok (.iconst 1, 1) := by decide +kernel
theorem dX12_undo_33 : decode cX12_undo 33 = .ok (.isub, 1) := by decide +kernel
theorem dX12_undo_34 : decode cX12_undo 34 = .ok (.putfield 102, 3) := by decide +kernel
theorem dX12_undo_37 : decode cX12_undo 37 = .ok (.aload_n 0, 1) := by decide +kernel
theorem dX12_undo_38 : decode cX12_undo 38 = .ok (.getfield 35, 3) := by decide +kernel
theorem dX12_undo_41 : decode cX12_undo 41 = .ok (.aload_n 0, 1) := by decide +kernel
theorem dX12_undo_42 : decode cX12_undo 42 = .ok (.getfield 45, 3) := by decide +kernel
theorem dX12_undo_45 : decode cX12_undo 45 = .ok (.aload_n 0, 1) := by decide +kernel
theorem dX12_undo_46 : decode cX12_undo 46 = .ok (.getfield 102, 3) := by decide +kernel
theorem dX12_undo_49 : decode cX12_undo 49 = .ok (.aaload, 1) := by decide +kernel
theorem dX12_undo_50 : decode cX12_undo 50 = .ok (.invokevirtual 362, 3) := by decide +kernel
theorem dX12_undo_53 : decode cX12_undo 53 = .ok (.aload_n 0, 1) := by decide +kernel
theorem dX12_undo_54 : decode cX12_undo 54 = .ok (.getfield 102, 3) := by decide +kernel
theorem dX12_undo_57 : decode cX12_undo 57 = .ok (.ireturn, 1) := by decide +kernel
theorem hd_X12_undo : yX12_undo.cls = RX12 ∧ yX12_undo.cls ≠ "java/lang/invoke/MethodHandle" ∧ yX12_undo.cls ≠ "java/lang/invoke/VarHandle" ∧ (parseMethodDescriptor yX12_undo.desc).map (fun d => d.parameters.length) = some 0 := by decide +kernel
theorem hs_X12_undo : yX12_undo.cls ≠ "java/lang/invoke/MethodHandle" ∧ yX12_undo.cls ≠ "java/lang/invoke/VarHandle" ∧ (parseMethodDescriptor yX12_undo.desc).map (fun d => d.parameters.length) = some 0 := by decide +kernel
set_option maxHeartbeats 4000000 in
set_option maxRecDepth 100000 in
theorem k_X12_undo (l : Launch) (hls : l.stackTraces = false) (E : Ev) (K : Kd) (z : Nat) (o : Nat) (w : Wd) (ho : K o = some (10, 0)) {r : Int32 ⊕ Nat} {w' : Wd} (hf : f_X12_undo K o w = some (r, w')) : vx_Met l yX12_undo (Cond.code yX12_undo cX12_undo 1 (Option.some Jvm.ClassFile.FieldType.int) :: bt) ({ frames := 6, cells := 1, slots := 6, locals := 103 } : Room) (va_Pc [rv E (some o)] (HB E K w z)) (XI E K z w' r) (XX E K w' r) 1 6 (hA E) := by
  refine vx_ofW (cc := cX12_undo) (maxL := 1) (ret := (Option.some Jvm.ClassFile.FieldType.int)) (by decide) rfl ?_
  intro p e s m args below meth c s₁ B hml hout hv
  obtain ⟨rfl, hz, hP, hKs, hT, hb0⟩ := hv
  have C : CX p l e s m _ meth c cX12_undo 1 RX12 (Option.some Jvm.ClassFile.FieldType.int) E := ⟨B.exec, B.bytes, hml, findClass_of_methodNamed B.named, fun w h => atoms_spec (ws := Cond.code yX12_undo cX12_undo 1 (Option.some Jvm.ClassFile.FieldType.int) :: bt) B.pre w (List.mem_cons_of_mem _ h), hKs, hT, by rw [hz]; exact hb0, B.notSynchronized, B.returns⟩
  have hH : HQ E K z w s s.heap [] := ⟨hP, va_S.rf, hz⟩
  obtain ⟨hx, hb, hml, hown, hts, hKs, hT, hb0, hlocks, hret⟩ := id C
  have hl := lv_entry [rv E (some o)] (n := 1) (by simp [lg_len_nil, lg_len_i, lg_len_j, lg_len_q, lg_len_f, lg_len_d, lg_len_r])
  rw [lg_entry_eq]
  generalize (lg_sl [rv E (some o)] ++ List.replicate (1 - (lg_sl [rv E (some o)]).length) Slot.unset).toArray = ls at hl ⊢
  replace hl : lv_has ls 1 [(0, rv E (some o))] := by simpa only [lv_args, cat_q, cat_i, cat_j, reduceIte, Nat.reduceEqDiff, Nat.reduceAdd, Nat.zero_add] using hl
  generalize s.heap = H at hH ⊢
  unfold f_X12_undo at hf
  refine hl_aload_n hx hb dX12_undo_0 rfl (lv_at hl 0 rfl) ?_
  refine g12_10 hx hb hts hown hKs hH rfl ho m2_229 dX12_undo_1 ?_
  refine lv_if_le (tgt := 19) hx hb dX12_undo_4 (by decide) (fun c1 => ?_) (fun c1 => ?_)
  · replace hf := (if_pos c1).symm.trans hf
    exact hx_throw hx hb hls (code := 3) hml hl.1 hown hts hKs hT hb0 hH (by decide) rfl m5_195 m1_29 hat_RX12_333 dX12_undo_19 dX12_undo_22 dX12_undo_23 dX12_undo_26 hout (Nat.le_of_ble_eq_true rfl) rc0 (Nat.le_of_ble_eq_true rfl) (Nat.le_of_ble_eq_true rfl) (Nat.le_of_ble_eq_true rfl) hlocks hf (Nat.le_of_ble_eq_true rfl) (Nat.le_of_ble_eq_true rfl)
  · replace hf := (if_neg c1).symm.trans hf
    refine hl_aload_n hx hb dX12_undo_7 rfl (lv_at hl 0 rfl) ?_
    refine g12_10 hx hb hts hown hKs hH rfl ho m2_229 dX12_undo_8 ?_
    refine hl_aload_n hx hb dX12_undo_11 rfl (lv_at hl 0 rfl) ?_
    refine g12_9 hx hb hts hown hKs hH rfl ho m2_228 dX12_undo_12 ?_
    obtain ⟨a2, ha2, hf⟩ := bnd hf
    replace ha2 := cha_some ha2
    refine hw_alen28 hx hb hKs hH ha2.1 ha2.2 dX12_undo_15 ?_
    refine lv_icmp_le (tgt := 27) hx hb dX12_undo_16 (by decide) (fun c3 => ?_) (fun c3 => ?_)
    · replace hf := (if_pos c3).symm.trans hf
      refine hl_aload_n hx hb dX12_undo_27 rfl (lv_at hl 0 rfl) ?_
      refine lv_dup hx hb dX12_undo_28 rv_cat ?_
      refine g12_10 hx hb hts hown hKs hH rfl ho m2_229 dX12_undo_29 ?_
      refine lv_iconst (v := 1) hx hb dX12_undo_32 (by decide) ?_
      refine lv_isub hx hb dX12_undo_33 ?_
      obtain ⟨w4, hw4, hf⟩ := bnd hf
      replace hw4 := Option.some.inj hw4
      refine p12_10 (v := ((wI w 1210 o) - 1)) hx hb hts hown hKs hH rfl ho m2_229 dX12_undo_34 (fun H locs hH => ?_)
      rw [hw4] at hH
      refine hl_aload_n hx hb dX12_undo_37 rfl (lv_at hl 0 rfl) ?_
      refine g12_5 hx hb hts hown hKs hH rfl ho m2_224 dX12_undo_38 ?_
      refine hl_aload_n hx hb dX12_undo_41 rfl (lv_at hl 0 rfl) ?_
      refine g12_9 hx hb hts hown hKs hH rfl ho m2_228 dX12_undo_42 ?_
      refine hl_aload_n hx hb dX12_undo_45 rfl (lv_at hl 0 rfl) ?_
      refine g12_10 hx hb hts hown hKs hH rfl ho m2_229 dX12_undo_46 ?_
      obtain ⟨a5, ha5, hf⟩ := bnd hf
      replace ha5 := cha_some ha5
      obtain ⟨j6, hj6, hf⟩ := bnd hf
      refine hw_aald28 hx hb hKs hH ha5.1 ha5.2 hj6 dX12_undo_49 ?_
      obtain ⟨a7, ha7, hf⟩ := bnd hf
      replace ha7 := chk_some ha7
      obtain ⟨q8, hq8, hf⟩ := bnd hf
      refine hcV_v hx hb hml hown hts hKs hT hb0 hH (As := [rv E (aR w4 a5.1 j6)]) (rest := []) (k_X10_copyFrom l E K H.size a7 (aR w4 a5.1 j6) w4 ha7.2 hq8) (gV m4_87 m4_88 m4_89 m1_12 m4_90) hd_X10_copyFrom ⟨Nat.le_of_ble_eq_true rfl, Nat.le_of_ble_eq_true rfl, rfl, rfl⟩ ha7.1 ha7.2 rfl rfl rfl hl.1 rfl rc0 rfl dX12_undo_50 ⟨Nat.le_of_ble_eq_true rfl, Nat.le_of_ble_eq_true rfl⟩ (fun H locs hH => ?_)
      refine hl_aload_n hx hb dX12_undo_53 rfl (lv_at hl 0 rfl) ?_
      refine g12_10 hx hb hts hown hKs hH rfl ho m2_229 dX12_undo_54 ?_
      exact hx_iret hx hb (Nat.le_of_ble_eq_true rfl) (Nat.le_of_ble_eq_true rfl) hret hf hH hlocks dX12_undo_57
    · replace hf := (if_neg c3).symm.trans hf
      exact hx_throw hx hb hls (code := 3) hml hl.1 hown hts hKs hT hb0 hH (by decide) rfl m5_195 m1_29 hat_RX12_333 dX12_undo_19 dX12_undo_22 dX12_undo_23 dX12_undo_26 hout (Nat.le_of_ble_eq_true rfl) rc0 (Nat.le_of_ble_eq_true rfl) (Nat.le_of_ble_eq_true rfl) (Nat.le_of_ble_eq_true rfl) hlocks hf (Nat.le_of_ble_eq_true rfl) (Nat.le_of_ble_eq_true rfl)

theorem dX12_remember_0 : decode cX12_remember 0 = .ok (.aload_n 0, 1) := by decide +kernel
theorem dX12_remember_1 : decode cX12_remember 1 = .ok (.getfield 102, 3) := by decide +kernel
theorem dX12_remember_4 : decode cX12_remember 4 = .ok (.bipush 8, 2) := by decide +kernel
theorem dX12_remember_6 : decode cX12_remember 6 = .ok (.if_icmp .lt 60, 3) := by decide +kernel
theorem dX12_remember_9 : decode cX12_remember 9 = .ok (.aload_n 0, 1) := by decide +kernel
theorem dX12_remember_10 : decode cX12_remember 10 = .ok (.getfield 45, 3) := by decide +kernel
theorem dX12_remember_13 : decode cX12_remember 13 = .ok (.iconst 0, 1) := by decide +kernel
theorem dX12_remember_14 : decode cX12_remember 14 = .ok (.aaload, 1) := by decide +kernel
theorem dX12_remember_15 : decode cX12_remember 15 = .ok (.astore_n 1, 1) := by decide +kernel
theorem dX12_remember_16 : decode cX12_remember 16 = .ok (.iconst 1, 1) := by decide +kernel
theorem dX12_remember_17 : decode cX12_remember 17 = .ok (.istore_n 2, 1) := by decide +kernel
theorem dX12_remember_18 : decode cX12_remember 18 = .ok (.iload_n 2, 1) := by decide +kernel
theorem dX12_remember_19 : decode cX12_remember 19 = .ok (.aload_n 0, 1) := by decide +kernel
theorem dX12_remember_20 : decode cX12_remember 20 = .ok (.getfield 45, 3) := by decide +kernel
theorem dX12_remember_23 : decode cX12_remember 23 = .ok (.arraylength, 1) := by decide +kernel
theorem dX12_remember_24 : decode cX12_remember 24 = .ok (.if_icmp .ge 23, 3) := by decide +kernel
theorem dX12_remember_27 : decode cX12_remember 27 = .ok (.aload_n 0, 1) := by decide +kernel
theorem dX12_remember_28 : decode cX12_remember 28 = .ok (.getfield 45, 3) := by decide +kernel
theorem dX12_remember_31 : decode cX12_remember 31 = .ok (.iload_n 2, 1) := by decide +kernel
theorem dX12_remember_32 : decode cX12_remember 32 = .ok (.iconst 1, 1) := by decide +kernel
theorem dX12_remember_33 : decode cX12_remember 33 = .ok (.isub, 1) := by decide +kernel
theorem dX12_remember_34 : decode cX12_remember 34 = .ok (.aload_n 0, 1) := by decide +kernel
theorem dX12_remember_35 : decode cX12_remember 35 = .ok (.getfield 45, 3) := by decide +kernel
theorem dX12_remember_38 : decode cX12_remember 38 = .ok (.iload_n 2, 1) := by decide +kernel
theorem dX12_remember_39 : decode cX12_remember 39 = .ok (.aaload, 1) := by decide +kernel
theorem dX12_remember_40 : decode cX12_remember 40 = .ok (.aastore, 1) := by decide +kernel
theorem dX12_remember_41 : decode cX12_remember 41 = .ok (.iinc 2 1, 3) := by decide +kernel
theorem dX12_remember_44 : decode cX12_remember 44 = .ok (.goto (-26), 3) := by decide +kernel
theorem dX12_remember_47 : decode cX12_remember 47 = .ok (.aload_n 0, 1) := by decide +kernel
theorem dX12_remember_48 : decode cX12_remember 48 = .ok (.getfield 45, 3) := by decide +kernel
theorem dX12_remember_51 : decode cX12_remember 51 = .ok (.aload_n 0, 1) := by decide +kernel
theorem dX12_remember_52 : decode cX12_remember 52 = .ok (.getfield 45, 3) := by decide +kernel
theorem dX12_remember_55 : decode cX12_remember 55 = .ok (.arraylength, 1) := by decide +kernel
theorem dX12_remember_56 : decode cX12_remember 56 = .ok (.iconst 1, 1) := by decide +kernel
theorem dX12_remember_57 : decode cX12_remember 57 = .ok (.isub, 1) := by decide +kernel
theorem dX12_remember_58 : decode cX12_remember 58 = .ok (.aload_n 1, 1) := by decide +kernel
theorem dX12_remember_59 : decode cX12_remember 59 = .ok (.aastore, 1) := by decide +kernel
theorem dX12_remember_60 : decode cX12_remember 60 = .ok (.aload_n 0, 1) := by decide +kernel
theorem dX12_remember_61 : decode cX12_remember 61 = .ok (.bipush 7, 2) := by decide +kernel
theorem dX12_remember_63 : decode cX12_remember 63 = .ok (.putfield 102, 3) := by decide +kernel
theorem dX12_remember_66 : decode cX12_remember 66 = .ok (.aload_n 0, 1) := by decide +kernel
theorem dX12_remember_67 : decode cX12_remember 67 = .ok (.getfield 45, 3) := by decide +kernel
theorem dX12_remember_70 : decode cX12_remember 70 = .ok (.aload_n 0, 1) := by decide +kernel
theorem dX12_remember_71 : decode cX12_remember 71 = .ok (.getfield 102, 3) := by decide +kernel
theorem dX12_remember_74 : decode cX12_remember 74 = .ok (.aaload, 1) := by decide +kernel
theorem dX12_remember_75 : decode cX12_remember 75 = .ok (.aload_n 0, 1) := by decide +kernel
theorem dX12_remember_76 : decode cX12_remember 76 = .ok (.getfield 35, 3) := by decide +kernel
theorem dX12_remember_79 : decode cX12_remember 79 = .ok (.invokevirtual 362, 3) := by decide +kernel
theorem dX12_remember_82 : decode cX12_remember 82 = .ok (.aload_n 0, 1) := by decide +kernel
theorem dX12_remember_83 : decode cX12_remember 83 = .ok (.dup, 1) := by decide +kernel
theorem dX12_remember_84 : decode cX12_remember 84 = .ok (.getfield 102, 3) := by decide +kernel
theorem dX12_remember_87 : decode cX12_remember 87 = .ok (.iconst 1, 1) := by decide +kernel
theorem dX12_remember_88 : decode cX12_remember 88 = .ok (.iadd, 1) := by decide +kernel
theorem dX12_remember_89 : decode cX12_remember 89 = .ok (.putfield 102, 3) := by decide +kernel
theorem dX12_remember_92 : decode cX12_remember 92 = .ok (.return_, 1) := by decide +kernel
theorem hd_X12_remember : yX12_remember.cls = RX12 ∧ yX12_remember.cls ≠ "java/lang/invoke/MethodHandle" ∧ yX12_remember.cls ≠ "java/lang/invoke/VarHandle" ∧ (parseMethodDescriptor yX12_remember.desc).map (fun d => d.parameters.length) = some 0 := by decide +kernel
theorem hs_X12_remember : yX12_remember.cls ≠ "java/lang/invoke/MethodHandle" ∧ yX12_remember.cls ≠ "java/lang/invoke/VarHandle" ∧ (parseMethodDescriptor yX12_remember.desc).map (fun d => d.parameters.length) = some 0 := by decide +kernel
set_option maxHeartbeats 4000000 in
set_option maxRecDepth 100000 in
theorem l_X12_remember_L18 (C : CX p l e s m args meth c cX12_remember 3 RX12 (Option.none : Option Jvm.ClassFile.FieldType) E) {o : Nat} (ho : K o = some (10, 0)) {w' : Wd} (k : Option Nat → Int32 → Wd → Option Wd) (hk : ∀ (v1_18 : Option Nat) (v2_18 : Int32) (w : Wd) (H : Heap) (locs : List Loc) (ls : Array Slot), HQ E K z w s H locs → lv_has ls 3 [(1, rv E v1_18), (2, .int v2_18), (0, rv E (some o))] → k v1_18 v2_18 w = some w' → W p l e ({ frames := 3, cells := 0, slots := 0, locals := 103 } : Room) s m args below meth c H locs 0 0 (MQ below (QV E K z w') args s 0 0 (hA E)) (F0 m 47 ls [])) : ∀ (n : Nat) (v1_18 : Option Nat) (v2_18 : Int32) (w : Wd) (H : Heap) (locs : List Loc) (ls : Array Slot), HQ E K z w s H locs → lv_has ls 3 [(1, rv E v1_18), (2, .int v2_18), (0, rv E (some o))] → f_X12_remember_L18 K o k n v1_18 v2_18 w = some w' → W p l e ({ frames := 3, cells := 0, slots := 0, locals := 103 } : Room) s m args below meth c H locs 0 0 (MQ below (QV E K z w') args s 0 0 (hA E)) (F0 m 18 ls []) := by
  obtain ⟨hx, hb, hml, hown, hts, hKs, hT, hb0, hlocks, hret⟩ := id C
  intro n
  induction n with
  | zero =>
    intro v1_18 v2_18 w H locs ls hH hl hf
    cases hf
  | succ n ih =>
    intro v1_18 v2_18 w H locs ls hH hl hf
    rw [f_X12_remember_L18] at hf
    refine lv_iload_n hx hb dX12_remember_18 rfl (lv_at hl 1 rfl) ?_
    refine hl_aload_n hx hb dX12_remember_19 rfl (lv_at hl 2 rfl) ?_
    refine g12_9 hx hb hts hown hKs hH rfl ho m2_228 dX12_remember_20 ?_
    obtain ⟨a10, ha10, hf⟩ := bnd hf
    replace ha10 := cha_some ha10
    refine hw_alen28 hx hb hKs hH ha10.1 ha10.2 dX12_remember_23 ?_
    refine lv_icmp_ge (tgt := 47) hx hb dX12_remember_24 (by decide) (fun c11 => ?_) (fun c11 => ?_)
    · replace hf := (if_pos c11).symm.trans hf
      exact hk v1_18 v2_18 _ _ _ _ hH (lv_sub hl [0, 1, 2] rfl) hf
    · replace hf := (if_neg c11).symm.trans hf
      refine hl_aload_n hx hb dX12_remember_27 rfl (lv_at hl 2 rfl) ?_
      refine g12_9 hx hb hts hown hKs hH rfl ho m2_228 dX12_remember_28 ?_
      refine lv_iload_n hx hb dX12_remember_31 rfl (lv_at hl 1 rfl) ?_
      refine lv_iconst (v := 1) hx hb dX12_remember_32 (by decide) ?_
      refine lv_isub hx hb dX12_remember_33 ?_
      refine hl_aload_n hx hb dX12_remember_34 rfl (lv_at hl 2 rfl) ?_
      refine g12_9 hx hb hts hown hKs hH rfl ho m2_228 dX12_remember_35 ?_
      refine lv_iload_n hx hb dX12_remember_38 rfl (lv_at hl 1 rfl) ?_
      obtain ⟨j12, hj12, hf⟩ := bnd hf
      refine hw_aald28 hx hb hKs hH ha10.1 ha10.2 hj12 dX12_remember_39 ?_
      obtain ⟨j13, hj13, hf⟩ := bnd hf
      obtain ⟨a14, ha14, hf⟩ := bnd hf
      replace ha14 := chk_some ha14
      obtain ⟨w15, hw15, hf⟩ := bnd hf
      replace hw15 := Option.some.inj hw15
      refine hw_aast28 hx hb hKs hH ha10.1 ha10.2 ha14.1 ha14.2 hj13 dX12_remember_40 (fun H locs hH => ?_)
      rw [hw15] at hH
      refine lv_iinc (v := (v2_18 + 1)) (lv' := [(2, .int ((v2_18 + 1))), (1, rv E v1_18), (0, rv E (some o))]) hx hb dX12_remember_41 hl (k := 1) rfl rfl (by decide) (by simp [List.filter_cons, cat_q, cat_i, cat_j]) (fun ls hl => ?_)
      refine lv_goto (tgt := 18) hx hb dX12_remember_44 (by decide) ?_
      exact ih v1_18 (v2_18 + 1) _ _ _ _ hH (lv_sub hl [1, 0, 2] rfl) hf
set_option maxHeartbeats 4000000 in
set_option maxRecDepth 100000 in
theorem k_X12_remember (l : Launch) (E : Ev) (K : Kd) (z : Nat) (o : Nat) (w : Wd) (ho : K o = some (10, 0)) {w' : Wd} (hf : f_X12_remember K o w = some w') : Met l yX12_remember (Cond.code yX12_remember cX12_remember 3 (Option.none : Option Jvm.ClassFile.FieldType) :: bt) ({ frames := 3, cells := 0, slots := 0, locals := 103 } : Room) (va_Pc [rv E (some o)] (HB E K w z)) (QV E K z w') 0 0 (hA E) := by
  refine Met.ofW (cc := cX12_remember) (maxL := 3) (ret := (Option.none : Option Jvm.ClassFile.FieldType)) (by decide) rfl ?_
  intro p e s m args below meth c s₁ B hml hv
  obtain ⟨rfl, hz, hP, hKs, hT, hb0⟩ := hv
  have C : CX p l e s m _ meth c cX12_remember 3 RX12 (Option.none : Option Jvm.ClassFile.FieldType) E := ⟨B.exec, B.bytes, hml, findClass_of_methodNamed B.named, fun w h => atoms_spec (ws := Cond.code yX12_remember cX12_remember 3 (Option.none : Option Jvm.ClassFile.FieldType) :: bt) B.pre w (List.mem_cons_of_mem _ h), hKs, hT, by rw [hz]; exact hb0, B.notSynchronized, B.returns⟩
  have hH : HQ E K z w s s.heap [] := ⟨hP, va_S.rf, hz⟩
  obtain ⟨hx, hb, hml, hown, hts, hKs, hT, hb0, hlocks, hret⟩ := id C
  have hl := lv_entry [rv E (some o)] (n := 3) (by simp [lg_len_nil, lg_len_i, lg_len_j, lg_len_q, lg_len_f, lg_len_d, lg_len_r])
  rw [lg_entry_eq]
  generalize (lg_sl [rv E (some o)] ++ List.replicate (3 - (lg_sl [rv E (some o)]).length) Slot.unset).toArray = ls at hl ⊢
  replace hl : lv_has ls 3 [(0, rv E (some o))] := by simpa only [lv_args, cat_q, cat_i, cat_j, reduceIte, Nat.reduceEqDiff, Nat.reduceAdd, Nat.zero_add] using hl
  generalize s.heap = H at hH ⊢
  unfold f_X12_remember at hf
  refine hl_aload_n hx hb dX12_remember_0 rfl (lv_at hl 0 rfl) ?_
  refine g12_10 hx hb hts hown hKs hH rfl ho m2_229 dX12_remember_1 ?_
  refine lv_bipush (v := 8) hx hb dX12_remember_4 (by decide) ?_
  refine lv_icmp_lt (tgt := 66) hx hb dX12_remember_6 (by decide) (fun c1 => ?_) (fun c1 => ?_)
  · replace hf := (if_pos c1).symm.trans hf
    refine hl_aload_n hx hb dX12_remember_66 rfl (lv_at hl 0 rfl) ?_
    refine g12_9 hx hb hts hown hKs hH rfl ho m2_228 dX12_remember_67 ?_
    refine hl_aload_n hx hb dX12_remember_70 rfl (lv_at hl 0 rfl) ?_
    refine g12_10 hx hb hts hown hKs hH rfl ho m2_229 dX12_remember_71 ?_
    obtain ⟨a2, ha2, hf⟩ := bnd hf
    replace ha2 := cha_some ha2
    obtain ⟨j3, hj3, hf⟩ := bnd hf
    refine hw_aald28 hx hb hKs hH ha2.1 ha2.2 hj3 dX12_remember_74 ?_
    refine hl_aload_n hx hb dX12_remember_75 rfl (lv_at hl 0 rfl) ?_
    refine g12_5 hx hb hts hown hKs hH rfl ho m2_224 dX12_remember_76 ?_
    obtain ⟨a4, ha4, hf⟩ := bnd hf
    replace ha4 := chk_some ha4
    obtain ⟨q5, hq5, hf⟩ := bnd hf
    refine hcV_v hx hb hml hown hts hKs hT hb0 hH (As := [rv E (wR w 1205 o)]) (rest := []) (k_X10_copyFrom l E K H.size a4 (wR w 1205 o) w ha4.2 hq5) (gV m4_87 m4_88 m4_89 m1_12 m4_90) hd_X10_copyFrom ⟨Nat.le_of_ble_eq_true rfl, Nat.le_of_ble_eq_true rfl, rfl, rfl⟩ ha4.1 ha4.2 rfl rfl rfl hl.1 rfl rc0 rfl dX12_remember_79 ⟨Nat.zero_le _, Nat.zero_le _⟩ (fun H locs hH => ?_)
    refine hl_aload_n hx hb dX12_remember_82 rfl (lv_at hl 0 rfl) ?_
    refine lv_dup hx hb dX12_remember_83 rv_cat ?_
    refine g12_10 hx hb hts hown hKs hH rfl ho m2_229 dX12_remember_84 ?_
    refine lv_iconst (v := 1) hx hb dX12_remember_87 (by decide) ?_
    refine lv_iadd hx hb dX12_remember_88 ?_
    obtain ⟨w6, hw6, hf⟩ := bnd hf
    replace hw6 := Option.some.inj hw6
    refine p12_10 (v := ((wI q5 1210 o) + 1)) hx hb hts hown hKs hH rfl ho m2_229 dX12_remember_89 (fun H locs hH => ?_)
    rw [hw6] at hH
    exact hw_vret hx hb hret hf hH hlocks dX12_remember_92
  · replace hf := (if_neg c1).symm.trans hf
    refine hl_aload_n hx hb dX12_remember_9 rfl (lv_at hl 0 rfl) ?_
    refine g12_9 hx hb hts hown hKs hH rfl ho m2_228 dX12_remember_10 ?_
    refine lv_iconst (v := 0) hx hb dX12_remember_13 (by decide) ?_
    obtain ⟨a7, ha7, hf⟩ := bnd hf
    replace ha7 := cha_some ha7
    obtain ⟨j8, hj8, hf⟩ := bnd hf
    refine hw_aald28 hx hb hKs hH ha7.1 ha7.2 hj8 dX12_remember_14 ?_
    refine hl_astore_n (lv' := [(1, rv E (aR w a7.1 j8)), (0, rv E (some o))]) hx hb dX12_remember_15 rfl hl (by decide) rfl (fun ls hl => ?_)
    refine lv_iconst (v := 1) hx hb dX12_remember_16 (by decide) ?_
    refine lv_istore_n (lv' := [(2, .int 1), (1, rv E (aR w a7.1 j8)), (0, rv E (some o))]) hx hb dX12_remember_17 rfl hl (by decide) (by simp [List.filter_cons, cat_q, cat_i, cat_j]) (fun ls hl => ?_)
    refine l_X12_remember_L18  C ho _ (fun v1_18 v2_18 w9 H locs ls hH hl hf => ?_) fu (aR w a7.1 j8) 1 w _ _ _ hH (lv_sub hl [1, 0, 2] rfl) hf
    refine hl_aload_n hx hb dX12_remember_47 rfl (lv_at hl 2 rfl) ?_
    refine g12_9 hx hb hts hown hKs hH rfl ho m2_228 dX12_remember_48 ?_
    refine hl_aload_n hx hb dX12_remember_51 rfl (lv_at hl 2 rfl) ?_
    refine g12_9 hx hb hts hown hKs hH rfl ho m2_228 dX12_remember_52 ?_
    obtain ⟨a16, ha16, hf⟩ := bnd hf
    replace ha16 := cha_some ha16
    refine hw_alen28 hx hb hKs hH ha16.1 ha16.2 dX12_remember_55 ?_
    refine lv_iconst (v := 1) hx hb dX12_remember_56 (by decide) ?_
    refine lv_isub hx hb dX12_remember_57 ?_
    refine hl_aload_n hx hb dX12_remember_58 rfl (lv_at hl 0 rfl) ?_
    obtain ⟨j17, hj17, hf⟩ := bnd hf
    obtain ⟨a18, ha18, hf⟩ := bnd hf
    replace ha18 := chk_some ha18
    obtain ⟨w19, hw19, hf⟩ := bnd hf
    replace hw19 := Option.some.inj hw19
    refine hw_aast28 hx hb hKs hH ha16.1 ha16.2 ha18.1 ha18.2 hj17 dX12_remember_59 (fun H locs hH => ?_)
    rw [hw19] at hH
    refine hl_aload_n hx hb dX12_remember_60 rfl (lv_at hl 2 rfl) ?_
    refine lv_bipush (v := 7) hx hb dX12_remember_61 (by decide) ?_
    obtain ⟨w20, hw20, hf⟩ := bnd hf
    replace hw20 := Option.some.inj hw20
    refine p12_10 (v := 7) hx hb hts hown hKs hH rfl ho m2_229 dX12_remember_63 (fun H locs hH => ?_)
    rw [hw20] at hH
    refine hl_aload_n hx hb dX12_remember_66 rfl (lv_at hl 2 rfl) ?_
    refine g12_9 hx hb hts hown hKs hH rfl ho m2_228 dX12_remember_67 ?_
    refine hl_aload_n hx hb dX12_remember_70 rfl (lv_at hl 2 rfl) ?_
    refine g12_10 hx hb hts hown hKs hH rfl ho m2_229 dX12_remember_71 ?_
    obtain ⟨a21, ha21, hf⟩ := bnd hf
    replace ha21 := cha_some ha21
    obtain ⟨j22, hj22, hf⟩ := bnd hf
    refine hw_aald28 hx hb hKs hH ha21.1 ha21.2 hj22 dX12_remember_74 ?_
    refine hl_aload_n hx hb dX12_remember_75 rfl (lv_at hl 2 rfl) ?_
    refine g12_5 hx hb hts hown hKs hH rfl ho m2_224 dX12_remember_76 ?_
    obtain ⟨a23, ha23, hf⟩ := bnd hf
    replace ha23 := chk_some ha23
    obtain ⟨q24, hq24, hf⟩ := bnd hf
    refine hcV_v hx hb hml hown hts hKs hT hb0 hH (As := [rv E (wR w20 1205 o)]) (rest := []) (k_X10_copyFrom l E K H.size a23 (wR w20 1205 o) w20 ha23.2 hq24) (gV m4_87 m4_88 m4_89 m1_12 m4_90) hd_X10_copyFrom ⟨Nat.le_of_ble_eq_true rfl, Nat.le_of_ble_eq_true rfl, rfl, rfl⟩ ha23.1 ha23.2 rfl rfl rfl hl.1 rfl rc0 rfl dX12_remember_79 ⟨Nat.zero_le _, Nat.zero_le _⟩ (fun H locs hH => ?_)
    refine hl_aload_n hx hb dX12_remember_82 rfl (lv_at hl 2 rfl) ?_
    refine lv_dup hx hb dX12_remember_83 rv_cat ?_
    refine g12_10 hx hb hts hown hKs hH rfl ho m2_229 dX12_remember_84 ?_
    refine lv_iconst (v := 1) hx hb dX12_remember_87 (by decide) ?_
    refine lv_iadd hx hb dX12_remember_88 ?_
    obtain ⟨w25, hw25, hf⟩ := bnd hf
    replace hw25 := Option.some.inj hw25
    refine p12_10 (v := ((wI q24 1210 o) + 1)) hx hb hts hown hKs hH rfl ho m2_229 dX12_remember_89 (fun H locs hH => ?_)
    rw [hw25] at hH
    exact hw_vret hx hb hret hf hH hlocks dX12_remember_92

theorem dX12_lapsesIn_0 : decode cX12_lapsesIn 0 = .ok (.aload_n 0, 1) := by decide +kernel
theorem dX12_lapsesIn_1 : decode cX12_lapsesIn 1 = .ok (.iload_n 1, 1) := by decide +kernel
theorem dX12_lapsesIn_2 : decode cX12_lapsesIn 2 = .ok (.invokevirtual 322, 3) := by decide +kernel
theorem dX12_lapsesIn_5 : decode cX12_lapsesIn 5 = .ok (.aload_n 0, 1) := by decide +kernel
theorem dX12_lapsesIn_6 : decode cX12_lapsesIn 6 = .ok (.getfield 35, 3) := by decide +kernel
theorem dX12_lapsesIn_9 : decode cX12_lapsesIn 9 = .ok (.iconst 3, 1) := by decide +kernel
theorem dX12_lapsesIn_10 : decode cX12_lapsesIn 10 = .ok (.invokevirtual 130, 3) := by decide +kernel
theorem dX12_lapsesIn_13 : decode cX12_lapsesIn 13 = .ok (.istore_n 2, 1) := by decide +kernel
theorem dX12_lapsesIn_14 : decode cX12_lapsesIn 14 = .ok (.aload_n 0, 1) := by decide +kernel
theorem dX12_lapsesIn_15 : decode cX12_lapsesIn 15 = .ok (.getfield 42, 3) := by decide +kernel
theorem dX12_lapsesIn_18 : decode cX12_lapsesIn 18 = .ok (.aload_n 0, 1) := by decide +kernel
theorem dX12_lapsesIn_19 : decode cX12_lapsesIn 19 = .ok (.getfield 35, 3) := by decide +kernel
theorem dX12_lapsesIn_22 : decode cX12_lapsesIn 22 = .ok (.invokevirtual 362, 3) := by decide +kernel
theorem dX12_lapsesIn_25 : decode cX12_lapsesIn 25 = .ok (.aload_n 0, 1) := by decide +kernel
theorem dX12_lapsesIn_26 : decode cX12_lapsesIn 26 = .ok (.getfield 42, 3) := by decide +kernel
theorem dX12_lapsesIn_29 : decode cX12_lapsesIn 29 = .ok (.iload_n 1, 1) := by decide +kernel
theorem dX12_lapsesIn_30 : decode cX12_lapsesIn 30 = .ok (.invokevirtual 328, 3) := by decide +kernel
theorem dX12_lapsesIn_33 : decode cX12_lapsesIn 33 = .ok (.pop, 1) := by decide +kernel
theorem dX12_lapsesIn_34 : decode cX12_lapsesIn 34 = .ok (.aload_n 0, 1) := by decide +kernel
theorem dX12_lapsesIn_35 : decode cX12_lapsesIn 35 = .ok (.getfield 42, 3) := by decide +kernel
theorem dX12_lapsesIn_38 : decode cX12_lapsesIn 38 = .ok (.iconst 3, 1) := by decide +kernel
theorem dX12_lapsesIn_39 : decode cX12_lapsesIn 39 = .ok (.invokevirtual 130, 3) := by decide +kernel
theorem dX12_lapsesIn_42 : decode cX12_lapsesIn 42 = .ok (.iload_n 2, 1) := by decide +kernel
theorem dX12_lapsesIn_43 : decode cX12_lapsesIn 43 = .ok (.isub, 1) := by decide +kernel
theorem dX12_lapsesIn_44 : decode cX12_lapsesIn 44 = .ok (.ireturn, 1) := by decide +kernel
theorem hd_X12_lapsesIn : yX12_lapsesIn.cls = RX12 ∧ yX12_lapsesIn.cls ≠ "java/lang/invoke/MethodHandle" ∧ yX12_lapsesIn.cls ≠ "java/lang/invoke/VarHandle" ∧ (parseMethodDescriptor yX12_lapsesIn.desc).map (fun d => d.parameters.length) = some 1 := by decide +kernel
theorem hs_X12_lapsesIn : yX12_lapsesIn.cls ≠ "java/lang/invoke/MethodHandle" ∧ yX12_lapsesIn.cls ≠ "java/lang/invoke/VarHandle" ∧ (parseMethodDescriptor yX12_lapsesIn.desc).map (fun d => d.parameters.length) = some 1 := by decide +kernel
set_option maxHeartbeats 4000000 in
set_option maxRecDepth 100000 in
theorem k_X12_lapsesIn (l : Launch) (hls : l.stackTraces = false) (E : Ev) (K : Kd) (z : Nat) (o : Nat) (a_1 : Int32) (w : Wd) (ho : K o = some (10, 0)) {r : Int32 ⊕ Nat} {w' : Wd} (hf : f_X12_lapsesIn K o a_1 w = some (r, w')) : vx_Met l yX12_lapsesIn (Cond.code yX12_lapsesIn cX12_lapsesIn 3 (Option.some Jvm.ClassFile.FieldType.int) :: bt) ({ frames := 7, cells := 1, slots := 6, locals := 111 } : Room) (va_Pc [rv E (some o), .int a_1] (HB E K w z)) (XI E K z w' r) (XX E K w' r) 1 6 (hA E) := by
  refine vx_ofW (cc := cX12_lapsesIn) (maxL := 3) (ret := (Option.some Jvm.ClassFile.FieldType.int)) (by decide) rfl ?_
  intro p e s m args below meth c s₁ B hml hout hv
  obtain ⟨rfl, hz, hP, hKs, hT, hb0⟩ := hv
  have C : CX p l e s m _ meth c cX12_lapsesIn 3 RX12 (Option.some Jvm.ClassFile.FieldType.int) E := ⟨B.exec, B.bytes, hml, findClass_of_methodNamed B.named, fun w h => atoms_spec (ws := Cond.code yX12_lapsesIn cX12_lapsesIn 3 (Option.some Jvm.ClassFile.FieldType.int) :: bt) B.pre w (List.mem_cons_of_mem _ h), hKs, hT, by rw [hz]; exact hb0, B.notSynchronized, B.returns⟩
  have hH : HQ E K z w s s.heap [] := ⟨hP, va_S.rf, hz⟩
  obtain ⟨hx, hb, hml, hown, hts, hKs, hT, hb0, hlocks, hret⟩ := id C
  have hl := lv_entry [rv E (some o), .int a_1] (n := 3) (by simp [lg_len_nil, lg_len_i, lg_len_j, lg_len_q, lg_len_f, lg_len_d, lg_len_r])
  rw [lg_entry_eq]
  generalize (lg_sl [rv E (some o), .int a_1] ++ List.replicate (3 - (lg_sl [rv E (some o), .int a_1]).length) Slot.unset).toArray = ls at hl ⊢
  replace hl : lv_has ls 3 [(0, rv E (some o)), (1, .int a_1)] := by simpa only [lv_args, cat_q, cat_i, cat_j, reduceIte, Nat.reduceEqDiff, Nat.reduceAdd, Nat.zero_add] using hl
  generalize s.heap = H at hH ⊢
  unfold f_X12_lapsesIn at hf
  refine hl_aload_n hx hb dX12_lapsesIn_0 rfl (lv_at hl 0 rfl) ?_
  refine lv_iload_n hx hb dX12_lapsesIn_1 rfl (lv_at hl 1 rfl) ?_
  obtain ⟨q1, hq1, hf⟩ := bnd hf
  refine hxV_v hx hb hml hown hts hKs hT hb0 hH (As := [.int a_1]) (rest := []) (k_X12_requirePassable l hls E K H.size o a_1 w ho hq1) (gV m6_50 m6_52 ms_41 m1_1 m6_53) hd_X12_requirePassable ⟨Nat.le_of_ble_eq_true rfl, Nat.le_of_ble_eq_true rfl, rfl, rfl⟩ rfl ho rfl rfl rfl hl.1 rfl rc0 rfl dX12_lapsesIn_2 ⟨Nat.le_of_ble_eq_true rfl, Nat.le_of_ble_eq_true rfl⟩ ⟨Nat.le_of_ble_eq_true rfl, Nat.le_of_ble_eq_true rfl⟩ hout hlocks (fun x hx9 => (fun h9 => ⟨(congrArg Prod.fst h9).symm, (congrArg Prod.snd h9).symm⟩) (Option.some.inj ((xk_inr hx9).symm.trans hf))) (fun v2 hv2 H locs hH => ?_)
  replace hf := (xk_inl hv2).symm.trans hf
  refine hl_aload_n hx hb dX12_lapsesIn_5 rfl (lv_at hl 0 rfl) ?_
  refine g12_5 hx hb hts hown hKs hH rfl ho m2_224 dX12_lapsesIn_6 ?_
  refine lv_iconst (v := 3) hx hb dX12_lapsesIn_9 (by decide) ?_
  obtain ⟨a3, ha3, hf⟩ := bnd hf
  replace ha3 := chk_some ha3
  obtain ⟨q4, hq4, hf⟩ := bnd hf
  refine hcV_i hx hb hml hown hts hKs hT hb0 hH (As := [.int 3]) (rest := []) (k_X10_countPhase l E K H.size a3 3 q1.2 ha3.2 hq4) (gV m4_19 m4_20 m4_21 m1_12 m4_22) hd_X10_countPhase ⟨Nat.le_of_ble_eq_true rfl, Nat.le_of_ble_eq_true rfl, rfl, rfl⟩ ha3.1 ha3.2 rfl rfl rfl hl.1 rfl rc0 rfl dX12_lapsesIn_10 ⟨Nat.le_of_ble_eq_true rfl, Nat.le_of_ble_eq_true rfl⟩ (fun H locs hH => ?_)
  refine lv_istore_n (lv' := [(2, .int (q4.1)), (0, rv E (some o)), (1, .int a_1)]) hx hb dX12_lapsesIn_13 rfl hl (by decide) rfl (fun ls hl => ?_)
  refine hl_aload_n hx hb dX12_lapsesIn_14 rfl (lv_at hl 1 rfl) ?_
  refine g12_8 hx hb hts hown hKs hH rfl ho m2_227 dX12_lapsesIn_15 ?_
  refine hl_aload_n hx hb dX12_lapsesIn_18 rfl (lv_at hl 1 rfl) ?_
  refine g12_5 hx hb hts hown hKs hH rfl ho m2_224 dX12_lapsesIn_19 ?_
  obtain ⟨a5, ha5, hf⟩ := bnd hf
  replace ha5 := chk_some ha5
  obtain ⟨q6, hq6, hf⟩ := bnd hf
  refine hcV_v hx hb hml hown hts hKs hT hb0 hH (As := [rv E (wR q4.2 1205 o)]) (rest := []) (k_X10_copyFrom l E K H.size a5 (wR q4.2 1205 o) q4.2 ha5.2 hq6) (gV m4_87 m4_88 m4_89 m1_12 m4_90) hd_X10_copyFrom ⟨Nat.le_of_ble_eq_true rfl, Nat.le_of_ble_eq_true rfl, rfl, rfl⟩ ha5.1 ha5.2 rfl rfl rfl hl.1 rfl rc0 rfl dX12_lapsesIn_22 ⟨Nat.le_of_ble_eq_true rfl, Nat.le_of_ble_eq_true rfl⟩ (fun H locs hH => ?_)
  refine hl_aload_n hx hb dX12_lapsesIn_25 rfl (lv_at hl 1 rfl) ?_
  refine g12_8 hx hb hts hown hKs hH rfl ho m2_227 dX12_lapsesIn_26 ?_
  refine lv_iload_n hx hb dX12_lapsesIn_29 rfl (lv_at hl 2 rfl) ?_
  obtain ⟨a7, ha7, hf⟩ := bnd hf
  replace ha7 := chk_some ha7
  obtain ⟨q8, hq8, hf⟩ := bnd hf
  refine hcV_i hx hb hml hown hts hKs hT hb0 hH (As := [.int a_1]) (rest := []) (k_X10_passDays l E K H.size a7 a_1 q6 ha7.2 hq8) (gV m6_54 m6_55 m6_56 m1_12 m6_57) hd_X10_passDays ⟨Nat.le_of_ble_eq_true rfl, Nat.le_of_ble_eq_true rfl, rfl, rfl⟩ ha7.1 ha7.2 rfl rfl rfl hl.1 rfl rc0 rfl dX12_lapsesIn_30 ⟨Nat.le_of_ble_eq_true rfl, Nat.le_of_ble_eq_true rfl⟩ (fun H locs hH => ?_)
  refine lv_pop hx hb dX12_lapsesIn_33 rfl ?_
  refine hl_aload_n hx hb dX12_lapsesIn_34 rfl (lv_at hl 1 rfl) ?_
  refine g12_8 hx hb hts hown hKs hH rfl ho m2_227 dX12_lapsesIn_35 ?_
  refine lv_iconst (v := 3) hx hb dX12_lapsesIn_38 (by decide) ?_
  obtain ⟨a9, ha9, hf⟩ := bnd hf
  replace ha9 := chk_some ha9
  obtain ⟨q10, hq10, hf⟩ := bnd hf
  refine hcV_i hx hb hml hown hts hKs hT hb0 hH (As := [.int 3]) (rest := []) (k_X10_countPhase l E K H.size a9 3 q8.2 ha9.2 hq10) (gV m4_19 m4_20 m4_21 m1_12 m4_22) hd_X10_countPhase ⟨Nat.le_of_ble_eq_true rfl, Nat.le_of_ble_eq_true rfl, rfl, rfl⟩ ha9.1 ha9.2 rfl rfl rfl hl.1 rfl rc0 rfl dX12_lapsesIn_39 ⟨Nat.le_of_ble_eq_true rfl, Nat.le_of_ble_eq_true rfl⟩ (fun H locs hH => ?_)
  refine lv_iload_n hx hb dX12_lapsesIn_42 rfl (lv_at hl 0 rfl) ?_
  refine lv_isub hx hb dX12_lapsesIn_43 ?_
  exact hx_iret hx hb (Nat.le_of_ble_eq_true rfl) (Nat.le_of_ble_eq_true rfl) hret hf hH hlocks dX12_lapsesIn_44

theorem dX12_printName_0 : decode cX12_printName 0 = .ok (.aload_n 0, 1) := by decide +kernel
theorem dX12_printName_1 : decode cX12_printName 1 = .ok (.getfield 35, 3) := by decide +kernel
theorem dX12_printName_4 : decode cX12_printName 4 = .ok (.getfield 87, 3) := by decide +kernel
theorem dX12_printName_7 : decode cX12_printName 7 = .ok (.getfield 140, 3) := by decide +kernel
theorem dX12_printName_10 : decode cX12_printName 10 = .ok (.iload_n 1, 1) := by decide +kernel
theorem dX12_printName_11 : decode cX12_printName 11 = .ok (.aaload, 1) := by decide +kernel
theorem dX12_printName_12 : decode cX12_printName 12 = .ok (.iload_n 2, 1) := by decide +kernel
theorem dX12_printName_13 : decode cX12_printName 13 = .ok (.invokevirtual 382, 3) := by decide +kernel
theorem dX12_printName_16 : decode cX12_printName 16 = .ok (.lstore_n 3, 1) := by decide +kernel
theorem dX12_printName_17 : decode cX12_printName 17 = .ok (.bipush 56, 2) := by decide +kernel
theorem dX12_printName_19 : decode cX12_printName 19 = .ok (.istore 5, 2) := by decide +kernel
theorem dX12_printName_21 : decode cX12_printName 21 = .ok (.iload 5, 2) := by decide +kernel
theorem dX12_printName_23 : decode cX12_printName 23 = .ok (.ifCond .lt 28, 3) := by decide +kernel
theorem dX12_printName_26 : decode cX12_printName 26 = .ok (.lload_n 3, 1) := by decide +kernel
theorem dX12_printName_27 : decode cX12_printName 27 = .ok (.iload 5, 2) := by decide +kernel
theorem dX12_printName_29 : decode cX12_printName 29 = .ok (.lushr, 1) := by decide +kernel
theorem dX12_printName_30 : decode cX12_printName 30 = .ok (.l2i, 1) := by decide +kernel
theorem dX12_printName_31 : decode cX12_printName 31 = .ok (.i2b, 1) := by decide +kernel
theorem dX12_printName_32 : decode cX12_printName 32 = .ok (.istore 6, 2) := by decide +kernel
theorem dX12_printName_34 : decode cX12_printName 34 = .ok (.iload 6, 2) := by decide +kernel
theorem dX12_printName_36 : decode cX12_printName 36 = .ok (.ifCond .eq 9, 3) := by decide +kernel
theorem dX12_printName_39 : decode cX12_printName 39 = .ok (.aload_n 0, 1) := by decide +kernel
theorem dX12_printName_40 : decode cX12_printName 40 = .ok (.iload 6, 2) := by decide +kernel
theorem dX12_printName_42 : decode cX12_printName 42 = .ok (.invokevirtual 375, 3) := by decide +kernel
theorem dX12_printName_45 : decode cX12_printName 45 = .ok (.iinc 5 (-8), 3) := by decide +kernel
theorem dX12_printName_48 : decode cX12_printName 48 = .ok (.goto (-27), 3) := by decide +kernel
theorem dX12_printName_51 : decode cX12_printName 51 = .ok (.return_, 1) := by decide +kernel
theorem hd_X12_printName : yX12_printName.cls = RX12 ∧ yX12_printName.cls ≠ "java/lang/invoke/MethodHandle" ∧ yX12_printName.cls ≠ "java/lang/invoke/VarHandle" ∧ (parseMethodDescriptor yX12_printName.desc).map (fun d => d.parameters.length) = some 2 := by decide +kernel
theorem hs_X12_printName : yX12_printName.cls ≠ "java/lang/invoke/MethodHandle" ∧ yX12_printName.cls ≠ "java/lang/invoke/VarHandle" ∧ (parseMethodDescriptor yX12_printName.desc).map (fun d => d.parameters.length) = some 2 := by decide +kernel
set_option maxHeartbeats 4000000 in
set_option maxRecDepth 100000 in
theorem l_X12_printName_L21 (C : CX p l e s m args meth c cX12_printName 7 RX12 (Option.none : Option Jvm.ClassFile.FieldType) E) {o : Nat} (ho : K o = some (10, 0)) {w' : Wd} (k : Int32 → Int32 → Int64 → Int32 → Wd → Option Wd) (hk : ∀ (v1_21 : Int32) (v2_21 : Int32) (v3_21 : Int64) (v5_21 : Int32) (w : Wd) (H : Heap) (locs : List Loc) (ls : Array Slot), HQ E K z w s H locs → lv_has ls 7 [(1, .int v1_21), (2, .int v2_21), (3, .long v3_21), (5, .int v5_21), (0, rv E (some o))] → k v1_21 v2_21 v3_21 v5_21 w = some w' → W p l e ({ frames := 1, cells := 0, slots := 0, locals := 21 } : Room) s m args below meth c H locs 0 0 (MQ below (QV E K z w') args s 0 0 (hA E)) (F0 m 51 ls [])) : ∀ (n : Nat) (v1_21 : Int32) (v2_21 : Int32) (v3_21 : Int64) (v5_21 : Int32) (w : Wd) (H : Heap) (locs : List Loc) (ls : Array Slot), HQ E K z w s H locs → lv_has ls 7 [(1, .int v1_21), (2, .int v2_21), (3, .long v3_21), (5, .int v5_21), (0, rv E (some o))] → f_X12_printName_L21 K o k n v1_21 v2_21 v3_21 v5_21 w = some w' → W p l e ({ frames := 1, cells := 0, slots := 0, locals := 21 } : Room) s m args below meth c H locs 0 0 (MQ below (QV E K z w') args s 0 0 (hA E)) (F0 m 21 ls []) := by
  obtain ⟨hx, hb, hml, hown, hts, hKs, hT, hb0, hlocks, hret⟩ := id C
  intro n
  induction n with
  | zero =>
    intro v1_21 v2_21 v3_21 v5_21 w H locs ls hH hl hf
    cases hf
  | succ n ih =>
    intro v1_21 v2_21 v3_21 v5_21 w H locs ls hH hl hf
    rw [f_X12_printName_L21] at hf
    refine lv_iload hx hb dX12_printName_21 (lv_at hl 3 rfl) ?_
    refine lv_if_lt (tgt := 51) hx hb dX12_printName_23 (by decide) (fun c8 => ?_) (fun c8 => ?_)
    · replace hf := (if_pos c8).symm.trans hf
      exact hk v1_21 v2_21 v3_21 v5_21 _ _ _ _ hH (lv_sub hl [0, 1, 2, 3, 4] rfl) hf
    · replace hf := (if_neg c8).symm.trans hf
      refine lv_lload_n hx hb dX12_printName_26 rfl (lv_at hl 2 rfl) ?_
      refine lv_iload hx hb dX12_printName_27 (lv_at hl 3 rfl) ?_
      refine lv_lushr (v := (lsr v3_21 v5_21)) hx hb dX12_printName_29 rfl ?_
      refine lv_l2i (v := ((lsr v3_21 v5_21).toInt32)) hx hb dX12_printName_30 rfl ?_
      refine lv_i2b (v := (((lsr v3_21 v5_21).toInt32).toInt8.toInt32)) hx hb dX12_printName_31 rfl ?_
      refine lv_istore (lv' := [(6, .int ((((lsr v3_21 v5_21).toInt32).toInt8.toInt32))), (1, .int v1_21), (2, .int v2_21), (3, .long v3_21), (5, .int v5_21), (0, rv E (some o))]) hx hb dX12_printName_32 hl (by decide) rfl (fun ls hl => ?_)
      refine lv_iload hx hb dX12_printName_34 (lv_at hl 0 rfl) ?_
      refine lv_if_eq (tgt := 45) hx hb dX12_printName_36 (by decide) (fun c9 => ?_) (fun c9 => ?_)
      · replace hf := (if_pos c9).symm.trans hf
        refine lv_iinc (v := (v5_21 + (-8))) (lv' := [(5, .int ((v5_21 + (-8)))), (6, .int ((((lsr v3_21 v5_21).toInt32).toInt8.toInt32))), (1, .int v1_21), (2, .int v2_21), (3, .long v3_21), (0, rv E (some o))]) hx hb dX12_printName_45 hl (k := 4) rfl rfl (by decide) rfl (fun ls hl => ?_)
        refine lv_goto (tgt := 21) hx hb dX12_printName_48 (by decide) ?_
        exact ih v1_21 v2_21 v3_21 (v5_21 + (-8)) _ _ _ _ hH (lv_sub hl [2, 3, 4, 0, 5] rfl) hf
      · replace hf := (if_neg c9).symm.trans hf
        refine hl_aload_n hx hb dX12_printName_39 rfl (lv_at hl 5 rfl) ?_
        refine lv_iload hx hb dX12_printName_40 (lv_at hl 0 rfl) ?_
        obtain ⟨q10, hq10, hf⟩ := bnd hf
        refine hcV_v hx hb hml hown hts hKs hT hb0 hH (As := [.int ((((lsr v3_21 v5_21).toInt32).toInt8.toInt32))]) (rest := []) (k_X12_print l E K H.size o (((lsr v3_21 v5_21).toInt32).toInt8.toInt32) w ho hq10) (gV m6_143 m6_145 ms_44 m1_1 m6_146) hd_X12_print ⟨Nat.le_of_ble_eq_true rfl, Nat.le_of_ble_eq_true rfl, rfl, rfl⟩ rfl ho rfl rfl rfl hl.1 rfl rc0 rfl dX12_printName_42 ⟨Nat.zero_le _, Nat.zero_le _⟩ (fun H locs hH => ?_)
        refine lv_iinc (v := (v5_21 + (-8))) (lv' := [(5, .int ((v5_21 + (-8)))), (6, .int ((((lsr v3_21 v5_21).toInt32).toInt8.toInt32))), (1, .int v1_21), (2, .int v2_21), (3, .long v3_21), (0, rv E (some o))]) hx hb dX12_printName_45 hl (k := 4) rfl rfl (by decide) rfl (fun ls hl => ?_)
        refine lv_goto (tgt := 21) hx hb dX12_printName_48 (by decide) ?_
        exact ih v1_21 v2_21 v3_21 (v5_21 + (-8)) _ _ _ _ hH (lv_sub hl [2, 3, 4, 0, 5] rfl) hf
set_option maxHeartbeats 4000000 in
set_option maxRecDepth 100000 in
theorem k_X12_printName (l : Launch) (E : Ev) (K : Kd) (z : Nat) (o : Nat) (a_1 : Int32) (a_2 : Int32) (w : Wd) (ho : K o = some (10, 0)) {w' : Wd} (hf : f_X12_printName K o a_1 a_2 w = some w') : Met l yX12_printName (Cond.code yX12_printName cX12_printName 7 (Option.none : Option Jvm.ClassFile.FieldType) :: bt) ({ frames := 1, cells := 0, slots := 0, locals := 21 } : Room) (va_Pc [rv E (some o), .int a_1, .int a_2] (HB E K w z)) (QV E K z w') 0 0 (hA E) := by
  refine Met.ofW (cc := cX12_printName) (maxL := 7) (ret := (Option.none : Option Jvm.ClassFile.FieldType)) (by decide) rfl ?_
  intro p e s m args below meth c s₁ B hml hv
  obtain ⟨rfl, hz, hP, hKs, hT, hb0⟩ := hv
  have C : CX p l e s m _ meth c cX12_printName 7 RX12 (Option.none : Option Jvm.ClassFile.FieldType) E := ⟨B.exec, B.bytes, hml, findClass_of_methodNamed B.named, fun w h => atoms_spec (ws := Cond.code yX12_printName cX12_printName 7 (Option.none : Option Jvm.ClassFile.FieldType) :: bt) B.pre w (List.mem_cons_of_mem _ h), hKs, hT, by rw [hz]; exact hb0, B.notSynchronized, B.returns⟩
  have hH : HQ E K z w s s.heap [] := ⟨hP, va_S.rf, hz⟩
  obtain ⟨hx, hb, hml, hown, hts, hKs, hT, hb0, hlocks, hret⟩ := id C
  have hl := lv_entry [rv E (some o), .int a_1, .int a_2] (n := 7) (by simp [lg_len_nil, lg_len_i, lg_len_j, lg_len_q, lg_len_f, lg_len_d, lg_len_r])
  rw [lg_entry_eq]
  generalize (lg_sl [rv E (some o), .int a_1, .int a_2] ++ List.replicate (7 - (lg_sl [rv E (some o), .int a_1, .int a_2]).length) Slot.unset).toArray = ls at hl ⊢
  replace hl : lv_has ls 7 [(0, rv E (some o)), (1, .int a_1), (2, .int a_2)] := by simpa only [lv_args, cat_q, cat_i, cat_j, reduceIte, Nat.reduceEqDiff, Nat.reduceAdd, Nat.zero_add] using hl
  generalize s.heap = H at hH ⊢
  unfold f_X12_printName at hf
  refine hl_aload_n hx hb dX12_printName_0 rfl (lv_at hl 0 rfl) ?_
  refine g12_5 hx hb hts hown hKs hH rfl ho m2_224 dX12_printName_1 ?_
  obtain ⟨a1, ha1, hf⟩ := bnd hf
  replace ha1 := chk_some ha1
  refine gn10_0 hx hb hts hown hKs hH ha1.1 ha1.2 m2_122 dX12_printName_4 ?_
  obtain ⟨a2, ha2, hf⟩ := bnd hf
  replace ha2 := chk_some ha2
  refine gn9_0 hx hb hts hown hKs hH ha2.1 ha2.2 m1_151 dX12_printName_7 ?_
  refine lv_iload_n hx hb dX12_printName_10 rfl (lv_at hl 1 rfl) ?_
  obtain ⟨a3, ha3, hf⟩ := bnd hf
  replace ha3 := cha_some ha3
  obtain ⟨j4, hj4, hf⟩ := bnd hf
  refine hw_aald26 hx hb hKs hH ha3.1 ha3.2 hj4 dX12_printName_11 ?_
  refine lv_iload_n hx hb dX12_printName_12 rfl (lv_at hl 2 rfl) ?_
  obtain ⟨a5, ha5, hf⟩ := bnd hf
  replace ha5 := chk_some ha5
  obtain ⟨q6, hq6, hf⟩ := bnd hf
  refine hcV_l hx hb hml hown hts hKs hT hb0 hH (As := [.int a_2]) (rest := []) (k_X4_at l E K H.size a5 a_2 w ha5.2 hq6) (gV m6_151 m6_152 m6_153 m1_4 m6_154) hd_X4_at ⟨Nat.le_of_ble_eq_true rfl, Nat.le_of_ble_eq_true rfl, rfl, rfl⟩ ha5.1 ha5.2 rfl rfl rfl hl.1 rfl rc0 rfl dX12_printName_13 ⟨Nat.zero_le _, Nat.zero_le _⟩ (fun H locs hH => ?_)
  refine lv_lstore_n (lv' := [(3, .long q6.1), (0, rv E (some o)), (1, .int a_1), (2, .int a_2)]) hx hb dX12_printName_16 rfl hl (by decide) rfl (fun ls hl => ?_)
  refine lv_bipush (v := 56) hx hb dX12_printName_17 (by decide) ?_
  refine lv_istore (lv' := [(5, .int 56), (3, .long q6.1), (0, rv E (some o)), (1, .int a_1), (2, .int a_2)]) hx hb dX12_printName_19 hl (by decide) rfl (fun ls hl => ?_)
  refine l_X12_printName_L21  C ho _ (fun v1_21 v2_21 v3_21 v5_21 w7 H locs ls hH hl hf => ?_) fu a_1 a_2 q6.1 56 q6.2 _ _ _ hH (lv_sub hl [3, 4, 1, 0, 2] rfl) hf
  exact hw_vret hx hb hret hf hH hlocks dX12_printName_51

theorem dX12_saveState_0 : decode cX12_saveState 0 = .ok (.aload_n 0, 1) := by decide +kernel
theorem dX12_saveState_1 : decode cX12_saveState 1 = .ok (.getfield 39, 3) := by decide +kernel
theorem dX12_saveState_4 : decode cX12_saveState 4 = .ok (.aload_n 0, 1) := by decide +kernel
theorem dX12_saveState_5 : decode cX12_saveState 5 = .ok (.getfield 35, 3) := by decide +kernel
theorem dX12_saveState_8 : decode cX12_saveState 8 = .ok (.invokevirtual 362, 3) := by decide +kernel
theorem dX12_saveState_11 : decode cX12_saveState 11 = .ok (.aload_n 0, 1) := by decide +kernel
theorem dX12_saveState_12 : decode cX12_saveState 12 = .ok (.iconst 1, 1) := by decide +kernel
theorem dX12_saveState_13 : decode cX12_saveState 13 = .ok (.putfield 98, 3) := by decide +kernel
theorem dX12_saveState_16 : decode cX12_saveState 16 = .ok (.aload_n 0, 1) := by decide +kernel
theorem dX12_saveState_17 : decode cX12_saveState 17 = .ok (.getfield 35, 3) := by decide +kernel
theorem dX12_saveState_20 : decode cX12_saveState 20 = .ok (.getfield 124, 3) := by decide +kernel
theorem dX12_saveState_23 : decode cX12_saveState 23 = .ok (.ireturn, 1) := by decide +kernel
theorem hd_X12_saveState : yX12_saveState.cls = RX12 ∧ yX12_saveState.cls ≠ "java/lang/invoke/MethodHandle" ∧ yX12_saveState.cls ≠ "java/lang/invoke/VarHandle" ∧ (parseMethodDescriptor yX12_saveState.desc).map (fun d => d.parameters.length) = some 0 := by decide +kernel
theorem hs_X12_saveState : yX12_saveState.cls ≠ "java/lang/invoke/MethodHandle" ∧ yX12_saveState.cls ≠ "java/lang/invoke/VarHandle" ∧ (parseMethodDescriptor yX12_saveState.desc).map (fun d => d.parameters.length) = some 0 := by decide +kernel
set_option maxHeartbeats 4000000 in
set_option maxRecDepth 100000 in
theorem k_X12_saveState (l : Launch) (E : Ev) (K : Kd) (z : Nat) (o : Nat) (w : Wd) (ho : K o = some (10, 0)) {r : Int32} {w' : Wd} (hf : f_X12_saveState K o w = some (r, w')) : Met l yX12_saveState (Cond.code yX12_saveState cX12_saveState 1 (Option.some Jvm.ClassFile.FieldType.int) :: bt) ({ frames := 3, cells := 0, slots := 0, locals := 103 } : Room) (va_Pc [rv E (some o)] (HB E K w z)) (QI E K z w' r) 0 0 (hA E) := by
  refine Met.ofW (cc := cX12_saveState) (maxL := 1) (ret := (Option.some Jvm.ClassFile.FieldType.int)) (by decide) rfl ?_
  intro p e s m args below meth c s₁ B hml hv
  obtain ⟨rfl, hz, hP, hKs, hT, hb0⟩ := hv
  have C : CX p l e s m _ meth c cX12_saveState 1 RX12 (Option.some Jvm.ClassFile.FieldType.int) E := ⟨B.exec, B.bytes, hml, findClass_of_methodNamed B.named, fun w h => atoms_spec (ws := Cond.code yX12_saveState cX12_saveState 1 (Option.some Jvm.ClassFile.FieldType.int) :: bt) B.pre w (List.mem_cons_of_mem _ h), hKs, hT, by rw [hz]; exact hb0, B.notSynchronized, B.returns⟩
  have hH : HQ E K z w s s.heap [] := ⟨hP, va_S.rf, hz⟩
  obtain ⟨hx, hb, hml, hown, hts, hKs, hT, hb0, hlocks, hret⟩ := id C
  have hl := lv_entry [rv E (some o)] (n := 1) (by simp [lg_len_nil, lg_len_i, lg_len_j, lg_len_q, lg_len_f, lg_len_d, lg_len_r])
  rw [lg_entry_eq]
  generalize (lg_sl [rv E (some o)] ++ List.replicate (1 - (lg_sl [rv E (some o)]).length) Slot.unset).toArray = ls at hl ⊢
  replace hl : lv_has ls 1 [(0, rv E (some o))] := by simpa only [lv_args, cat_q, cat_i, cat_j, reduceIte, Nat.reduceEqDiff, Nat.reduceAdd, Nat.zero_add] using hl
  generalize s.heap = H at hH ⊢
  unfold f_X12_saveState at hf
  refine hl_aload_n hx hb dX12_saveState_0 rfl (lv_at hl 0 rfl) ?_
  refine g12_6 hx hb hts hown hKs hH rfl ho m2_225 dX12_saveState_1 ?_
  refine hl_aload_n hx hb dX12_saveState_4 rfl (lv_at hl 0 rfl) ?_
  refine g12_5 hx hb hts hown hKs hH rfl ho m2_224 dX12_saveState_5 ?_
  obtain ⟨a1, ha1, hf⟩ := bnd hf
  replace ha1 := chk_some ha1
  obtain ⟨q2, hq2, hf⟩ := bnd hf
  refine hcV_v hx hb hml hown hts hKs hT hb0 hH (As := [rv E (wR w 1205 o)]) (rest := []) (k_X10_copyFrom l E K H.size a1 (wR w 1205 o) w ha1.2 hq2) (gV m4_87 m4_88 m4_89 m1_12 m4_90) hd_X10_copyFrom ⟨Nat.le_of_ble_eq_true rfl, Nat.le_of_ble_eq_true rfl, rfl, rfl⟩ ha1.1 ha1.2 rfl rfl rfl hl.1 rfl rc0 rfl dX12_saveState_8 ⟨Nat.zero_le _, Nat.zero_le _⟩ (fun H locs hH => ?_)
  refine hl_aload_n hx hb dX12_saveState_11 rfl (lv_at hl 0 rfl) ?_
  refine lv_iconst (v := 1) hx hb dX12_saveState_12 (by decide) ?_
  obtain ⟨w3, hw3, hf⟩ := bnd hf
  replace hw3 := Option.some.inj hw3
  refine p12_7 (v := true) hx hb hts hown hKs hH rfl ho m2_226 dX12_saveState_13 (fun H locs hH => ?_)
  rw [hw3] at hH
  refine hl_aload_n hx hb dX12_saveState_16 rfl (lv_at hl 0 rfl) ?_
  refine g12_5 hx hb hts hown hKs hH rfl ho m2_224 dX12_saveState_17 ?_
  obtain ⟨a4, ha4, hf⟩ := bnd hf
  replace ha4 := chk_some ha4
  refine gn10_1 hx hb hts hown hKs hH ha4.1 ha4.2 m2_125 dX12_saveState_20 ?_
  exact hw_iret hx hb hret hf hH hlocks dX12_saveState_23

theorem dX12_restoreState_0 : decode cX12_restoreState 0 = .ok (.aload_n 0, 1) := by decide +kernel
theorem dX12_restoreState_1 : decode cX12_restoreState 1 = .ok (.getfield 98, 3) := by decide +kernel
theorem dX12_restoreState_4 : decode cX12_restoreState 4 = .ok (.ifCond .ne 11, 3) := by decide +kernel
theorem dX12_restoreState_7 : decode cX12_restoreState 7 = .ok (.new 331, 3) := by decide +kernel
theorem dX12_restoreState_10 : decode cX12_restoreState 10 = .ok (.dup, 1) := by decide +kernel
theorem dX12_restoreState_11 : decode cX12_restoreState 11 = .ok (.invokespecial 333, 3) := by decide +kernel
theorem dX12_restoreState_14 : decode cX12_restoreState 14 = .ok (.athrow, 1) := by decide +kernel
theorem dX12_restoreState_15 : decode cX12_restoreState 15 = .ok (.aload_n 0, 1) := by decide +kernel
theorem dX12_restoreState_16 : decode cX12_restoreState 16 = .ok (.getfield 35, 3) := by decide +kernel
theorem dX12_restoreState_19 : decode cX12_restoreState 19 = .ok (.aload_n 0, 1) := by decide +kernel
theorem dX12_restoreState_20 : decode cX12_restoreState 20 = .ok (.getfield 39, 3) := by decide +kernel
theorem dX12_restoreState_23 : decode cX12_restoreState 23 = .ok (.invokevirtual 362, 3) := by decide +kernel
theorem dX12_restoreState_26 : decode cX12_restoreState 26 = .ok (.aload_n 0, 1) := by decide +kernel
theorem dX12_restoreState_27 : decode cX12_restoreState 27 = .ok (.iconst 0, 1) := by decide +kernel
theorem dX12_restoreState_28 : decode cX12_restoreState 28 = .ok (.putfield 102, 3) := by decide +kernel
theorem dX12_restoreState_31 : decode cX12_restoreState 31 = .ok (.aload_n 0, 1) := by decide +kernel
theorem dX12_restoreState_32 : decode cX12_restoreState 32 = .ok (.getfield 35, 3) := by decide +kernel
theorem dX12_restoreState_35 : decode cX12_restoreState 35 = .ok (.getfield 124, 3) := by decide +kernel
theorem dX12_restoreState_38 : decode cX12_restoreState 38 = .ok (.ireturn, 1) := by decide +kernel
theorem hd_X12_restoreState : yX12_restoreState.cls = RX12 ∧ yX12_restoreState.cls ≠ "java/lang/invoke/MethodHandle" ∧ yX12_restoreState.cls ≠ "java/lang/invoke/VarHandle" ∧ (parseMethodDescriptor yX12_restoreState.desc).map (fun d => d.parameters.length) = some 0 := by decide +kernel
theorem hs_X12_restoreState : yX12_restoreState.cls ≠ "java/lang/invoke/MethodHandle" ∧ yX12_restoreState.cls ≠ "java/lang/invoke/VarHandle" ∧ (parseMethodDescriptor yX12_restoreState.desc).map (fun d => d.parameters.length) = some 0 := by decide +kernel
set_option maxHeartbeats 4000000 in
set_option maxRecDepth 100000 in
theorem k_X12_restoreState (l : Launch) (hls : l.stackTraces = false) (E : Ev) (K : Kd) (z : Nat) (o : Nat) (w : Wd) (ho : K o = some (10, 0)) {r : Int32 ⊕ Nat} {w' : Wd} (hf : f_X12_restoreState K o w = some (r, w')) : vx_Met l yX12_restoreState (Cond.code yX12_restoreState cX12_restoreState 1 (Option.some Jvm.ClassFile.FieldType.int) :: bt) ({ frames := 6, cells := 1, slots := 6, locals := 103 } : Room) (va_Pc [rv E (some o)] (HB E K w z)) (XI E K z w' r) (XX E K w' r) 1 6 (hA E) := by
  refine vx_ofW (cc := cX12_restoreState) (maxL := 1) (ret := (Option.some Jvm.ClassFile.FieldType.int)) (by decide) rfl ?_
  intro p e s m args below meth c s₁ B hml hout hv
  obtain ⟨rfl, hz, hP, hKs, hT, hb0⟩ := hv
  have C : CX p l e s m _ meth c cX12_restoreState 1 RX12 (Option.some Jvm.ClassFile.FieldType.int) E := ⟨B.exec, B.bytes, hml, findClass_of_methodNamed B.named, fun w h => atoms_spec (ws := Cond.code yX12_restoreState cX12_restoreState 1 (Option.some Jvm.ClassFile.FieldType.int) :: bt) B.pre w (List.mem_cons_of_mem _ h), hKs, hT, by rw [hz]; exact hb0, B.notSynchronized, B.returns⟩
  have hH : HQ E K z w s s.heap [] := ⟨hP, va_S.rf, hz⟩
  obtain ⟨hx, hb, hml, hown, hts, hKs, hT, hb0, hlocks, hret⟩ := id C
  have hl := lv_entry [rv E (some o)] (n := 1) (by simp [lg_len_nil, lg_len_i, lg_len_j, lg_len_q, lg_len_f, lg_len_d, lg_len_r])
  rw [lg_entry_eq]
  generalize (lg_sl [rv E (some o)] ++ List.replicate (1 - (lg_sl [rv E (some o)]).length) Slot.unset).toArray = ls at hl ⊢
  replace hl : lv_has ls 1 [(0, rv E (some o))] := by simpa only [lv_args, cat_q, cat_i, cat_j, reduceIte, Nat.reduceEqDiff, Nat.reduceAdd, Nat.zero_add] using hl
  generalize s.heap = H at hH ⊢
  unfold f_X12_restoreState at hf
  refine hl_aload_n hx hb dX12_restoreState_0 rfl (lv_at hl 0 rfl) ?_
  refine g12_7 hx hb hts hown hKs hH rfl ho m2_226 dX12_restoreState_1 ?_
  refine lv_if_ne (tgt := 15) hx hb dX12_restoreState_4 (by decide) (fun c1 => ?_) (fun c1 => ?_)
  · replace hf := (if_neg c1).symm.trans hf
    refine hl_aload_n hx hb dX12_restoreState_15 rfl (lv_at hl 0 rfl) ?_
    refine g12_5 hx hb hts hown hKs hH rfl ho m2_224 dX12_restoreState_16 ?_
    refine hl_aload_n hx hb dX12_restoreState_19 rfl (lv_at hl 0 rfl) ?_
    refine g12_6 hx hb hts hown hKs hH rfl ho m2_225 dX12_restoreState_20 ?_
    obtain ⟨a2, ha2, hf⟩ := bnd hf
    replace ha2 := chk_some ha2
    obtain ⟨q3, hq3, hf⟩ := bnd hf
    refine hcV_v hx hb hml hown hts hKs hT hb0 hH (As := [rv E (wR w 1206 o)]) (rest := []) (k_X10_copyFrom l E K H.size a2 (wR w 1206 o) w ha2.2 hq3) (gV m4_87 m4_88 m4_89 m1_12 m4_90) hd_X10_copyFrom ⟨Nat.le_of_ble_eq_true rfl, Nat.le_of_ble_eq_true rfl, rfl, rfl⟩ ha2.1 ha2.2 rfl rfl rfl hl.1 rfl rc0 rfl dX12_restoreState_23 ⟨Nat.le_of_ble_eq_true rfl, Nat.le_of_ble_eq_true rfl⟩ (fun H locs hH => ?_)
    refine hl_aload_n hx hb dX12_restoreState_26 rfl (lv_at hl 0 rfl) ?_
    refine lv_iconst (v := 0) hx hb dX12_restoreState_27 (by decide) ?_
    obtain ⟨w4, hw4, hf⟩ := bnd hf
    replace hw4 := Option.some.inj hw4
    refine p12_10 (v := 0) hx hb hts hown hKs hH rfl ho m2_229 dX12_restoreState_28 (fun H locs hH => ?_)
    rw [hw4] at hH
    refine hl_aload_n hx hb dX12_restoreState_31 rfl (lv_at hl 0 rfl) ?_
    refine g12_5 hx hb hts hown hKs hH rfl ho m2_224 dX12_restoreState_32 ?_
    obtain ⟨a5, ha5, hf⟩ := bnd hf
    replace ha5 := chk_some ha5
    refine gn10_1 hx hb hts hown hKs hH ha5.1 ha5.2 m2_125 dX12_restoreState_35 ?_
    exact hx_iret hx hb (Nat.le_of_ble_eq_true rfl) (Nat.le_of_ble_eq_true rfl) hret hf hH hlocks dX12_restoreState_38
  · replace hf := (if_pos c1).symm.trans hf
    exact hx_throw hx hb hls (code := 3) hml hl.1 hown hts hKs hT hb0 hH (by decide) rfl m5_195 m1_29 hat_RX12_333 dX12_restoreState_7 dX12_restoreState_10 dX12_restoreState_11 dX12_restoreState_14 hout (Nat.le_of_ble_eq_true rfl) rc0 (Nat.le_of_ble_eq_true rfl) (Nat.le_of_ble_eq_true rfl) (Nat.le_of_ble_eq_true rfl) hlocks hf (Nat.le_of_ble_eq_true rfl) (Nat.le_of_ble_eq_true rfl)

theorem dX12_requireExisting_0 : decode cX12_requireExisting 0 = .ok (.iload_n 2, 1) := by decide +kernel
theorem dX12_requireExisting_1 : decode cX12_requireExisting 1 = .ok (.ifCond .lt 18, 3) := by decide +kernel
theorem dX12_requireExisting_4 : decode cX12_requireExisting 4 = .ok (.iload_n 2, 1) := by decide +kernel
theorem dX12_requireExisting_5 : decode cX12_requireExisting 5 = .ok (.aload_n 0, 1) := by decide +kernel
theorem dX12_requireExisting_6 : decode cX12_requireExisting 6 = .ok (.getfield 35, 3) := by decide +kernel
theorem dX12_requireExisting_9 : decode cX12_requireExisting 9 = .ok (.getfield 87, 3) := by decide +kernel
theorem dX12_requireExisting_12 : decode cX12_requireExisting 12 = .ok (.iload_n 1, 1) := by decide +kernel
theorem dX12_requireExisting_13 : decode cX12_requireExisting 13 = .ok (.invokevirtual 105, 3) := by decide +kernel
theorem dX12_requireExisting_16 : decode cX12_requireExisting 16 = .ok (.if_icmp .lt 11, 3) := by decide +kernel
theorem dX12_requireExisting_19 : decode cX12_requireExisting 19 = .ok (.new 193, 3) := by decide +kernel
theorem dX12_requireExisting_22 : decode cX12_requireExisting 22 = .ok (.dup, 1) := by decide +kernel
theorem dX12_requireExisting_23 : decode cX12_requireExisting 23 = .ok (.invokespecial 195, 3) := by decide +kernel
theorem dX12_requireExisting_26 : decode cX12_requireExisting 26 = .ok (.athrow, 1) := by decide +kernel
theorem dX12_requireExisting_27 : decode cX12_requireExisting 27 = .ok (.return_, 1) := by decide +kernel
theorem hd_X12_requireExisting : yX12_requireExisting.cls = RX12 ∧ yX12_requireExisting.cls ≠ "java/lang/invoke/MethodHandle" ∧ yX12_requireExisting.cls ≠ "java/lang/invoke/VarHandle" ∧ (parseMethodDescriptor yX12_requireExisting.desc).map (fun d => d.parameters.length) = some 2 := by decide +kernel
theorem hs_X12_requireExisting : yX12_requireExisting.cls ≠ "java/lang/invoke/MethodHandle" ∧ yX12_requireExisting.cls ≠ "java/lang/invoke/VarHandle" ∧ (parseMethodDescriptor yX12_requireExisting.desc).map (fun d => d.parameters.length) = some 2 := by decide +kernel
set_option maxHeartbeats 4000000 in
set_option maxRecDepth 100000 in
theorem k_X12_requireExisting (l : Launch) (hls : l.stackTraces = false) (E : Ev) (K : Kd) (z : Nat) (o : Nat) (a_1 : Int32) (a_2 : Int32) (w : Wd) (ho : K o = some (10, 0)) {r : Unit ⊕ Nat} {w' : Wd} (hf : f_X12_requireExisting K o a_1 a_2 w = some (r, w')) : vx_Met l yX12_requireExisting (Cond.code yX12_requireExisting cX12_requireExisting 3 (Option.none : Option Jvm.ClassFile.FieldType) :: bt) ({ frames := 6, cells := 1, slots := 6, locals := 90 } : Room) (va_Pc [rv E (some o), .int a_1, .int a_2] (HB E K w z)) (XV E K z w' r) (XX E K w' r) 1 6 (hA E) := by
  refine vx_ofW (cc := cX12_requireExisting) (maxL := 3) (ret := (Option.none : Option Jvm.ClassFile.FieldType)) (by decide) rfl ?_
  intro p e s m args below meth c s₁ B hml hout hv
  obtain ⟨rfl, hz, hP, hKs, hT, hb0⟩ := hv
  have C : CX p l e s m _ meth c cX12_requireExisting 3 RX12 (Option.none : Option Jvm.ClassFile.FieldType) E := ⟨B.exec, B.bytes, hml, findClass_of_methodNamed B.named, fun w h => atoms_spec (ws := Cond.code yX12_requireExisting cX12_requireExisting 3 (Option.none : Option Jvm.ClassFile.FieldType) :: bt) B.pre w (List.mem_cons_of_mem _ h), hKs, hT, by rw [hz]; exact hb0, B.notSynchronized, B.returns⟩
  have hH : HQ E K z w s s.heap [] := ⟨hP, va_S.rf, hz⟩
  obtain ⟨hx, hb, hml, hown, hts, hKs, hT, hb0, hlocks, hret⟩ := id C
  have hl := lv_entry [rv E (some o), .int a_1, .int a_2] (n := 3) (by simp [lg_len_nil, lg_len_i, lg_len_j, lg_len_q, lg_len_f, lg_len_d, lg_len_r])
  rw [lg_entry_eq]
  generalize (lg_sl [rv E (some o), .int a_1, .int a_2] ++ List.replicate (3 - (lg_sl [rv E (some o), .int a_1, .int a_2]).length) Slot.unset).toArray = ls at hl ⊢
  replace hl : lv_has ls 3 [(0, rv E (some o)), (1, .int a_1), (2, .int a_2)] := by simpa only [lv_args, cat_q, cat_i, cat_j, reduceIte, Nat.reduceEqDiff, Nat.reduceAdd, Nat.zero_add] using hl
  generalize s.heap = H at hH ⊢
  unfold f_X12_requireExisting at hf
  refine lv_iload_n hx hb dX12_requireExisting_0 rfl (lv_at hl 2 rfl) ?_
  refine lv_if_lt (tgt := 19) hx hb dX12_requireExisting_1 (by decide) (fun c1 => ?_) (fun c1 => ?_)
  · replace hf := (if_pos c1).symm.trans hf
    exact hx_throw hx hb hls (code := 1) hml hl.1 hown hts hKs hT hb0 hH (by decide) rfl m5_95 m1_28 hat_RX12_195 dX12_requireExisting_19 dX12_requireExisting_22 dX12_requireExisting_23 dX12_requireExisting_26 hout (Nat.le_of_ble_eq_true rfl) rc0 (Nat.le_of_ble_eq_true rfl) (Nat.le_of_ble_eq_true rfl) (Nat.le_of_ble_eq_true rfl) hlocks hf (Nat.le_of_ble_eq_true rfl) (Nat.le_of_ble_eq_true rfl)
  · replace hf := (if_neg c1).symm.trans hf
    refine lv_iload_n hx hb dX12_requireExisting_4 rfl (lv_at hl 2 rfl) ?_
    refine hl_aload_n hx hb dX12_requireExisting_5 rfl (lv_at hl 0 rfl) ?_
    refine g12_5 hx hb hts hown hKs hH rfl ho m2_224 dX12_requireExisting_6 ?_
    obtain ⟨a2, ha2, hf⟩ := bnd hf
    replace ha2 := chk_some ha2
    refine gn10_0 hx hb hts hown hKs hH ha2.1 ha2.2 m2_122 dX12_requireExisting_9 ?_
    refine lv_iload_n hx hb dX12_requireExisting_12 rfl (lv_at hl 1 rfl) ?_
    obtain ⟨a3, ha3, hf⟩ := bnd hf
    replace ha3 := chk_some ha3
    obtain ⟨q4, hq4, hf⟩ := bnd hf
    refine hcV_i hx hb hml hown hts hKs hT hb0 hH (As := [.int a_1]) (rest := [.int a_2]) (k_X9_size l E K H.size a3 a_1 w ha3.2 hq4) (gV m3_229 m3_151 m3_152 m1_2 m3_153) hd_X9_size ⟨Nat.le_of_ble_eq_true rfl, Nat.le_of_ble_eq_true rfl, rfl, rfl⟩ ha3.1 ha3.2 rfl rfl rfl hl.1 rfl (rcI rc0) rfl dX12_requireExisting_13 ⟨Nat.le_of_ble_eq_true rfl, Nat.le_of_ble_eq_true rfl⟩ (fun H locs hH => ?_)
    refine lv_icmp_lt (tgt := 27) hx hb dX12_requireExisting_16 (by decide) (fun c5 => ?_) (fun c5 => ?_)
    · replace hf := (if_pos c5).symm.trans hf
      exact hx_vret hx hb (Nat.le_of_ble_eq_true rfl) (Nat.le_of_ble_eq_true rfl) hret hf hH hlocks dX12_requireExisting_27
    · replace hf := (if_neg c5).symm.trans hf
      exact hx_throw hx hb hls (code := 1) hml hl.1 hown hts hKs hT hb0 hH (by decide) rfl m5_95 m1_28 hat_RX12_195 dX12_requireExisting_19 dX12_requireExisting_22 dX12_requireExisting_23 dX12_requireExisting_26 hout (Nat.le_of_ble_eq_true rfl) rc0 (Nat.le_of_ble_eq_true rfl) (Nat.le_of_ble_eq_true rfl) (Nat.le_of_ble_eq_true rfl) hlocks hf (Nat.le_of_ble_eq_true rfl) (Nat.le_of_ble_eq_true rfl)

theorem dX12_requireHearing_0 : decode cX12_requireHearing 0 = .ok (.aload_n 0, 1) := by decide +kernel
theorem dX12_requireHearing_1 : decode cX12_requireHearing 1 = .ok (.iconst 3, 1) := by decide +kernel
theorem dX12_requireHearing_2 : decode cX12_requireHearing 2 = .ok (.iload_n 1, 1) := by decide +kernel
theorem dX12_requireHearing_3 : decode cX12_requireHearing 3 = .ok (.invokevirtual 175, 3) := by decide +kernel
theorem dX12_requireHearing_6 : decode cX12_requireHearing 6 = .ok (.aload_n 0, 1) := by decide +kernel
theorem dX12_requireHearing_7 : decode cX12_requireHearing 7 = .ok (.iconst 0, 1) := by decide +kernel
theorem dX12_requireHearing_8 : decode cX12_requireHearing 8 = .ok (.iload 4, 2) := by decide +kernel
theorem dX12_requireHearing_10 : decode cX12_requireHearing 10 = .ok (.invokevirtual 175, 3) := by decide +kernel
theorem dX12_requireHearing_13 : decode cX12_requireHearing 13 = .ok (.aload_n 0, 1) := by decide +kernel
theorem dX12_requireHearing_14 : decode cX12_requireHearing 14 = .ok (.iconst 1, 1) := by decide +kernel
theorem dX12_requireHearing_15 : decode cX12_requireHearing 15 = .ok (.iload 5, 2) := by decide +kernel
theorem dX12_requireHearing_17 : decode cX12_requireHearing 17 = .ok (.invokevirtual 175, 3) := by decide +kernel
theorem dX12_requireHearing_20 : decode cX12_requireHearing 20 = .ok (.aload_n 0, 1) := by decide +kernel
theorem dX12_requireHearing_21 : decode cX12_requireHearing 21 = .ok (.iload_n 2, 1) := by decide +kernel
theorem dX12_requireHearing_22 : decode cX12_requireHearing 22 = .ok (.invokevirtual 154, 3) := by decide +kernel
theorem dX12_requireHearing_25 : decode cX12_requireHearing 25 = .ok (.aload_n 0, 1) := by decide +kernel
theorem dX12_requireHearing_26 : decode cX12_requireHearing 26 = .ok (.iload_n 3, 1) := by decide +kernel
theorem dX12_requireHearing_27 : decode cX12_requireHearing 27 = .ok (.invokevirtual 269, 3) := by decide +kernel
theorem dX12_requireHearing_30 : decode cX12_requireHearing 30 = .ok (.return_, 1) := by decide +kernel
theorem hd_X12_requireHearing : yX12_requireHearing.cls = RX12 ∧ yX12_requireHearing.cls ≠ "java/lang/invoke/MethodHandle" ∧ yX12_requireHearing.cls ≠ "java/lang/invoke/VarHandle" ∧ (parseMethodDescriptor yX12_requireHearing.desc).map (fun d => d.parameters.length) = some 5 := by decide +kernel
theorem hs_X12_requireHearing : yX12_requireHearing.cls ≠ "java/lang/invoke/MethodHandle" ∧ yX12_requireHearing.cls ≠ "java/lang/invoke/VarHandle" ∧ (parseMethodDescriptor yX12_requireHearing.desc).map (fun d => d.parameters.length) = some 5 := by decide +kernel
set_option maxHeartbeats 4000000 in
set_option maxRecDepth 100000 in
theorem k_X12_requireHearing (l : Launch) (hls : l.stackTraces = false) (E : Ev) (K : Kd) (z : Nat) (o : Nat) (a_1 : Int32) (a_2 : Int32) (a_3 : Int32) (a_4 : Int32) (a_5 : Int32) (w : Wd) (ho : K o = some (10, 0)) {r : Unit ⊕ Nat} {w' : Wd} (hf : f_X12_requireHearing K o a_1 a_2 a_3 a_4 a_5 w = some (r, w')) : vx_Met l yX12_requireHearing (Cond.code yX12_requireHearing cX12_requireHearing 6 (Option.none : Option Jvm.ClassFile.FieldType) :: bt) ({ frames := 7, cells := 5, slots := 30, locals := 112 } : Room) (va_Pc [rv E (some o), .int a_1, .int a_2, .int a_3, .int a_4, .int a_5] (HB E K w z)) (XV E K z w' r) (XX E K w' r) 5 30 (hA E) := by
  refine vx_ofW (cc := cX12_requireHearing) (maxL := 6) (ret := (Option.none : Option Jvm.ClassFile.FieldType)) (by decide) rfl ?_
  intro p e s m args below meth c s₁ B hml hout hv
  obtain ⟨rfl, hz, hP, hKs, hT, hb0⟩ := hv
  have C : CX p l e s m _ meth c cX12_requireHearing 6 RX12 (Option.none : Option Jvm.ClassFile.FieldType) E := ⟨B.exec, B.bytes, hml, findClass_of_methodNamed B.named, fun w h => atoms_spec (ws := Cond.code yX12_requireHearing cX12_requireHearing 6 (Option.none : Option Jvm.ClassFile.FieldType) :: bt) B.pre w (List.mem_cons_of_mem _ h), hKs, hT, by rw [hz]; exact hb0, B.notSynchronized, B.returns⟩
  have hH : HQ E K z w s s.heap [] := ⟨hP, va_S.rf, hz⟩
  obtain ⟨hx, hb, hml, hown, hts, hKs, hT, hb0, hlocks, hret⟩ := id C
  have hl := lv_entry [rv E (some o), .int a_1, .int a_2, .int a_3, .int a_4, .int a_5] (n := 6) (by simp [lg_len_nil, lg_len_i, lg_len_j, lg_len_q, lg_len_f, lg_len_d, lg_len_r])
  rw [lg_entry_eq]
  generalize (lg_sl [rv E (some o), .int a_1, .int a_2, .int a_3, .int a_4, .int a_5] ++ List.replicate (6 - (lg_sl [rv E (some o), .int a_1, .int a_2, .int a_3, .int a_4, .int a_5]).length) Slot.unset).toArray = ls at hl ⊢
  replace hl : lv_has ls 6 [(0, rv E (some o)), (1, .int a_1), (2, .int a_2), (3, .int a_3), (4, .int a_4), (5, .int a_5)] := by simpa only [lv_args, cat_q, cat_i, cat_j, reduceIte, Nat.reduceEqDiff, Nat.reduceAdd, Nat.zero_add] using hl
  generalize s.heap = H at hH ⊢
  unfold f_X12_requireHearing at hf
  refine hl_aload_n hx hb dX12_requireHearing_0 rfl (lv_at hl 0 rfl) ?_
  refine lv_iconst (v := 3) hx hb dX12_requireHearing_1 (by decide) ?_
  refine lv_iload_n hx hb dX12_requireHearing_2 rfl (lv_at hl 1 rfl) ?_
  obtain ⟨q1, hq1, hf⟩ := bnd hf
  refine hxV_v hx hb hml hown hts hKs hT hb0 hH (As := [.int 3, .int a_1]) (rest := []) (k_X12_requireExisting l hls E K H.size o 3 a_1 w ho hq1) (gV m5_91 m5_93 ms_37 m1_1 m5_94) hd_X12_requireExisting ⟨Nat.le_of_ble_eq_true rfl, Nat.le_of_ble_eq_true rfl, rfl, rfl⟩ rfl ho rfl rfl rfl hl.1 rfl rc0 rfl dX12_requireHearing_3 ⟨Nat.le_of_ble_eq_true rfl, Nat.le_of_ble_eq_true rfl⟩ ⟨Nat.le_of_ble_eq_true rfl, Nat.le_of_ble_eq_true rfl⟩ hout hlocks (fun x hx9 => (fun h9 => ⟨(congrArg Prod.fst h9).symm, (congrArg Prod.snd h9).symm⟩) (Option.some.inj ((xk_inr hx9).symm.trans hf))) (fun v2 hv2 H locs hH => ?_)
  replace hf := (xk_inl hv2).symm.trans hf
  refine hl_aload_n hx hb dX12_requireHearing_6 rfl (lv_at hl 0 rfl) ?_
  refine lv_iconst (v := 0) hx hb dX12_requireHearing_7 (by decide) ?_
  refine lv_iload hx hb dX12_requireHearing_8 (lv_at hl 4 rfl) ?_
  obtain ⟨q3, hq3, hf⟩ := bnd hf
  refine hxV_v hx hb hml hown hts hKs hT hb0 hH (As := [.int 0, .int a_4]) (rest := []) (k_X12_requireExisting l hls E K H.size o 0 a_4 q1.2 ho hq3) (gV m5_91 m5_93 ms_37 m1_1 m5_94) hd_X12_requireExisting ⟨Nat.le_of_ble_eq_true rfl, Nat.le_of_ble_eq_true rfl, rfl, rfl⟩ rfl ho rfl rfl rfl hl.1 rfl rc0 rfl dX12_requireHearing_10 ⟨Nat.le_of_ble_eq_true rfl, Nat.le_of_ble_eq_true rfl⟩ ⟨Nat.le_of_ble_eq_true rfl, Nat.le_of_ble_eq_true rfl⟩ hout hlocks (fun x hx9 => (fun h9 => ⟨(congrArg Prod.fst h9).symm, (congrArg Prod.snd h9).symm⟩) (Option.some.inj ((xk_inr hx9).symm.trans hf))) (fun v4 hv4 H locs hH => ?_)
  replace hf := (xk_inl hv4).symm.trans hf
  refine hl_aload_n hx hb dX12_requireHearing_13 rfl (lv_at hl 0 rfl) ?_
  refine lv_iconst (v := 1) hx hb dX12_requireHearing_14 (by decide) ?_
  refine lv_iload hx hb dX12_requireHearing_15 (lv_at hl 5 rfl) ?_
  obtain ⟨q5, hq5, hf⟩ := bnd hf
  refine hxV_v hx hb hml hown hts hKs hT hb0 hH (As := [.int 1, .int a_5]) (rest := []) (k_X12_requireExisting l hls E K H.size o 1 a_5 q3.2 ho hq5) (gV m5_91 m5_93 ms_37 m1_1 m5_94) hd_X12_requireExisting ⟨Nat.le_of_ble_eq_true rfl, Nat.le_of_ble_eq_true rfl, rfl, rfl⟩ rfl ho rfl rfl rfl hl.1 rfl rc0 rfl dX12_requireHearing_17 ⟨Nat.le_of_ble_eq_true rfl, Nat.le_of_ble_eq_true rfl⟩ ⟨Nat.le_of_ble_eq_true rfl, Nat.le_of_ble_eq_true rfl⟩ hout hlocks (fun x hx9 => (fun h9 => ⟨(congrArg Prod.fst h9).symm, (congrArg Prod.snd h9).symm⟩) (Option.some.inj ((xk_inr hx9).symm.trans hf))) (fun v6 hv6 H locs hH => ?_)
  replace hf := (xk_inl hv6).symm.trans hf
  refine hl_aload_n hx hb dX12_requireHearing_20 rfl (lv_at hl 0 rfl) ?_
  refine lv_iload_n hx hb dX12_requireHearing_21 rfl (lv_at hl 2 rfl) ?_
  obtain ⟨q7, hq7, hf⟩ := bnd hf
  refine hxV_v hx hb hml hown hts hKs hT hb0 hH (As := [.int a_2]) (rest := []) (k_X12_requireDay l hls E K H.size o a_2 q5.2 ho hq7) (gV m5_55 m5_57 ms_34 m1_1 m5_58) hd_X12_requireDay ⟨Nat.le_of_ble_eq_true rfl, Nat.le_of_ble_eq_true rfl, rfl, rfl⟩ rfl ho rfl rfl rfl hl.1 rfl rc0 rfl dX12_requireHearing_22 ⟨Nat.le_of_ble_eq_true rfl, Nat.le_of_ble_eq_true rfl⟩ ⟨Nat.le_of_ble_eq_true rfl, Nat.le_of_ble_eq_true rfl⟩ hout hlocks (fun x hx9 => (fun h9 => ⟨(congrArg Prod.fst h9).symm, (congrArg Prod.snd h9).symm⟩) (Option.some.inj ((xk_inr hx9).symm.trans hf))) (fun v8 hv8 H locs hH => ?_)
  replace hf := (xk_inl hv8).symm.trans hf
  refine hl_aload_n hx hb dX12_requireHearing_25 rfl (lv_at hl 0 rfl) ?_
  refine lv_iload_n hx hb dX12_requireHearing_26 rfl (lv_at hl 3 rfl) ?_
  obtain ⟨q9, hq9, hf⟩ := bnd hf
  refine hxV_v hx hb hml hown hts hKs hT hb0 hH (As := [.int a_3]) (rest := []) (k_X12_requireSlot l hls E K H.size o a_3 q7.2 ho hq9) (gV m5_169 m5_171 ms_38 m1_1 m5_172) hd_X12_requireSlot ⟨Nat.le_of_ble_eq_true rfl, Nat.le_of_ble_eq_true rfl, rfl, rfl⟩ rfl ho rfl rfl rfl hl.1 rfl rc0 rfl dX12_requireHearing_27 ⟨Nat.le_of_ble_eq_true rfl, Nat.le_of_ble_eq_true rfl⟩ ⟨Nat.le_of_ble_eq_true rfl, Nat.le_of_ble_eq_true rfl⟩ hout hlocks (fun x hx9 => (fun h9 => ⟨(congrArg Prod.fst h9).symm, (congrArg Prod.snd h9).symm⟩) (Option.some.inj ((xk_inr hx9).symm.trans hf))) (fun v10 hv10 H locs hH => ?_)
  replace hf := (xk_inl hv10).symm.trans hf
  exact hx_vret hx hb (Nat.le_of_ble_eq_true rfl) (Nat.le_of_ble_eq_true rfl) hret hf hH hlocks dX12_requireHearing_30

theorem dX13_takesDraft_0 : decode cX13_takesDraft 0 = .ok (.iconst 0, 1) := by decide +kernel
theorem dX13_takesDraft_1 : decode cX13_takesDraft 1 = .ok (.istore_n 1, 1) := by decide +kernel
theorem dX13_takesDraft_2 : decode cX13_takesDraft 2 = .ok (.iload_n 1, 1) := by decide +kernel
theorem dX13_takesDraft_3 : decode cX13_takesDraft 3 = .ok (.sipush 170, 3) := by decide +kernel
theorem dX13_takesDraft_6 : decode cX13_takesDraft 6 = .ok (.if_icmp .ge 21, 3) := by decide +kernel
theorem dX13_takesDraft_9 : decode cX13_takesDraft 9 = .ok (.aload_n 0, 1) := by decide +kernel
theorem dX13_takesDraft_10 : decode cX13_takesDraft 10 = .ok (.getfield 7, 3) := by decide +kernel
theorem dX13_takesDraft_13 : decode cX13_takesDraft 13 = .ok (.iload_n 1, 1) := by decide +kernel
theorem dX13_takesDraft_14 : decode cX13_takesDraft 14 = .ok (.aload_n 0, 1) := by decide +kernel
theorem dX13_takesDraft_15 : decode cX13_takesDraft 15 = .ok (.getfield 13, 3) := by decide +kernel
theorem dX13_takesDraft_18 : decode cX13_takesDraft 18 = .ok (.iload_n 1, 1) := by decide +kernel
theorem dX13_takesDraft_19 : decode cX13_takesDraft 19 = .ok (.iaload, 1) := by decide +kernel
theorem dX13_takesDraft_20 : decode cX13_takesDraft 20 = .ok (.iastore, 1) := by decide +kernel
theorem dX13_takesDraft_21 : decode cX13_takesDraft 21 = .ok (.iinc 1 1, 3) := by decide +kernel
theorem dX13_takesDraft_24 : decode cX13_takesDraft 24 = .ok (.goto (-22), 3) := by decide +kernel
theorem dX13_takesDraft_27 : decode cX13_takesDraft 27 = .ok (.aload_n 0, 1) := by decide +kernel
theorem dX13_takesDraft_28 : decode cX13_takesDraft 28 = .ok (.getfield 68, 3) := by decide +kernel
theorem dX13_takesDraft_31 : decode cX13_takesDraft 31 = .ok (.aload_n 0, 1) := by decide +kernel
theorem dX13_takesDraft_32 : decode cX13_takesDraft 32 = .ok (.getfield 34, 3) := by decide +kernel
theorem dX13_takesDraft_35 : decode cX13_takesDraft 35 = .ok (.invokestatic 89, 3) := by decide +kernel
theorem dX13_takesDraft_38 : decode cX13_takesDraft 38 = .ok (.aload_n 0, 1) := by decide +kernel
theorem dX13_takesDraft_39 : decode cX13_takesDraft 39 = .ok (.getfield 71, 3) := by decide +kernel
theorem dX13_takesDraft_42 : decode cX13_takesDraft 42 = .ok (.aload_n 0, 1) := by decide +kernel
theorem dX13_takesDraft_43 : decode cX13_takesDraft 43 = .ok (.getfield 38, 3) := by decide +kernel
theorem dX13_takesDraft_46 : decode cX13_takesDraft 46 = .ok (.invokestatic 89, 3) := by decide +kernel
theorem dX13_takesDraft_49 : decode cX13_takesDraft 49 = .ok (.aload_n 0, 1) := by decide +kernel
theorem dX13_takesDraft_50 : decode cX13_takesDraft 50 = .ok (.getfield 74, 3) := by decide +kernel
theorem dX13_takesDraft_53 : decode cX13_takesDraft 53 = .ok (.aload_n 0, 1) := by decide +kernel
theorem dX13_takesDraft_54 : decode cX13_takesDraft 54 = .ok (.getfield 41, 3) := by decide +kernel
theorem dX13_takesDraft_57 : decode cX13_takesDraft 57 = .ok (.invokestatic 89, 3) := by decide +kernel
theorem dX13_takesDraft_60 : decode cX13_takesDraft 60 = .ok (.aload_n 0, 1) := by decide +kernel
theorem dX13_takesDraft_61 : decode cX13_takesDraft 61 = .ok (.getfield 77, 3) := by decide +kernel
theorem dX13_takesDraft_64 : decode cX13_takesDraft 64 = .ok (.aload_n 0, 1) := by decide +kernel
theorem dX13_takesDraft_65 : decode cX13_takesDraft 65 = .ok (.getfield 44, 3) := by decide +kernel
theorem dX13_takesDraft_68 : decode cX13_takesDraft 68 = .ok (.invokestatic 89, 3) := by decide +kernel
theorem dX13_takesDraft_71 : decode cX13_takesDraft 71 = .ok (.aload_n 0, 1) := by decide +kernel
theorem dX13_takesDraft_72 : decode cX13_takesDraft 72 = .ok (.getfield 19, 3) := by decide +kernel
theorem dX13_takesDraft_75 : decode cX13_takesDraft 75 = .ok (.aload_n 0, 1) := by decide +kernel
theorem dX13_takesDraft_76 : decode cX13_takesDraft 76 = .ok (.getfield 16, 3) := by decide +kernel
theorem dX13_takesDraft_79 : decode cX13_takesDraft 79 = .ok (.invokestatic 93, 3) := by decide +kernel
theorem dX13_takesDraft_82 : decode cX13_takesDraft 82 = .ok (.aload_n 0, 1) := by decide +kernel
theorem dX13_takesDraft_83 : decode cX13_takesDraft 83 = .ok (.iconst 0, 1) := by decide +kernel
theorem dX13_takesDraft_84 : decode cX13_takesDraft 84 = .ok (.putfield 97, 3) := by decide +kernel
theorem dX13_takesDraft_87 : decode cX13_takesDraft 87 = .ok (.aload_n 0, 1) := by decide +kernel
theorem dX13_takesDraft_88 : decode cX13_takesDraft 88 = .ok (.iconst 0, 1) := by decide +kernel
theorem dX13_takesDraft_89 : decode cX13_takesDraft 89 = .ok (.putfield 100, 3) := by decide +kernel
theorem dX13_takesDraft_92 : decode cX13_takesDraft 92 = .ok (.return_, 1) := by decide +kernel
theorem hd_X13_takesDraft : yX13_takesDraft.cls = RX13 ∧ yX13_takesDraft.cls ≠ "java/lang/invoke/MethodHandle" ∧ yX13_takesDraft.cls ≠ "java/lang/invoke/VarHandle" ∧ (parseMethodDescriptor yX13_takesDraft.desc).map (fun d => d.parameters.length) = some 0 := by decide +kernel
theorem hs_X13_takesDraft : yX13_takesDraft.cls ≠ "java/lang/invoke/MethodHandle" ∧ yX13_takesDraft.cls ≠ "java/lang/invoke/VarHandle" ∧ (parseMethodDescriptor yX13_takesDraft.desc).map (fun d => d.parameters.length) = some 0 := by decide +kernel
set_option maxHeartbeats 4000000 in
set_option maxRecDepth 100000 in
theorem l_X13_takesDraft_L2 (C : CX p l e s m args meth c cX13_takesDraft 2 RX13 (Option.none : Option Jvm.ClassFile.FieldType) E) {o : Nat} (ho : K o = some (11, 0)) {w' : Wd} (k : Int32 → Wd → Option Wd) (hk : ∀ (v1_2 : Int32) (w : Wd) (H : Heap) (locs : List Loc) (ls : Array Slot), HQ E K z w s H locs → lv_has ls 2 [(1, .int v1_2), (0, rv E (some o))] → k v1_2 w = some w' → W p l e ({ frames := 1, cells := 0, slots := 0, locals := 22 } : Room) s m args below meth c H locs 0 0 (MQ below (QV E K z w') args s 0 0 (hA E)) (F0 m 27 ls [])) : ∀ (n : Nat) (v1_2 : Int32) (w : Wd) (H : Heap) (locs : List Loc) (ls : Array Slot), HQ E K z w s H locs → lv_has ls 2 [(1, .int v1_2), (0, rv E (some o))] → f_X13_takesDraft_L2 K o k n v1_2 w = some w' → W p l e ({ frames := 1, cells := 0, slots := 0, locals := 22 } : Room) s m args below meth c H locs 0 0 (MQ below (QV E K z w') args s 0 0 (hA E)) (F0 m 2 ls []) := by
  obtain ⟨hx, hb, hml, hown, hts, hKs, hT, hb0, hlocks, hret⟩ := id C
  intro n
  induction n with
  | zero =>
    intro v1_2 w H locs ls hH hl hf
    cases hf
  | succ n ih =>
    intro v1_2 w H locs ls hH hl hf
    rw [f_X13_takesDraft_L2] at hf
    refine lv_iload_n hx hb dX13_takesDraft_2 rfl (lv_at hl 0 rfl) ?_
    refine lv_sipush (v := 170) hx hb dX13_takesDraft_3 (by decide) ?_
    refine lv_icmp_ge (tgt := 27) hx hb dX13_takesDraft_6 (by decide) (fun c2 => ?_) (fun c2 => ?_)
    · replace hf := (if_pos c2).symm.trans hf
      exact hk v1_2 _ _ _ _ hH (lv_sub hl [0, 1] rfl) hf
    · replace hf := (if_neg c2).symm.trans hf
      refine hl_aload_n hx hb dX13_takesDraft_9 rfl (lv_at hl 1 rfl) ?_
      refine g13_1 hx hb hts hown hKs hH rfl ho m6_183 dX13_takesDraft_10 ?_
      refine lv_iload_n hx hb dX13_takesDraft_13 rfl (lv_at hl 0 rfl) ?_
      refine hl_aload_n hx hb dX13_takesDraft_14 rfl (lv_at hl 1 rfl) ?_
      refine g13_2 hx hb hts hown hKs hH rfl ho m6_184 dX13_takesDraft_15 ?_
      refine lv_iload_n hx hb dX13_takesDraft_18 rfl (lv_at hl 0 rfl) ?_
      obtain ⟨a3, ha3, hf⟩ := bnd hf
      replace ha3 := cha_some ha3
      obtain ⟨j4, hj4, hf⟩ := bnd hf
      refine hw_iald hx hb hKs hH ha3.1 ha3.2 hj4 dX13_takesDraft_19 ?_
      obtain ⟨a5, ha5, hf⟩ := bnd hf
      replace ha5 := cha_some ha5
      obtain ⟨j6, hj6, hf⟩ := bnd hf
      obtain ⟨w7, hw7, hf⟩ := bnd hf
      replace hw7 := Option.some.inj hw7
      refine hw_iast (x := (aI w a3.1 j4)) hx hb hKs hH ha5.1 ha5.2 hj6 dX13_takesDraft_20 (fun H locs hH => ?_)
      rw [hw7] at hH
      refine lv_iinc (v := (v1_2 + 1)) (lv' := [(1, .int ((v1_2 + 1))), (0, rv E (some o))]) hx hb dX13_takesDraft_21 hl (k := 0) rfl rfl (by decide) rfl (fun ls hl => ?_)
      refine lv_goto (tgt := 2) hx hb dX13_takesDraft_24 (by decide) ?_
      exact ih (v1_2 + 1) _ _ _ _ hH (lv_sub hl [0, 1] rfl) hf
set_option maxHeartbeats 4000000 in
set_option maxRecDepth 100000 in
theorem k_X13_takesDraft (l : Launch) (E : Ev) (K : Kd) (z : Nat) (o : Nat) (w : Wd) (ho : K o = some (11, 0)) {w' : Wd} (hf : f_X13_takesDraft K o w = some w') : Met l yX13_takesDraft (Cond.code yX13_takesDraft cX13_takesDraft 2 (Option.none : Option Jvm.ClassFile.FieldType) :: bt) ({ frames := 1, cells := 0, slots := 0, locals := 22 } : Room) (va_Pc [rv E (some o)] (HB E K w z)) (QV E K z w') 0 0 (hA E) := by
  refine Met.ofW (cc := cX13_takesDraft) (maxL := 2) (ret := (Option.none : Option Jvm.ClassFile.FieldType)) (by decide) rfl ?_
  intro p e s m args below meth c s₁ B hml hv
  obtain ⟨rfl, hz, hP, hKs, hT, hb0⟩ := hv
  have C : CX p l e s m _ meth c cX13_takesDraft 2 RX13 (Option.none : Option Jvm.ClassFile.FieldType) E := ⟨B.exec, B.bytes, hml, findClass_of_methodNamed B.named, fun w h => atoms_spec (ws := Cond.code yX13_takesDraft cX13_takesDraft 2 (Option.none : Option Jvm.ClassFile.FieldType) :: bt) B.pre w (List.mem_cons_of_mem _ h), hKs, hT, by rw [hz]; exact hb0, B.notSynchronized, B.returns⟩
  have hH : HQ E K z w s s.heap [] := ⟨hP, va_S.rf, hz⟩
  obtain ⟨hx, hb, hml, hown, hts, hKs, hT, hb0, hlocks, hret⟩ := id C
  have hl := lv_entry [rv E (some o)] (n := 2) (by simp [lg_len_nil, lg_len_i, lg_len_j, lg_len_q, lg_len_f, lg_len_d, lg_len_r])
  rw [lg_entry_eq]
  generalize (lg_sl [rv E (some o)] ++ List.replicate (2 - (lg_sl [rv E (some o)]).length) Slot.unset).toArray = ls at hl ⊢
  replace hl : lv_has ls 2 [(0, rv E (some o))] := by simpa only [lv_args, cat_q, cat_i, cat_j, reduceIte, Nat.reduceEqDiff, Nat.reduceAdd, Nat.zero_add] using hl
  generalize s.heap = H at hH ⊢
  unfold f_X13_takesDraft at hf
  refine lv_iconst (v := 0) hx hb dX13_takesDraft_0 (by decide) ?_
  refine lv_istore_n (lv' := [(1, .int 0), (0, rv E (some o))]) hx hb dX13_takesDraft_1 rfl hl (by decide) rfl (fun ls hl => ?_)
  refine l_X13_takesDraft_L2  C ho _ (fun v1_2 w1 H locs ls hH hl hf => ?_) fu 0 w _ _ _ hH (lv_sub hl [0, 1] rfl) hf
  refine hl_aload_n hx hb dX13_takesDraft_27 rfl (lv_at hl 1 rfl) ?_
  refine g13_33 hx hb hts hown hKs hH rfl ho m6_215 dX13_takesDraft_28 ?_
  refine hl_aload_n hx hb dX13_takesDraft_31 rfl (lv_at hl 1 rfl) ?_
  refine g13_11 hx hb hts hown hKs hH rfl ho m6_193 dX13_takesDraft_32 ?_
  obtain ⟨q8, hq8, hf⟩ := bnd hf
  refine hcS_v hx hb hml hown hts hKs hT hb0 hH (As := [rv E (wR w1 1333 o), rv E (wR w1 1311 o)]) (rest := []) (k_X13_moves l E K H.size (wR w1 1333 o) (wR w1 1311 o) w1 hq8) (gS m6_176 m6_177 m1_16 m6_178) hs_X13_moves ⟨Nat.le_of_ble_eq_true rfl, Nat.le_of_ble_eq_true rfl, rfl, rfl⟩ hl.1 rfl rc0 rfl dX13_takesDraft_35 ⟨Nat.zero_le _, Nat.zero_le _⟩ (fun H locs hH => ?_)
  refine hl_aload_n hx hb dX13_takesDraft_38 rfl (lv_at hl 1 rfl) ?_
  refine g13_34 hx hb hts hown hKs hH rfl ho m6_216 dX13_takesDraft_39 ?_
  refine hl_aload_n hx hb dX13_takesDraft_42 rfl (lv_at hl 1 rfl) ?_
  refine g13_12 hx hb hts hown hKs hH rfl ho m6_194 dX13_takesDraft_43 ?_
  obtain ⟨q9, hq9, hf⟩ := bnd hf
  refine hcS_v hx hb hml hown hts hKs hT hb0 hH (As := [rv E (wR q8 1334 o), rv E (wR q8 1312 o)]) (rest := []) (k_X13_moves l E K H.size (wR q8 1334 o) (wR q8 1312 o) q8 hq9) (gS m6_176 m6_177 m1_16 m6_178) hs_X13_moves ⟨Nat.le_of_ble_eq_true rfl, Nat.le_of_ble_eq_true rfl, rfl, rfl⟩ hl.1 rfl rc0 rfl dX13_takesDraft_46 ⟨Nat.zero_le _, Nat.zero_le _⟩ (fun H locs hH => ?_)
  refine hl_aload_n hx hb dX13_takesDraft_49 rfl (lv_at hl 1 rfl) ?_
  refine g13_35 hx hb hts hown hKs hH rfl ho m6_217 dX13_takesDraft_50 ?_
  refine hl_aload_n hx hb dX13_takesDraft_53 rfl (lv_at hl 1 rfl) ?_
  refine g13_13 hx hb hts hown hKs hH rfl ho m6_195 dX13_takesDraft_54 ?_
  obtain ⟨q10, hq10, hf⟩ := bnd hf
  refine hcS_v hx hb hml hown hts hKs hT hb0 hH (As := [rv E (wR q9 1335 o), rv E (wR q9 1313 o)]) (rest := []) (k_X13_moves l E K H.size (wR q9 1335 o) (wR q9 1313 o) q9 hq10) (gS m6_176 m6_177 m1_16 m6_178) hs_X13_moves ⟨Nat.le_of_ble_eq_true rfl, Nat.le_of_ble_eq_true rfl, rfl, rfl⟩ hl.1 rfl rc0 rfl dX13_takesDraft_57 ⟨Nat.zero_le _, Nat.zero_le _⟩ (fun H locs hH => ?_)
  refine hl_aload_n hx hb dX13_takesDraft_60 rfl (lv_at hl 1 rfl) ?_
  refine g13_36 hx hb hts hown hKs hH rfl ho m6_218 dX13_takesDraft_61 ?_
  refine hl_aload_n hx hb dX13_takesDraft_64 rfl (lv_at hl 1 rfl) ?_
  refine g13_14 hx hb hts hown hKs hH rfl ho m6_196 dX13_takesDraft_65 ?_
  obtain ⟨q11, hq11, hf⟩ := bnd hf
  refine hcS_v hx hb hml hown hts hKs hT hb0 hH (As := [rv E (wR q10 1336 o), rv E (wR q10 1314 o)]) (rest := []) (k_X13_moves l E K H.size (wR q10 1336 o) (wR q10 1314 o) q10 hq11) (gS m6_176 m6_177 m1_16 m6_178) hs_X13_moves ⟨Nat.le_of_ble_eq_true rfl, Nat.le_of_ble_eq_true rfl, rfl, rfl⟩ hl.1 rfl rc0 rfl dX13_takesDraft_68 ⟨Nat.zero_le _, Nat.zero_le _⟩ (fun H locs hH => ?_)
  refine hl_aload_n hx hb dX13_takesDraft_71 rfl (lv_at hl 1 rfl) ?_
  refine g13_4 hx hb hts hown hKs hH rfl ho m6_186 dX13_takesDraft_72 ?_
  refine hl_aload_n hx hb dX13_takesDraft_75 rfl (lv_at hl 1 rfl) ?_
  refine g13_3 hx hb hts hown hKs hH rfl ho m6_185 dX13_takesDraft_76 ?_
  obtain ⟨q12, hq12, hf⟩ := bnd hf
  refine hcS_v hx hb hml hown hts hKs hT hb0 hH (As := [rv E (wR q11 1304 o), rv E (wR q11 1303 o)]) (rest := []) (k_X13_copies l E K H.size (wR q11 1304 o) (wR q11 1303 o) q11 hq12) (gS m6_179 m6_180 m1_16 m6_181) hs_X13_copies ⟨Nat.le_of_ble_eq_true rfl, Nat.le_of_ble_eq_true rfl, rfl, rfl⟩ hl.1 rfl rc0 rfl dX13_takesDraft_79 ⟨Nat.zero_le _, Nat.zero_le _⟩ (fun H locs hH => ?_)
  refine hl_aload_n hx hb dX13_takesDraft_82 rfl (lv_at hl 1 rfl) ?_
  refine lv_iconst (v := 0) hx hb dX13_takesDraft_83 (by decide) ?_
  obtain ⟨w13, hw13, hf⟩ := bnd hf
  replace hw13 := Option.some.inj hw13
  refine p13_9 (v := 0) hx hb hts hown hKs hH rfl ho m6_191 dX13_takesDraft_84 (fun H locs hH => ?_)
  rw [hw13] at hH
  refine hl_aload_n hx hb dX13_takesDraft_87 rfl (lv_at hl 1 rfl) ?_
  refine lv_iconst (v := 0) hx hb dX13_takesDraft_88 (by decide) ?_
  obtain ⟨w14, hw14, hf⟩ := bnd hf
  replace hw14 := Option.some.inj hw14
  refine p13_10 (v := false) hx hb hts hown hKs hH rfl ho m6_192 dX13_takesDraft_89 (fun H locs hH => ?_)
  rw [hw14] at hH
  exact hw_vret hx hb hret hf hH hlocks dX13_takesDraft_92

theorem dX13_witness_0 : decode cX13_witness 0 = .ok (.aload_n 0, 1) := by decide +kernel
theorem dX13_witness_1 : decode cX13_witness 1 = .ok (.aload_n 0, 1) := by decide +kernel
theorem dX13_witness_2 : decode cX13_witness 2 = .ok (.iload_n 1, 1) := by decide +kernel
theorem dX13_witness_3 : decode cX13_witness 3 = .ok (.invokevirtual 286, 3) := by decide +kernel
theorem dX13_witness_6 : decode cX13_witness 6 = .ok (.ifCond .eq 19, 3) := by decide +kernel
theorem dX13_witness_9 : decode cX13_witness 9 = .ok (.iload_n 2, 1) := by decide +kernel
theorem dX13_witness_10 : decode cX13_witness 10 = .ok (.i2l, 1) := by decide +kernel
theorem dX13_witness_11 : decode cX13_witness 11 = .ok (.lconst 0, 1) := by decide +kernel
theorem dX13_witness_12 : decode cX13_witness 12 = .ok (.ldc2_w 309, 3) := by decide +kernel
theorem dX13_witness_15 : decode cX13_witness 15 = .ok (.invokestatic 123, 3) := by decide +kernel
theorem dX13_witness_18 : decode cX13_witness 18 = .ok (.ifCond .eq 7, 3) := by decide +kernel
theorem dX13_witness_21 : decode cX13_witness 21 = .ok (.iconst 1, 1) := by decide +kernel
theorem dX13_witness_22 : decode cX13_witness 22 = .ok (.goto 4, 3) := by decide +kernel
theorem dX13_witness_25 : decode cX13_witness 25 = .ok (.iconst 0, 1) := by decide +kernel
theorem dX13_witness_26 : decode cX13_witness 26 = .ok (.invokevirtual 110, 3) := by decide +kernel
theorem dX13_witness_29 : decode cX13_witness 29 = .ok (.ifCond .ne 5, 3) := by decide +kernel
theorem dX13_witness_32 : decode cX13_witness 32 = .ok (.iconst 0, 1) := by decide +kernel
theorem dX13_witness_33 : decode cX13_witness 33 = .ok (.ireturn, 1) := by decide +kernel
theorem dX13_witness_34 : decode cX13_witness 34 = .ok (.iload_n 2, 1) := by decide +kernel
theorem dX13_witness_35 : decode cX13_witness 35 = .ok (.tableswitch 69 0 3 #[29, 39, 49, 59], 29) := by decide +kernel
theorem dX13_witness_64 : decode cX13_witness 64 = .ok (.aload_n 0, 1) := by decide +kernel
theorem dX13_witness_65 : decode cX13_witness 65 = .ok (.getfield 7, 3) := by decide +kernel
theorem dX13_witness_68 : decode cX13_witness 68 = .ok (.bipush 52, 2) := by decide +kernel
theorem dX13_witness_70 : decode cX13_witness 70 = .ok (.iload_n 1, 1) := by decide +kernel
theorem dX13_witness_71 : decode cX13_witness 71 = .ok (.iadd, 1) := by decide +kernel
theorem dX13_witness_72 : decode cX13_witness 72 = .ok (.iaload, 1) := by decide +kernel
theorem dX13_witness_73 : decode cX13_witness 73 = .ok (.ireturn, 1) := by decide +kernel
theorem dX13_witness_74 : decode cX13_witness 74 = .ok (.aload_n 0, 1) := by decide +kernel
theorem dX13_witness_75 : decode cX13_witness 75 = .ok (.getfield 16, 3) := by decide +kernel
theorem dX13_witness_78 : decode cX13_witness 78 = .ok (.bipush 22, 2) := by decide +kernel
theorem dX13_witness_80 : decode cX13_witness 80 = .ok (.iload_n 1, 1) := by decide +kernel
theorem dX13_witness_81 : decode cX13_witness 81 = .ok (.iadd, 1) := by decide +kernel
theorem dX13_witness_82 : decode cX13_witness 82 = .ok (.iaload, 1) := by decide +kernel
theorem dX13_witness_83 : decode cX13_witness 83 = .ok (.ireturn, 1) := by decide +kernel
theorem dX13_witness_84 : decode cX13_witness 84 = .ok (.aload_n 0, 1) := by decide +kernel
theorem dX13_witness_85 : decode cX13_witness 85 = .ok (.getfield 7, 3) := by decide +kernel
theorem dX13_witness_88 : decode cX13_witness 88 = .ok (.bipush 64, 2) := by decide +kernel
theorem dX13_witness_90 : decode cX13_witness 90 = .ok (.iload_n 1, 1) := by decide +kernel
theorem dX13_witness_91 : decode cX13_witness 91 = .ok (.iadd, 1) := by decide +kernel
theorem dX13_witness_92 : decode cX13_witness 92 = .ok (.iaload, 1) := by decide +kernel
theorem dX13_witness_93 : decode cX13_witness 93 = .ok (.ireturn, 1) := by decide +kernel
theorem dX13_witness_94 : decode cX13_witness 94 = .ok (.aload_n 0, 1) := by decide +kernel
theorem dX13_witness_95 : decode cX13_witness 95 = .ok (.getfield 7, 3) := by decide +kernel
theorem dX13_witness_98 : decode cX13_witness 98 = .ok (.bipush 76, 2) := by decide +kernel
theorem dX13_witness_100 : decode cX13_witness 100 = .ok (.iload_n 1, 1) := by decide +kernel
theorem dX13_witness_101 : decode cX13_witness 101 = .ok (.iadd, 1) := by decide +kernel
theorem dX13_witness_102 : decode cX13_witness 102 = .ok (.iaload, 1) := by decide +kernel
theorem dX13_witness_103 : decode cX13_witness 103 = .ok (.ireturn, 1) := by decide +kernel
theorem dX13_witness_104 : decode cX13_witness 104 = .ok (.aload_n 0, 1) := by decide +kernel
theorem dX13_witness_105 : decode cX13_witness 105 = .ok (.iload_n 1, 1) := by decide +kernel
theorem dX13_witness_106 : decode cX13_witness 106 = .ok (.invokevirtual 311, 3) := by decide +kernel
theorem dX13_witness_109 : decode cX13_witness 109 = .ok (.ireturn, 1) := by decide +kernel
theorem hd_X13_witness : yX13_witness.cls = RX13 ∧ yX13_witness.cls ≠ "java/lang/invoke/MethodHandle" ∧ yX13_witness.cls ≠ "java/lang/invoke/VarHandle" ∧ (parseMethodDescriptor yX13_witness.desc).map (fun d => d.parameters.length) = some 2 := by decide +kernel
theorem hs_X13_witness : yX13_witness.cls ≠ "java/lang/invoke/MethodHandle" ∧ yX13_witness.cls ≠ "java/lang/invoke/VarHandle" ∧ (parseMethodDescriptor yX13_witness.desc).map (fun d => d.parameters.length) = some 2 := by decide +kernel
set_option maxHeartbeats 4000000 in
set_option maxRecDepth 100000 in
theorem k_X13_witness (l : Launch) (E : Ev) (K : Kd) (z : Nat) (o : Nat) (a_1 : Int32) (a_2 : Int32) (w : Wd) (ho : K o = some (11, 0)) {r : Int32} {w' : Wd} (hf : f_X13_witness K o a_1 a_2 w = some (r, w')) : Met l yX13_witness (Cond.code yX13_witness cX13_witness 3 (Option.some Jvm.ClassFile.FieldType.int) :: bt) ({ frames := 3, cells := 0, slots := 0, locals := 67 } : Room) (va_Pc [rv E (some o), .int a_1, .int a_2] (HB E K w z)) (QI E K z w' r) 0 0 (hA E) := by
  refine Met.ofW (cc := cX13_witness) (maxL := 3) (ret := (Option.some Jvm.ClassFile.FieldType.int)) (by decide) rfl ?_
  intro p e s m args below meth c s₁ B hml hv
  obtain ⟨rfl, hz, hP, hKs, hT, hb0⟩ := hv
  have C : CX p l e s m _ meth c cX13_witness 3 RX13 (Option.some Jvm.ClassFile.FieldType.int) E := ⟨B.exec, B.bytes, hml, findClass_of_methodNamed B.named, fun w h => atoms_spec (ws := Cond.code yX13_witness cX13_witness 3 (Option.some Jvm.ClassFile.FieldType.int) :: bt) B.pre w (List.mem_cons_of_mem _ h), hKs, hT, by rw [hz]; exact hb0, B.notSynchronized, B.returns⟩
  have hH : HQ E K z w s s.heap [] := ⟨hP, va_S.rf, hz⟩
  obtain ⟨hx, hb, hml, hown, hts, hKs, hT, hb0, hlocks, hret⟩ := id C
  have hl := lv_entry [rv E (some o), .int a_1, .int a_2] (n := 3) (by simp [lg_len_nil, lg_len_i, lg_len_j, lg_len_q, lg_len_f, lg_len_d, lg_len_r])
  rw [lg_entry_eq]
  generalize (lg_sl [rv E (some o), .int a_1, .int a_2] ++ List.replicate (3 - (lg_sl [rv E (some o), .int a_1, .int a_2]).length) Slot.unset).toArray = ls at hl ⊢
  replace hl : lv_has ls 3 [(0, rv E (some o)), (1, .int a_1), (2, .int a_2)] := by simpa only [lv_args, cat_q, cat_i, cat_j, reduceIte, Nat.reduceEqDiff, Nat.reduceAdd, Nat.zero_add] using hl
  generalize s.heap = H at hH ⊢
  unfold f_X13_witness at hf
  refine hl_aload_n hx hb dX13_witness_0 rfl (lv_at hl 0 rfl) ?_
  refine hl_aload_n hx hb dX13_witness_1 rfl (lv_at hl 0 rfl) ?_
  refine lv_iload_n hx hb dX13_witness_2 rfl (lv_at hl 1 rfl) ?_
  obtain ⟨q1, hq1, hf⟩ := bnd hf
  refine hcV_i hx hb hml hown hts hKs hT hb0 hH (As := [.int a_1]) (rest := [rv E (some o)]) (k_X13_isWitness l E K H.size o a_1 w ho hq1) (gV m8_90 m8_92 ms_89 m1_16 m8_93) hd_X13_isWitness ⟨Nat.le_of_ble_eq_true rfl, Nat.le_of_ble_eq_true rfl, rfl, rfl⟩ rfl ho rfl rfl rfl hl.1 rfl (rcV rc0) rfl dX13_witness_3 ⟨Nat.zero_le _, Nat.zero_le _⟩ (fun H locs hH => ?_)
  refine lv_if_eq (tgt := 25) hx hb dX13_witness_6 (by decide) (fun c2 => ?_) (fun c2 => ?_)
  · replace hf := (if_pos c2).symm.trans hf
    refine lv_iconst (v := 0) hx hb dX13_witness_25 (by decide) ?_
    obtain ⟨q3, hq3, hf⟩ := bnd hf
    refine hcV_i hx hb hml hown hts hKs hT hb0 hH (As := [.int 0]) (rest := []) (k_X13_is l E K H.size o false q1.2 ho hq3) (gV m7_69 m7_71 ms_48 m1_16 m7_72) hd_X13_is ⟨Nat.le_of_ble_eq_true rfl, Nat.le_of_ble_eq_true rfl, rfl, rfl⟩ rfl ho rfl rfl rfl hl.1 rfl rc0 rfl dX13_witness_26 ⟨Nat.zero_le _, Nat.zero_le _⟩ (fun H locs hH => ?_)
    refine lv_if_ne (tgt := 34) hx hb dX13_witness_29 (by decide) (fun c4 => ?_) (fun c4 => ?_)
    · replace hf := (if_neg c4).symm.trans hf
      refine lv_iload_n hx hb dX13_witness_34 rfl (lv_at hl 2 rfl) ?_
      by_cases c5 : (a_2 < 0 ∨ 3 < a_2)
      · replace hf := (if_pos c5).symm.trans hf
        refine hl_tabOut (tgt := 104) hx hb dX13_witness_35 c5 (by decide) (by decide) (by decide) ?_
        refine hl_aload_n hx hb dX13_witness_104 rfl (lv_at hl 0 rfl) ?_
        refine lv_iload_n hx hb dX13_witness_105 rfl (lv_at hl 1 rfl) ?_
        obtain ⟨q6, hq6, hf⟩ := bnd hf
        refine hcV_i hx hb hml hown hts hKs hT hb0 hH (As := [.int a_1]) (rest := []) (k_X13_needing l E K H.size o a_1 q3.2 ho hq6) (gV m8_148 m8_150 ms_96 m1_16 m8_151) hd_X13_needing ⟨Nat.le_of_ble_eq_true rfl, Nat.le_of_ble_eq_true rfl, rfl, rfl⟩ rfl ho rfl rfl rfl hl.1 rfl rc0 rfl dX13_witness_106 ⟨Nat.zero_le _, Nat.zero_le _⟩ (fun H locs hH => ?_)
        exact hw_iret hx hb hret hf hH hlocks dX13_witness_109
      replace hf := (if_neg c5).symm.trans hf
      by_cases c7 : a_2 = 0
      · replace hf := (if_pos c7).symm.trans hf
        refine hl_tabIn (tgt := 64) hx hb dX13_witness_35 c7 (by decide) (by decide) rfl (by decide) ?_
        refine hl_aload_n hx hb dX13_witness_64 rfl (lv_at hl 0 rfl) ?_
        refine g13_1 hx hb hts hown hKs hH rfl ho m6_183 dX13_witness_65 ?_
        refine lv_bipush (v := 52) hx hb dX13_witness_68 (by decide) ?_
        refine lv_iload_n hx hb dX13_witness_70 rfl (lv_at hl 1 rfl) ?_
        refine lv_iadd hx hb dX13_witness_71 ?_
        obtain ⟨a8, ha8, hf⟩ := bnd hf
        replace ha8 := cha_some ha8
        obtain ⟨j9, hj9, hf⟩ := bnd hf
        refine hw_iald hx hb hKs hH ha8.1 ha8.2 hj9 dX13_witness_72 ?_
        exact hw_iret hx hb hret hf hH hlocks dX13_witness_73
      replace hf := (if_neg c7).symm.trans hf
      by_cases c10 : a_2 = 1
      · replace hf := (if_pos c10).symm.trans hf
        refine hl_tabIn (tgt := 74) hx hb dX13_witness_35 c10 (by decide) (by decide) rfl (by decide) ?_
        refine hl_aload_n hx hb dX13_witness_74 rfl (lv_at hl 0 rfl) ?_
        refine g13_3 hx hb hts hown hKs hH rfl ho m6_185 dX13_witness_75 ?_
        refine lv_bipush (v := 22) hx hb dX13_witness_78 (by decide) ?_
        refine lv_iload_n hx hb dX13_witness_80 rfl (lv_at hl 1 rfl) ?_
        refine lv_iadd hx hb dX13_witness_81 ?_
        obtain ⟨a11, ha11, hf⟩ := bnd hf
        replace ha11 := cha_some ha11
        obtain ⟨j12, hj12, hf⟩ := bnd hf
        refine hw_iald hx hb hKs hH ha11.1 ha11.2 hj12 dX13_witness_82 ?_
        exact hw_iret hx hb hret hf hH hlocks dX13_witness_83
      replace hf := (if_neg c10).symm.trans hf
      by_cases c13 : a_2 = 2
      · replace hf := (if_pos c13).symm.trans hf
        refine hl_tabIn (tgt := 84) hx hb dX13_witness_35 c13 (by decide) (by decide) rfl (by decide) ?_
        refine hl_aload_n hx hb dX13_witness_84 rfl (lv_at hl 0 rfl) ?_
        refine g13_1 hx hb hts hown hKs hH rfl ho m6_183 dX13_witness_85 ?_
        refine lv_bipush (v := 64) hx hb dX13_witness_88 (by decide) ?_
        refine lv_iload_n hx hb dX13_witness_90 rfl (lv_at hl 1 rfl) ?_
        refine lv_iadd hx hb dX13_witness_91 ?_
        obtain ⟨a14, ha14, hf⟩ := bnd hf
        replace ha14 := cha_some ha14
        obtain ⟨j15, hj15, hf⟩ := bnd hf
        refine hw_iald hx hb hKs hH ha14.1 ha14.2 hj15 dX13_witness_92 ?_
        exact hw_iret hx hb hret hf hH hlocks dX13_witness_93
      replace hf := (if_neg c13).symm.trans hf
      by_cases c16 : a_2 = 3
      · replace hf := (if_pos c16).symm.trans hf
        refine hl_tabIn (tgt := 94) hx hb dX13_witness_35 c16 (by decide) (by decide) rfl (by decide) ?_
        refine hl_aload_n hx hb dX13_witness_94 rfl (lv_at hl 0 rfl) ?_
        refine g13_1 hx hb hts hown hKs hH rfl ho m6_183 dX13_witness_95 ?_
        refine lv_bipush (v := 76) hx hb dX13_witness_98 (by decide) ?_
        refine lv_iload_n hx hb dX13_witness_100 rfl (lv_at hl 1 rfl) ?_
        refine lv_iadd hx hb dX13_witness_101 ?_
        obtain ⟨a17, ha17, hf⟩ := bnd hf
        replace ha17 := cha_some ha17
        obtain ⟨j18, hj18, hf⟩ := bnd hf
        refine hw_iald hx hb hKs hH ha17.1 ha17.2 hj18 dX13_witness_102 ?_
        exact hw_iret hx hb hret hf hH hlocks dX13_witness_103
      replace hf := (if_neg c16).symm.trans hf
      cases hf
    · replace hf := (if_pos c4).symm.trans hf
      refine lv_iconst (v := 0) hx hb dX13_witness_32 (by decide) ?_
      exact hw_iret hx hb hret hf hH hlocks dX13_witness_33
  · replace hf := (if_neg c2).symm.trans hf
    refine lv_iload_n hx hb dX13_witness_9 rfl (lv_at hl 2 rfl) ?_
    refine lv_i2l (v := (a_2.toInt64)) hx hb dX13_witness_10 rfl ?_
    refine lv_lconst (v := 0) hx hb dX13_witness_11 rfl ?_
    refine lv_ldc2 (v := 4) hx hb hown (hts _ m8_147) dX13_witness_12 ?_
    obtain ⟨q19, hq19, hf⟩ := bnd hf
    refine hcS_i hx hb hml hown hts hKs hT hb0 hH (As := [.long (a_2.toInt64), .long 0, .long 4]) (rest := [rv E (some o)]) (k_X13_isIn l E K H.size (a_2.toInt64) 0 4 q1.2 hq19) (gS m7_89 m7_90 m1_16 m7_91) hs_X13_isIn ⟨Nat.le_of_ble_eq_true rfl, Nat.le_of_ble_eq_true rfl, rfl, rfl⟩ hl.1 rfl (rcV rc0) rfl dX13_witness_15 ⟨Nat.zero_le _, Nat.zero_le _⟩ (fun H locs hH => ?_)
    refine lv_if_eq (tgt := 25) hx hb dX13_witness_18 (by decide) (fun c20 => ?_) (fun c20 => ?_)
    · replace hf := (if_pos c20).symm.trans hf
      refine lv_iconst (v := 0) hx hb dX13_witness_25 (by decide) ?_
      obtain ⟨q21, hq21, hf⟩ := bnd hf
      refine hcV_i hx hb hml hown hts hKs hT hb0 hH (As := [.int 0]) (rest := []) (k_X13_is l E K H.size o false q19.2 ho hq21) (gV m7_69 m7_71 ms_48 m1_16 m7_72) hd_X13_is ⟨Nat.le_of_ble_eq_true rfl, Nat.le_of_ble_eq_true rfl, rfl, rfl⟩ rfl ho rfl rfl rfl hl.1 rfl rc0 rfl dX13_witness_26 ⟨Nat.zero_le _, Nat.zero_le _⟩ (fun H locs hH => ?_)
      refine lv_if_ne (tgt := 34) hx hb dX13_witness_29 (by decide) (fun c22 => ?_) (fun c22 => ?_)
      · replace hf := (if_neg c22).symm.trans hf
        refine lv_iload_n hx hb dX13_witness_34 rfl (lv_at hl 2 rfl) ?_
        by_cases c23 : (a_2 < 0 ∨ 3 < a_2)
        · replace hf := (if_pos c23).symm.trans hf
          refine hl_tabOut (tgt := 104) hx hb dX13_witness_35 c23 (by decide) (by decide) (by decide) ?_
          refine hl_aload_n hx hb dX13_witness_104 rfl (lv_at hl 0 rfl) ?_
          refine lv_iload_n hx hb dX13_witness_105 rfl (lv_at hl 1 rfl) ?_
          obtain ⟨q24, hq24, hf⟩ := bnd hf
          refine hcV_i hx hb hml hown hts hKs hT hb0 hH (As := [.int a_1]) (rest := []) (k_X13_needing l E K H.size o a_1 q21.2 ho hq24) (gV m8_148 m8_150 ms_96 m1_16 m8_151) hd_X13_needing ⟨Nat.le_of_ble_eq_true rfl, Nat.le_of_ble_eq_true rfl, rfl, rfl⟩ rfl ho rfl rfl rfl hl.1 rfl rc0 rfl dX13_witness_106 ⟨Nat.zero_le _, Nat.zero_le _⟩ (fun H locs hH => ?_)
          exact hw_iret hx hb hret hf hH hlocks dX13_witness_109
        replace hf := (if_neg c23).symm.trans hf
        by_cases c25 : a_2 = 0
        · replace hf := (if_pos c25).symm.trans hf
          refine hl_tabIn (tgt := 64) hx hb dX13_witness_35 c25 (by decide) (by decide) rfl (by decide) ?_
          refine hl_aload_n hx hb dX13_witness_64 rfl (lv_at hl 0 rfl) ?_
          refine g13_1 hx hb hts hown hKs hH rfl ho m6_183 dX13_witness_65 ?_
          refine lv_bipush (v := 52) hx hb dX13_witness_68 (by decide) ?_
          refine lv_iload_n hx hb dX13_witness_70 rfl (lv_at hl 1 rfl) ?_
          refine lv_iadd hx hb dX13_witness_71 ?_
          obtain ⟨a26, ha26, hf⟩ := bnd hf
          replace ha26 := cha_some ha26
          obtain ⟨j27, hj27, hf⟩ := bnd hf
          refine hw_iald hx hb hKs hH ha26.1 ha26.2 hj27 dX13_witness_72 ?_
          exact hw_iret hx hb hret hf hH hlocks dX13_witness_73
        replace hf := (if_neg c25).symm.trans hf
        by_cases c28 : a_2 = 1
        · replace hf := (if_pos c28).symm.trans hf
          refine hl_tabIn (tgt := 74) hx hb dX13_witness_35 c28 (by decide) (by decide) rfl (by decide) ?_
          refine hl_aload_n hx hb dX13_witness_74 rfl (lv_at hl 0 rfl) ?_
          refine g13_3 hx hb hts hown hKs hH rfl ho m6_185 dX13_witness_75 ?_
          refine lv_bipush (v := 22) hx hb dX13_witness_78 (by decide) ?_
          refine lv_iload_n hx hb dX13_witness_80 rfl (lv_at hl 1 rfl) ?_
          refine lv_iadd hx hb dX13_witness_81 ?_
          obtain ⟨a29, ha29, hf⟩ := bnd hf
          replace ha29 := cha_some ha29
          obtain ⟨j30, hj30, hf⟩ := bnd hf
          refine hw_iald hx hb hKs hH ha29.1 ha29.2 hj30 dX13_witness_82 ?_
          exact hw_iret hx hb hret hf hH hlocks dX13_witness_83
        replace hf := (if_neg c28).symm.trans hf
        by_cases c31 : a_2 = 2
        · replace hf := (if_pos c31).symm.trans hf
          refine hl_tabIn (tgt := 84) hx hb dX13_witness_35 c31 (by decide) (by decide) rfl (by decide) ?_
          refine hl_aload_n hx hb dX13_witness_84 rfl (lv_at hl 0 rfl) ?_
          refine g13_1 hx hb hts hown hKs hH rfl ho m6_183 dX13_witness_85 ?_
          refine lv_bipush (v := 64) hx hb dX13_witness_88 (by decide) ?_
          refine lv_iload_n hx hb dX13_witness_90 rfl (lv_at hl 1 rfl) ?_
          refine lv_iadd hx hb dX13_witness_91 ?_
          obtain ⟨a32, ha32, hf⟩ := bnd hf
          replace ha32 := cha_some ha32
          obtain ⟨j33, hj33, hf⟩ := bnd hf
          refine hw_iald hx hb hKs hH ha32.1 ha32.2 hj33 dX13_witness_92 ?_
          exact hw_iret hx hb hret hf hH hlocks dX13_witness_93
        replace hf := (if_neg c31).symm.trans hf
        by_cases c34 : a_2 = 3
        · replace hf := (if_pos c34).symm.trans hf
          refine hl_tabIn (tgt := 94) hx hb dX13_witness_35 c34 (by decide) (by decide) rfl (by decide) ?_
          refine hl_aload_n hx hb dX13_witness_94 rfl (lv_at hl 0 rfl) ?_
          refine g13_1 hx hb hts hown hKs hH rfl ho m6_183 dX13_witness_95 ?_
          refine lv_bipush (v := 76) hx hb dX13_witness_98 (by decide) ?_
          refine lv_iload_n hx hb dX13_witness_100 rfl (lv_at hl 1 rfl) ?_
          refine lv_iadd hx hb dX13_witness_101 ?_
          obtain ⟨a35, ha35, hf⟩ := bnd hf
          replace ha35 := cha_some ha35
          obtain ⟨j36, hj36, hf⟩ := bnd hf
          refine hw_iald hx hb hKs hH ha35.1 ha35.2 hj36 dX13_witness_102 ?_
          exact hw_iret hx hb hret hf hH hlocks dX13_witness_103
        replace hf := (if_neg c34).symm.trans hf
        cases hf
      · replace hf := (if_pos c22).symm.trans hf
        refine lv_iconst (v := 0) hx hb dX13_witness_32 (by decide) ?_
        exact hw_iret hx hb hret hf hH hlocks dX13_witness_33
    · replace hf := (if_neg c20).symm.trans hf
      refine lv_iconst (v := 1) hx hb dX13_witness_21 (by decide) ?_
      refine lv_goto (tgt := 26) hx hb dX13_witness_22 (by decide) ?_
      obtain ⟨q37, hq37, hf⟩ := bnd hf
      refine hcV_i hx hb hml hown hts hKs hT hb0 hH (As := [.int 1]) (rest := []) (k_X13_is l E K H.size o true q19.2 ho hq37) (gV m7_69 m7_71 ms_48 m1_16 m7_72) hd_X13_is ⟨Nat.le_of_ble_eq_true rfl, Nat.le_of_ble_eq_true rfl, rfl, rfl⟩ rfl ho rfl rfl rfl hl.1 rfl rc0 rfl dX13_witness_26 ⟨Nat.zero_le _, Nat.zero_le _⟩ (fun H locs hH => ?_)
      refine lv_if_ne (tgt := 34) hx hb dX13_witness_29 (by decide) (fun c38 => ?_) (fun c38 => ?_)
      · replace hf := (if_neg c38).symm.trans hf
        refine lv_iload_n hx hb dX13_witness_34 rfl (lv_at hl 2 rfl) ?_
        by_cases c39 : (a_2 < 0 ∨ 3 < a_2)
        · replace hf := (if_pos c39).symm.trans hf
          refine hl_tabOut (tgt := 104) hx hb dX13_witness_35 c39 (by decide) (by decide) (by decide) ?_
          refine hl_aload_n hx hb dX13_witness_104 rfl (lv_at hl 0 rfl) ?_
          refine lv_iload_n hx hb dX13_witness_105 rfl (lv_at hl 1 rfl) ?_
          obtain ⟨q40, hq40, hf⟩ := bnd hf
          refine hcV_i hx hb hml hown hts hKs hT hb0 hH (As := [.int a_1]) (rest := []) (k_X13_needing l E K H.size o a_1 q37.2 ho hq40) (gV m8_148 m8_150 ms_96 m1_16 m8_151) hd_X13_needing ⟨Nat.le_of_ble_eq_true rfl, Nat.le_of_ble_eq_true rfl, rfl, rfl⟩ rfl ho rfl rfl rfl hl.1 rfl rc0 rfl dX13_witness_106 ⟨Nat.zero_le _, Nat.zero_le _⟩ (fun H locs hH => ?_)
          exact hw_iret hx hb hret hf hH hlocks dX13_witness_109
        replace hf := (if_neg c39).symm.trans hf
        by_cases c41 : a_2 = 0
        · replace hf := (if_pos c41).symm.trans hf
          refine hl_tabIn (tgt := 64) hx hb dX13_witness_35 c41 (by decide) (by decide) rfl (by decide) ?_
          refine hl_aload_n hx hb dX13_witness_64 rfl (lv_at hl 0 rfl) ?_
          refine g13_1 hx hb hts hown hKs hH rfl ho m6_183 dX13_witness_65 ?_
          refine lv_bipush (v := 52) hx hb dX13_witness_68 (by decide) ?_
          refine lv_iload_n hx hb dX13_witness_70 rfl (lv_at hl 1 rfl) ?_
          refine lv_iadd hx hb dX13_witness_71 ?_
          obtain ⟨a42, ha42, hf⟩ := bnd hf
          replace ha42 := cha_some ha42
          obtain ⟨j43, hj43, hf⟩ := bnd hf
          refine hw_iald hx hb hKs hH ha42.1 ha42.2 hj43 dX13_witness_72 ?_
          exact hw_iret hx hb hret hf hH hlocks dX13_witness_73
        replace hf := (if_neg c41).symm.trans hf
        by_cases c44 : a_2 = 1
        · replace hf := (if_pos c44).symm.trans hf
          refine hl_tabIn (tgt := 74) hx hb dX13_witness_35 c44 (by decide) (by decide) rfl (by decide) ?_
          refine hl_aload_n hx hb dX13_witness_74 rfl (lv_at hl 0 rfl) ?_
          refine g13_3 hx hb hts hown hKs hH rfl ho m6_185 dX13_witness_75 ?_
          refine lv_bipush (v := 22) hx hb dX13_witness_78 (by decide) ?_
          refine lv_iload_n hx hb dX13_witness_80 rfl (lv_at hl 1 rfl) ?_
          refine lv_iadd hx hb dX13_witness_81 ?_
          obtain ⟨a45, ha45, hf⟩ := bnd hf
          replace ha45 := cha_some ha45
          obtain ⟨j46, hj46, hf⟩ := bnd hf
          refine hw_iald hx hb hKs hH ha45.1 ha45.2 hj46 dX13_witness_82 ?_
          exact hw_iret hx hb hret hf hH hlocks dX13_witness_83
        replace hf := (if_neg c44).symm.trans hf
        by_cases c47 : a_2 = 2
        · replace hf := (if_pos c47).symm.trans hf
          refine hl_tabIn (tgt := 84) hx hb dX13_witness_35 c47 (by decide) (by decide) rfl (by decide) ?_
          refine hl_aload_n hx hb dX13_witness_84 rfl (lv_at hl 0 rfl) ?_
          refine g13_1 hx hb hts hown hKs hH rfl ho m6_183 dX13_witness_85 ?_
          refine lv_bipush (v := 64) hx hb dX13_witness_88 (by decide) ?_
          refine lv_iload_n hx hb dX13_witness_90 rfl (lv_at hl 1 rfl) ?_
          refine lv_iadd hx hb dX13_witness_91 ?_
          obtain ⟨a48, ha48, hf⟩ := bnd hf
          replace ha48 := cha_some ha48
          obtain ⟨j49, hj49, hf⟩ := bnd hf
          refine hw_iald hx hb hKs hH ha48.1 ha48.2 hj49 dX13_witness_92 ?_
          exact hw_iret hx hb hret hf hH hlocks dX13_witness_93
        replace hf := (if_neg c47).symm.trans hf
        by_cases c50 : a_2 = 3
        · replace hf := (if_pos c50).symm.trans hf
          refine hl_tabIn (tgt := 94) hx hb dX13_witness_35 c50 (by decide) (by decide) rfl (by decide) ?_
          refine hl_aload_n hx hb dX13_witness_94 rfl (lv_at hl 0 rfl) ?_
          refine g13_1 hx hb hts hown hKs hH rfl ho m6_183 dX13_witness_95 ?_
          refine lv_bipush (v := 76) hx hb dX13_witness_98 (by decide) ?_
          refine lv_iload_n hx hb dX13_witness_100 rfl (lv_at hl 1 rfl) ?_
          refine lv_iadd hx hb dX13_witness_101 ?_
          obtain ⟨a51, ha51, hf⟩ := bnd hf
          replace ha51 := cha_some ha51
          obtain ⟨j52, hj52, hf⟩ := bnd hf
          refine hw_iald hx hb hKs hH ha51.1 ha51.2 hj52 dX13_witness_102 ?_
          exact hw_iret hx hb hret hf hH hlocks dX13_witness_103
        replace hf := (if_neg c50).symm.trans hf
        cases hf
      · replace hf := (if_pos c38).symm.trans hf
        refine lv_iconst (v := 0) hx hb dX13_witness_32 (by decide) ?_
        exact hw_iret hx hb hret hf hH hlocks dX13_witness_33

theorem dX1_prepare_0 : decode cX1_prepare 0 = .ok (.aload_n 0, 1) := by decide +kernel
theorem dX1_prepare_1 : decode cX1_prepare 1 = .ok (.aload_n 1, 1) := by decide +kernel
theorem dX1_prepare_2 : decode cX1_prepare 2 = .ok (.getfield 40, 3) := by decide +kernel
theorem dX1_prepare_5 : decode cX1_prepare 5 = .ok (.iconst 3, 1) := by decide +kernel
theorem dX1_prepare_6 : decode cX1_prepare 6 = .ok (.invokevirtual 46, 3) := by decide +kernel
theorem dX1_prepare_9 : decode cX1_prepare 9 = .ok (.putfield 29, 3) := by decide +kernel
theorem dX1_prepare_12 : decode cX1_prepare 12 = .ok (.aload_n 0, 1) := by decide +kernel
theorem dX1_prepare_13 : decode cX1_prepare 13 = .ok (.aload_n 1, 1) := by decide +kernel
theorem dX1_prepare_14 : decode cX1_prepare 14 = .ok (.getfield 40, 3) := by decide +kernel
theorem dX1_prepare_17 : decode cX1_prepare 17 = .ok (.iconst 1, 1) := by decide +kernel
theorem dX1_prepare_18 : decode cX1_prepare 18 = .ok (.invokevirtual 46, 3) := by decide +kernel
theorem dX1_prepare_21 : decode cX1_prepare 21 = .ok (.putfield 25, 3) := by decide +kernel
theorem dX1_prepare_24 : decode cX1_prepare 24 = .ok (.aload_n 0, 1) := by decide +kernel
theorem dX1_prepare_25 : decode cX1_prepare 25 = .ok (.getfield 15, 3) := by decide +kernel
theorem dX1_prepare_28 : decode cX1_prepare 28 = .ok (.iconst 0, 1) := by decide +kernel
theorem dX1_prepare_29 : decode cX1_prepare 29 = .ok (.invokestatic 51, 3) := by decide +kernel
theorem dX1_prepare_32 : decode cX1_prepare 32 = .ok (.iconst 0, 1) := by decide +kernel
theorem dX1_prepare_33 : decode cX1_prepare 33 = .ok (.istore_n 2, 1) := by decide +kernel
theorem dX1_prepare_34 : decode cX1_prepare 34 = .ok (.iload_n 2, 1) := by decide +kernel
theorem dX1_prepare_35 : decode cX1_prepare 35 = .ok (.aload_n 0, 1) := by decide +kernel
theorem dX1_prepare_36 : decode cX1_prepare 36 = .ok (.getfield 29, 3) := by decide +kernel
theorem dX1_prepare_39 : decode cX1_prepare 39 = .ok (.if_icmp .ge 94, 3) := by decide +kernel
theorem dX1_prepare_42 : decode cX1_prepare 42 = .ok (.aload_n 0, 1) := by decide +kernel
theorem dX1_prepare_43 : decode cX1_prepare 43 = .ok (.getfield 9, 3) := by decide +kernel
theorem dX1_prepare_46 : decode cX1_prepare 46 = .ok (.iload_n 2, 1) := by decide +kernel
theorem dX1_prepare_47 : decode cX1_prepare 47 = .ok (.aload_n 1, 1) := by decide +kernel
theorem dX1_prepare_48 : decode cX1_prepare 48 = .ok (.getfield 40, 3) := by decide +kernel
theorem dX1_prepare_51 : decode cX1_prepare 51 = .ok (.getfield 57, 3) := by decide +kernel
theorem dX1_prepare_54 : decode cX1_prepare 54 = .ok (.iload_n 2, 1) := by decide +kernel
theorem dX1_prepare_55 : decode cX1_prepare 55 = .ok (.aaload, 1) := by decide +kernel
theorem dX1_prepare_56 : decode cX1_prepare 56 = .ok (.getfield 61, 3) := by decide +kernel
theorem dX1_prepare_59 : decode cX1_prepare 59 = .ok (.iastore, 1) := by decide +kernel
theorem dX1_prepare_60 : decode cX1_prepare 60 = .ok (.aload_n 0, 1) := by decide +kernel
theorem dX1_prepare_61 : decode cX1_prepare 61 = .ok (.getfield 18, 3) := by decide +kernel
theorem dX1_prepare_64 : decode cX1_prepare 64 = .ok (.iload_n 2, 1) := by decide +kernel
theorem dX1_prepare_65 : decode cX1_prepare 65 = .ok (.aload_n 0, 1) := by decide +kernel
theorem dX1_prepare_66 : decode cX1_prepare 66 = .ok (.getfield 25, 3) := by decide +kernel
theorem dX1_prepare_69 : decode cX1_prepare 69 = .ok (.invokestatic 32, 3) := by decide +kernel
theorem dX1_prepare_72 : decode cX1_prepare 72 = .ok (.aload_n 1, 1) := by decide +kernel
theorem dX1_prepare_73 : decode cX1_prepare 73 = .ok (.getfield 65, 3) := by decide +kernel
theorem dX1_prepare_76 : decode cX1_prepare 76 = .ok (.iload_n 2, 1) := by decide +kernel
theorem dX1_prepare_77 : decode cX1_prepare 77 = .ok (.iaload, 1) := by decide +kernel
theorem dX1_prepare_78 : decode cX1_prepare 78 = .ok (.iconst (-1), 1) := by decide +kernel
theorem dX1_prepare_79 : decode cX1_prepare 79 = .ok (.ixor, 1) := by decide +kernel
theorem dX1_prepare_80 : decode cX1_prepare 80 = .ok (.iand, 1) := by decide +kernel
theorem dX1_prepare_81 : decode cX1_prepare 81 = .ok (.iastore, 1) := by decide +kernel
theorem dX1_prepare_82 : decode cX1_prepare 82 = .ok (.iconst 0, 1) := by decide +kernel
theorem dX1_prepare_83 : decode cX1_prepare 83 = .ok (.istore_n 3, 1) := by decide +kernel
theorem dX1_prepare_84 : decode cX1_prepare 84 = .ok (.iload_n 3, 1) := by decide +kernel
theorem dX1_prepare_85 : decode cX1_prepare 85 = .ok (.aload_n 0, 1) := by decide +kernel
theorem dX1_prepare_86 : decode cX1_prepare 86 = .ok (.getfield 25, 3) := by decide +kernel
theorem dX1_prepare_89 : decode cX1_prepare 89 = .ok (.if_icmp .ge 38, 3) := by decide +kernel
theorem dX1_prepare_92 : decode cX1_prepare 92 = .ok (.aload_n 0, 1) := by decide +kernel
theorem dX1_prepare_93 : decode cX1_prepare 93 = .ok (.getfield 15, 3) := by decide +kernel
theorem dX1_prepare_96 : decode cX1_prepare 96 = .ok (.iload_n 3, 1) := by decide +kernel
theorem dX1_prepare_97 : decode cX1_prepare 97 = .ok (.dup2, 1) := by decide +kernel
theorem dX1_prepare_98 : decode cX1_prepare 98 = .ok (.iaload, 1) := by decide +kernel
theorem dX1_prepare_99 : decode cX1_prepare 99 = .ok (.aload_n 0, 1) := by decide +kernel
theorem dX1_prepare_100 : decode cX1_prepare 100 = .ok (.getfield 18, 3) := by decide +kernel
theorem dX1_prepare_103 : decode cX1_prepare 103 = .ok (.iload_n 2, 1) := by decide +kernel
theorem dX1_prepare_104 : decode cX1_prepare 104 = .ok (.iaload, 1) := by decide +kernel
theorem dX1_prepare_105 : decode cX1_prepare 105 = .ok (.iload_n 3, 1) := by decide +kernel
theorem dX1_prepare_106 : decode cX1_prepare 106 = .ok (.invokestatic 68, 3) := by decide +kernel
theorem dX1_prepare_109 : decode cX1_prepare 109 = .ok (.ifCond .eq 9, 3) := by decide +kernel
theorem dX1_prepare_112 : decode cX1_prepare 112 = .ok (.iconst 1, 1) := by decide +kernel
theorem dX1_prepare_113 : decode cX1_prepare 113 = .ok (.iload_n 2, 1) := by decide +kernel
theorem dX1_prepare_114 : decode cX1_prepare 114 = .ok (.ishl, 1) := by decide +kernel
theorem dX1_prepare_115 : decode cX1_prepare 115 = .ok (.goto 4, 3) := by decide +kernel
theorem dX1_prepare_118 : decode cX1_prepare 118 = .ok (.iconst 0, 1) := by decide +kernel
theorem dX1_prepare_119 : decode cX1_prepare 119 = .ok (.ior, 1) := by decide +kernel
theorem dX1_prepare_120 : decode cX1_prepare 120 = .ok (.iastore, 1) := by decide +kernel
theorem dX1_prepare_121 : decode cX1_prepare 121 = .ok (.iinc 3 1, 3) := by decide +kernel
theorem dX1_prepare_124 : decode cX1_prepare 124 = .ok (.goto (-40), 3) := by decide +kernel
theorem dX1_prepare_127 : decode cX1_prepare 127 = .ok (.iinc 2 1, 3) := by decide +kernel
theorem dX1_prepare_130 : decode cX1_prepare 130 = .ok (.goto (-96), 3) := by decide +kernel
theorem dX1_prepare_133 : decode cX1_prepare 133 = .ok (.return_, 1) := by decide +kernel
theorem hd_X1_prepare : yX1_prepare.cls = RX1 ∧ yX1_prepare.cls ≠ "java/lang/invoke/MethodHandle" ∧ yX1_prepare.cls ≠ "java/lang/invoke/VarHandle" ∧ (parseMethodDescriptor yX1_prepare.desc).map (fun d => d.parameters.length) = some 1 := by decide +kernel
theorem hs_X1_prepare : yX1_prepare.cls ≠ "java/lang/invoke/MethodHandle" ∧ yX1_prepare.cls ≠ "java/lang/invoke/VarHandle" ∧ (parseMethodDescriptor yX1_prepare.desc).map (fun d => d.parameters.length) = some 1 := by decide +kernel
set_option maxHeartbeats 4000000 in
set_option maxRecDepth 100000 in
theorem l_X1_prepare_L84 (C : CX p l e s m args meth c cX1_prepare 4 RX1 (Option.none : Option Jvm.ClassFile.FieldType) E) {o : Nat} (ho : K o = some (0, 0)) {w' : Wd} (k : Option Nat → Int32 → Int32 → Wd → Option Wd) (hk : ∀ (v1_84 : Option Nat) (v2_84 : Int32) (v3_84 : Int32) (w : Wd) (H : Heap) (locs : List Loc) (ls : Array Slot), HQ E K z w s H locs → lv_has ls 4 [(1, rv E v1_84), (2, .int v2_84), (3, .int v3_84), (0, rv E (some o))] → k v1_84 v2_84 v3_84 w = some w' → W p l e ({ frames := 1, cells := 0, slots := 0, locals := 23 } : Room) s m args below meth c H locs 0 0 (MQ below (QV E K z w') args s 0 0 (hA E)) (F0 m 127 ls [])) : ∀ (n : Nat) (v1_84 : Option Nat) (v2_84 : Int32) (v3_84 : Int32) (w : Wd) (H : Heap) (locs : List Loc) (ls : Array Slot), HQ E K z w s H locs → lv_has ls 4 [(1, rv E v1_84), (2, .int v2_84), (3, .int v3_84), (0, rv E (some o))] → f_X1_prepare_L84 K o k n v1_84 v2_84 v3_84 w = some w' → W p l e ({ frames := 1, cells := 0, slots := 0, locals := 23 } : Room) s m args below meth c H locs 0 0 (MQ below (QV E K z w') args s 0 0 (hA E)) (F0 m 84 ls []) := by
  obtain ⟨hx, hb, hml, hown, hts, hKs, hT, hb0, hlocks, hret⟩ := id C
  intro n
  induction n with
  | zero =>
    intro v1_84 v2_84 v3_84 w H locs ls hH hl hf
    cases hf
  | succ n ih =>
    intro v1_84 v2_84 v3_84 w H locs ls hH hl hf
    rw [f_X1_prepare_L84] at hf
    refine lv_iload_n hx hb dX1_prepare_84 rfl (lv_at hl 2 rfl) ?_
    refine hl_aload_n hx hb dX1_prepare_85 rfl (lv_at hl 3 rfl) ?_
    refine g1_4 hx hb hts hown hKs hH rfl ho m2_207 dX1_prepare_86 ?_
    refine lv_icmp_ge (tgt := 127) hx hb dX1_prepare_89 (by decide) (fun c26 => ?_) (fun c26 => ?_)
    · replace hf := (if_pos c26).symm.trans hf
      exact hk v1_84 v2_84 v3_84 _ _ _ _ hH (lv_sub hl [0, 1, 2, 3] rfl) hf
    · replace hf := (if_neg c26).symm.trans hf
      refine hl_aload_n hx hb dX1_prepare_92 rfl (lv_at hl 3 rfl) ?_
      refine g1_1 hx hb hts hown hKs hH rfl ho m2_204 dX1_prepare_93 ?_
      refine lv_iload_n hx hb dX1_prepare_96 rfl (lv_at hl 2 rfl) ?_
      refine lv_dup2_11 hx hb dX1_prepare_97 rfl rv_cat ?_
      obtain ⟨a27, ha27, hf⟩ := bnd hf
      replace ha27 := cha_some ha27
      obtain ⟨j28, hj28, hf⟩ := bnd hf
      refine hw_iald hx hb hKs hH ha27.1 ha27.2 hj28 dX1_prepare_98 ?_
      refine hl_aload_n hx hb dX1_prepare_99 rfl (lv_at hl 3 rfl) ?_
      refine g1_2 hx hb hts hown hKs hH rfl ho m2_205 dX1_prepare_100 ?_
      refine lv_iload_n hx hb dX1_prepare_103 rfl (lv_at hl 1 rfl) ?_
      obtain ⟨a29, ha29, hf⟩ := bnd hf
      replace ha29 := cha_some ha29
      obtain ⟨j30, hj30, hf⟩ := bnd hf
      refine hw_iald hx hb hKs hH ha29.1 ha29.2 hj30 dX1_prepare_104 ?_
      refine lv_iload_n hx hb dX1_prepare_105 rfl (lv_at hl 2 rfl) ?_
      obtain ⟨q31, hq31, hf⟩ := bnd hf
      refine hcM_i hx hb hml hown hts hKs hT hb0 hH (As := [.int ((aI w a29.1 j30)), .int v3_84]) (rest := [.int ((aI w a27.1 j28)), .int v3_84, rv E (wR w 101 o)]) (k_X12_has l E K H.size (aI w a29.1 j30) v3_84 w hq31) m4_40 m3_194 m1_1 m3_195 hs_X12_has ⟨Nat.le_of_ble_eq_true rfl, Nat.le_of_ble_eq_true rfl, rfl, rfl⟩ hl.1 rfl (rcI (rcI (rcV rc0))) rfl dX1_prepare_106 ⟨Nat.zero_le _, Nat.zero_le _⟩ (fun H locs hH => ?_)
      refine lv_if_eq (tgt := 118) hx hb dX1_prepare_109 (by decide) (fun c32 => ?_) (fun c32 => ?_)
      · replace hf := (if_pos c32).symm.trans hf
        refine lv_iconst (v := 0) hx hb dX1_prepare_118 (by decide) ?_
        refine lv_ior hx hb dX1_prepare_119 ?_
        obtain ⟨j33, hj33, hf⟩ := bnd hf
        obtain ⟨w34, hw34, hf⟩ := bnd hf
        replace hw34 := Option.some.inj hw34
        refine hw_iast (x := ((aI w a27.1 j28) ||| 0)) hx hb hKs hH ha27.1 ha27.2 hj33 dX1_prepare_120 (fun H locs hH => ?_)
        rw [hw34] at hH
        refine lv_iinc (v := (v3_84 + 1)) (lv' := [(3, .int ((v3_84 + 1))), (1, rv E v1_84), (2, .int v2_84), (0, rv E (some o))]) hx hb dX1_prepare_121 hl (k := 2) rfl rfl (by decide) rfl (fun ls hl => ?_)
        refine lv_goto (tgt := 84) hx hb dX1_prepare_124 (by decide) ?_
        exact ih v1_84 v2_84 (v3_84 + 1) _ _ _ _ hH (lv_sub hl [1, 2, 0, 3] rfl) hf
      · replace hf := (if_neg c32).symm.trans hf
        refine lv_iconst (v := 1) hx hb dX1_prepare_112 (by decide) ?_
        refine lv_iload_n hx hb dX1_prepare_113 rfl (lv_at hl 1 rfl) ?_
        refine lv_ishl hx hb dX1_prepare_114 ?_
        refine lv_goto (tgt := 119) hx hb dX1_prepare_115 (by decide) ?_
        refine lv_ior hx hb dX1_prepare_119 ?_
        obtain ⟨j35, hj35, hf⟩ := bnd hf
        obtain ⟨w36, hw36, hf⟩ := bnd hf
        replace hw36 := Option.some.inj hw36
        refine hw_iast (x := ((aI w a27.1 j28) ||| (1 <<< (v2_84 &&& 31)))) hx hb hKs hH ha27.1 ha27.2 hj35 dX1_prepare_120 (fun H locs hH => ?_)
        rw [hw36] at hH
        refine lv_iinc (v := (v3_84 + 1)) (lv' := [(3, .int ((v3_84 + 1))), (1, rv E v1_84), (2, .int v2_84), (0, rv E (some o))]) hx hb dX1_prepare_121 hl (k := 2) rfl rfl (by decide) rfl (fun ls hl => ?_)
        refine lv_goto (tgt := 84) hx hb dX1_prepare_124 (by decide) ?_
        exact ih v1_84 v2_84 (v3_84 + 1) _ _ _ _ hH (lv_sub hl [1, 2, 0, 3] rfl) hf
set_option maxHeartbeats 4000000 in
set_option maxRecDepth 100000 in
theorem l_X1_prepare_L34 (C : CX p l e s m args meth c cX1_prepare 4 RX1 (Option.none : Option Jvm.ClassFile.FieldType) E) {o : Nat} (ho : K o = some (0, 0)) {w' : Wd} (k : Option Nat → Int32 → Wd → Option Wd) (hk : ∀ (v1_34 : Option Nat) (v2_34 : Int32) (w : Wd) (H : Heap) (locs : List Loc) (ls : Array Slot), HQ E K z w s H locs → lv_has ls 4 [(1, rv E v1_34), (2, .int v2_34), (0, rv E (some o))] → k v1_34 v2_34 w = some w' → W p l e ({ frames := 1, cells := 0, slots := 0, locals := 23 } : Room) s m args below meth c H locs 0 0 (MQ below (QV E K z w') args s 0 0 (hA E)) (F0 m 133 ls [])) : ∀ (n : Nat) (v1_34 : Option Nat) (v2_34 : Int32) (w : Wd) (H : Heap) (locs : List Loc) (ls : Array Slot), HQ E K z w s H locs → lv_has ls 4 [(1, rv E v1_34), (2, .int v2_34), (0, rv E (some o))] → f_X1_prepare_L34 K o k n v1_34 v2_34 w = some w' → W p l e ({ frames := 1, cells := 0, slots := 0, locals := 23 } : Room) s m args below meth c H locs 0 0 (MQ below (QV E K z w') args s 0 0 (hA E)) (F0 m 34 ls []) := by
  obtain ⟨hx, hb, hml, hown, hts, hKs, hT, hb0, hlocks, hret⟩ := id C
  intro n
  induction n with
  | zero =>
    intro v1_34 v2_34 w H locs ls hH hl hf
    cases hf
  | succ n ih =>
    intro v1_34 v2_34 w H locs ls hH hl hf
    rw [f_X1_prepare_L34] at hf
    refine lv_iload_n hx hb dX1_prepare_34 rfl (lv_at hl 1 rfl) ?_
    refine hl_aload_n hx hb dX1_prepare_35 rfl (lv_at hl 2 rfl) ?_
    refine g1_3 hx hb hts hown hKs hH rfl ho m2_206 dX1_prepare_36 ?_
    refine lv_icmp_ge (tgt := 133) hx hb dX1_prepare_39 (by decide) (fun c10 => ?_) (fun c10 => ?_)
    · replace hf := (if_pos c10).symm.trans hf
      exact hk v1_34 v2_34 _ _ _ _ hH (lv_sub hl [0, 1, 2] rfl) hf
    · replace hf := (if_neg c10).symm.trans hf
      refine hl_aload_n hx hb dX1_prepare_42 rfl (lv_at hl 2 rfl) ?_
      refine g1_0 hx hb hts hown hKs hH rfl ho m2_203 dX1_prepare_43 ?_
      refine lv_iload_n hx hb dX1_prepare_46 rfl (lv_at hl 1 rfl) ?_
      refine hl_aload_n hx hb dX1_prepare_47 rfl (lv_at hl 0 rfl) ?_
      obtain ⟨a11, ha11, hf⟩ := bnd hf
      replace ha11 := chk_some ha11
      refine gn10_0 hx hb hts hown hKs hH ha11.1 ha11.2 m2_121 dX1_prepare_48 ?_
      obtain ⟨a12, ha12, hf⟩ := bnd hf
      replace ha12 := chk_some ha12
      refine gn9_9 hx hb hts hown hKs hH ha12.1 ha12.2 m1_178 dX1_prepare_51 ?_
      refine lv_iload_n hx hb dX1_prepare_54 rfl (lv_at hl 1 rfl) ?_
      obtain ⟨a13, ha13, hf⟩ := bnd hf
      replace ha13 := cha_some ha13
      obtain ⟨j14, hj14, hf⟩ := bnd hf
      refine hw_aald25 hx hb hKs hH ha13.1 ha13.2 hj14 dX1_prepare_55 ?_
      obtain ⟨a15, ha15, hf⟩ := bnd hf
      replace ha15 := chk_some ha15
      refine gn3_5 hx hb hts hown hKs hH ha15.1 ha15.2 m1_111 dX1_prepare_56 ?_
      obtain ⟨a16, ha16, hf⟩ := bnd hf
      replace ha16 := cha_some ha16
      obtain ⟨j17, hj17, hf⟩ := bnd hf
      obtain ⟨w18, hw18, hf⟩ := bnd hf
      replace hw18 := Option.some.inj hw18
      refine hw_iast (x := (wI w 305 a15)) hx hb hKs hH ha16.1 ha16.2 hj17 dX1_prepare_59 (fun H locs hH => ?_)
      rw [hw18] at hH
      refine hl_aload_n hx hb dX1_prepare_60 rfl (lv_at hl 2 rfl) ?_
      refine g1_2 hx hb hts hown hKs hH rfl ho m2_205 dX1_prepare_61 ?_
      refine lv_iload_n hx hb dX1_prepare_64 rfl (lv_at hl 1 rfl) ?_
      refine hl_aload_n hx hb dX1_prepare_65 rfl (lv_at hl 2 rfl) ?_
      refine g1_4 hx hb hts hown hKs hH rfl ho m2_207 dX1_prepare_66 ?_
      obtain ⟨q19, hq19, hf⟩ := bnd hf
      refine hcM_i hx hb hml hown hts hKs hT hb0 hH (As := [.int ((wI w18 104 o))]) (rest := [.int v2_34, rv E (wR w18 102 o)]) (k_X12_allOf l E K H.size (wI w18 104 o) w18 hq19) m4_37 m4_38 m1_1 m4_39 hs_X12_allOf ⟨Nat.le_of_ble_eq_true rfl, Nat.le_of_ble_eq_true rfl, rfl, rfl⟩ hl.1 rfl (rcI (rcV rc0)) rfl dX1_prepare_69 ⟨Nat.zero_le _, Nat.zero_le _⟩ (fun H locs hH => ?_)
      refine hl_aload_n hx hb dX1_prepare_72 rfl (lv_at hl 0 rfl) ?_
      refine gn10_4 hx hb hts hown hKs hH ha11.1 ha11.2 m2_131 dX1_prepare_73 ?_
      refine lv_iload_n hx hb dX1_prepare_76 rfl (lv_at hl 1 rfl) ?_
      obtain ⟨a20, ha20, hf⟩ := bnd hf
      replace ha20 := cha_some ha20
      obtain ⟨j21, hj21, hf⟩ := bnd hf
      refine hw_iald hx hb hKs hH ha20.1 ha20.2 hj21 dX1_prepare_77 ?_
      refine lv_iconst (v := (-1)) hx hb dX1_prepare_78 (by decide) ?_
      refine lv_ixor hx hb dX1_prepare_79 ?_
      refine lv_iand hx hb dX1_prepare_80 ?_
      obtain ⟨a22, ha22, hf⟩ := bnd hf
      replace ha22 := cha_some ha22
      obtain ⟨j23, hj23, hf⟩ := bnd hf
      obtain ⟨w24, hw24, hf⟩ := bnd hf
      replace hw24 := Option.some.inj hw24
      refine hw_iast (x := (q19.1 &&& ((aI q19.2 a20.1 j21) ^^^ (-1)))) hx hb hKs hH ha22.1 ha22.2 hj23 dX1_prepare_81 (fun H locs hH => ?_)
      rw [hw24] at hH
      refine lv_iconst (v := 0) hx hb dX1_prepare_82 (by decide) ?_
      refine lv_istore_n (lv' := [(3, .int 0), (1, rv E v1_34), (2, .int v2_34), (0, rv E (some o))]) hx hb dX1_prepare_83 rfl hl (by decide) rfl (fun ls hl => ?_)
      refine l_X1_prepare_L84  C ho _ (fun v1_84 v2_84 v3_84 w25 H locs ls hH hl hf => ?_) fu v1_34 v2_34 0 w24 _ _ _ hH (lv_sub hl [1, 2, 0, 3] rfl) hf
      refine lv_iinc (v := (v2_84 + 1)) (lv' := [(2, .int ((v2_84 + 1))), (1, rv E v1_84), (3, .int v3_84), (0, rv E (some o))]) hx hb dX1_prepare_127 hl (k := 1) rfl rfl (by decide) (by simp [List.filter_cons, cat_q, cat_i, cat_j]) (fun ls hl => ?_)
      refine lv_goto (tgt := 34) hx hb dX1_prepare_130 (by decide) ?_
      exact ih v1_84 (v2_84 + 1) _ _ _ _ hH (lv_sub hl [1, 0, 3] rfl) hf
set_option maxHeartbeats 4000000 in
set_option maxRecDepth 100000 in
theorem k_X1_prepare (l : Launch) (E : Ev) (K : Kd) (z : Nat) (o : Nat) (a_1 : Option Nat) (w : Wd) (ho : K o = some (0, 0)) {w' : Wd} (hf : f_X1_prepare K o a_1 w = some w') : Met l yX1_prepare (Cond.code yX1_prepare cX1_prepare 4 (Option.none : Option Jvm.ClassFile.FieldType) :: bt) ({ frames := 1, cells := 0, slots := 0, locals := 23 } : Room) (va_Pc [rv E (some o), rv E a_1] (HB E K w z)) (QV E K z w') 0 0 (hA E) := by
  refine Met.ofW (cc := cX1_prepare) (maxL := 4) (ret := (Option.none : Option Jvm.ClassFile.FieldType)) (by decide) rfl ?_
  intro p e s m args below meth c s₁ B hml hv
  obtain ⟨rfl, hz, hP, hKs, hT, hb0⟩ := hv
  have C : CX p l e s m _ meth c cX1_prepare 4 RX1 (Option.none : Option Jvm.ClassFile.FieldType) E := ⟨B.exec, B.bytes, hml, findClass_of_methodNamed B.named, fun w h => atoms_spec (ws := Cond.code yX1_prepare cX1_prepare 4 (Option.none : Option Jvm.ClassFile.FieldType) :: bt) B.pre w (List.mem_cons_of_mem _ h), hKs, hT, by rw [hz]; exact hb0, B.notSynchronized, B.returns⟩
  have hH : HQ E K z w s s.heap [] := ⟨hP, va_S.rf, hz⟩
  obtain ⟨hx, hb, hml, hown, hts, hKs, hT, hb0, hlocks, hret⟩ := id C
  have hl := lv_entry [rv E (some o), rv E a_1] (n := 4) (by simp [lg_len_nil, lg_len_i, lg_len_j, lg_len_q, lg_len_f, lg_len_d, lg_len_r])
  rw [lg_entry_eq]
  generalize (lg_sl [rv E (some o), rv E a_1] ++ List.replicate (4 - (lg_sl [rv E (some o), rv E a_1]).length) Slot.unset).toArray = ls at hl ⊢
  replace hl : lv_has ls 4 [(0, rv E (some o)), (1, rv E a_1)] := by simpa only [lv_args, cat_q, cat_i, cat_j, reduceIte, Nat.reduceEqDiff, Nat.reduceAdd, Nat.zero_add] using hl
  generalize s.heap = H at hH ⊢
  unfold f_X1_prepare at hf
  refine hl_aload_n hx hb dX1_prepare_0 rfl (lv_at hl 0 rfl) ?_
  refine hl_aload_n hx hb dX1_prepare_1 rfl (lv_at hl 1 rfl) ?_
  obtain ⟨a1, ha1, hf⟩ := bnd hf
  replace ha1 := chk_some ha1
  refine gn10_0 hx hb hts hown hKs hH ha1.1 ha1.2 m2_121 dX1_prepare_2 ?_
  refine lv_iconst (v := 3) hx hb dX1_prepare_5 (by decide) ?_
  obtain ⟨a2, ha2, hf⟩ := bnd hf
  replace ha2 := chk_some ha2
  obtain ⟨q3, hq3, hf⟩ := bnd hf
  refine hcV_i hx hb hml hown hts hKs hT hb0 hH (As := [.int 3]) (rest := [rv E (some o)]) (k_X9_size l E K H.size a2 3 w ha2.2 hq3) (gV m4_35 m3_151 m3_152 m1_2 m3_153) hd_X9_size ⟨Nat.le_of_ble_eq_true rfl, Nat.le_of_ble_eq_true rfl, rfl, rfl⟩ ha2.1 ha2.2 rfl rfl rfl hl.1 rfl (rcV rc0) rfl dX1_prepare_6 ⟨Nat.zero_le _, Nat.zero_le _⟩ (fun H locs hH => ?_)
  obtain ⟨w4, hw4, hf⟩ := bnd hf
  replace hw4 := Option.some.inj hw4
  refine p1_3 (v := q3.1) hx hb hts hown hKs hH rfl ho m2_206 dX1_prepare_9 (fun H locs hH => ?_)
  rw [hw4] at hH
  refine hl_aload_n hx hb dX1_prepare_12 rfl (lv_at hl 0 rfl) ?_
  refine hl_aload_n hx hb dX1_prepare_13 rfl (lv_at hl 1 rfl) ?_
  refine gn10_0 hx hb hts hown hKs hH ha1.1 ha1.2 m2_121 dX1_prepare_14 ?_
  refine lv_iconst (v := 1) hx hb dX1_prepare_17 (by decide) ?_
  obtain ⟨a5, ha5, hf⟩ := bnd hf
  replace ha5 := chk_some ha5
  obtain ⟨q6, hq6, hf⟩ := bnd hf
  refine hcV_i hx hb hml hown hts hKs hT hb0 hH (As := [.int 1]) (rest := [rv E (some o)]) (k_X9_size l E K H.size a5 1 w4 ha5.2 hq6) (gV m4_35 m3_151 m3_152 m1_2 m3_153) hd_X9_size ⟨Nat.le_of_ble_eq_true rfl, Nat.le_of_ble_eq_true rfl, rfl, rfl⟩ ha5.1 ha5.2 rfl rfl rfl hl.1 rfl (rcV rc0) rfl dX1_prepare_18 ⟨Nat.zero_le _, Nat.zero_le _⟩ (fun H locs hH => ?_)
  obtain ⟨w7, hw7, hf⟩ := bnd hf
  replace hw7 := Option.some.inj hw7
  refine p1_4 (v := q6.1) hx hb hts hown hKs hH rfl ho m2_207 dX1_prepare_21 (fun H locs hH => ?_)
  rw [hw7] at hH
  refine hl_aload_n hx hb dX1_prepare_24 rfl (lv_at hl 0 rfl) ?_
  refine g1_1 hx hb hts hown hKs hH rfl ho m2_204 dX1_prepare_25 ?_
  refine lv_iconst (v := 0) hx hb dX1_prepare_28 (by decide) ?_
  obtain ⟨q8, hq8, hf⟩ := bnd hf
  refine hcS_v hx hb hml hown hts hKs hT hb0 hH (As := [rv E (wR w7 101 o), .int 0]) (rest := []) (k_J7_fill_53178 l E K H.size (wR w7 101 o) 0 w7 hq8) (gS m4_36 m1_143 m1_7 m1_144) hs_J7_fill_53178 ⟨Nat.le_of_ble_eq_true rfl, Nat.le_of_ble_eq_true rfl, rfl, rfl⟩ hl.1 rfl rc0 rfl dX1_prepare_29 ⟨Nat.zero_le _, Nat.zero_le _⟩ (fun H locs hH => ?_)
  refine lv_iconst (v := 0) hx hb dX1_prepare_32 (by decide) ?_
  refine lv_istore_n (lv' := [(2, .int 0), (0, rv E (some o)), (1, rv E a_1)]) hx hb dX1_prepare_33 rfl hl (by decide) (by simp [List.filter_cons, cat_q, cat_i, cat_j]) (fun ls hl => ?_)
  refine l_X1_prepare_L34  C ho _ (fun v1_34 v2_34 w9 H locs ls hH hl hf => ?_) fu a_1 0 q8 _ _ _ hH (lv_sub hl [2, 0, 1] rfl) hf
  exact hw_vret hx hb hret hf hH hlocks dX1_prepare_133

theorem dX1_hardest_0 : decode cX1_hardest 0 = .ok (.iconst 0, 1) := by decide +kernel
theorem dX1_hardest_1 : decode cX1_hardest 1 = .ok (.istore 4, 2) := by decide +kernel
theorem dX1_hardest_3 : decode cX1_hardest 3 = .ok (.bipush 96, 2) := by decide +kernel
theorem dX1_hardest_5 : decode cX1_hardest 5 = .ok (.istore 5, 2) := by decide +kernel
theorem dX1_hardest_7 : decode cX1_hardest 7 = .ok (.iconst 0, 1) := by decide +kernel
theorem dX1_hardest_8 : decode cX1_hardest 8 = .ok (.istore 6, 2) := by decide +kernel
theorem dX1_hardest_10 : decode cX1_hardest 10 = .ok (.iload 6, 2) := by decide +kernel
theorem dX1_hardest_12 : decode cX1_hardest 12 = .ok (.aload_n 0, 1) := by decide +kernel
theorem dX1_hardest_13 : decode cX1_hardest 13 = .ok (.getfield 29, 3) := by decide +kernel
theorem dX1_hardest_16 : decode cX1_hardest 16 = .ok (.if_icmp .ge 74, 3) := by decide +kernel
theorem dX1_hardest_19 : decode cX1_hardest 19 = .ok (.iload_n 2, 1) := by decide +kernel
theorem dX1_hardest_20 : decode cX1_hardest 20 = .ok (.iload 6, 2) := by decide +kernel
theorem dX1_hardest_22 : decode cX1_hardest 22 = .ok (.invokestatic 68, 3) := by decide +kernel
theorem dX1_hardest_25 : decode cX1_hardest 25 = .ok (.ifCond .eq 59, 3) := by decide +kernel
theorem dX1_hardest_28 : decode cX1_hardest 28 = .ok (.aload_n 0, 1) := by decide +kernel
theorem dX1_hardest_29 : decode cX1_hardest 29 = .ok (.getfield 18, 3) := by decide +kernel
theorem dX1_hardest_32 : decode cX1_hardest 32 = .ok (.iload_n 1, 1) := by decide +kernel
theorem dX1_hardest_33 : decode cX1_hardest 33 = .ok (.bipush 12, 2) := by decide +kernel
theorem dX1_hardest_35 : decode cX1_hardest 35 = .ok (.imul, 1) := by decide +kernel
theorem dX1_hardest_36 : decode cX1_hardest 36 = .ok (.iload 6, 2) := by decide +kernel
theorem dX1_hardest_38 : decode cX1_hardest 38 = .ok (.iadd, 1) := by decide +kernel
theorem dX1_hardest_39 : decode cX1_hardest 39 = .ok (.iaload, 1) := by decide +kernel
theorem dX1_hardest_40 : decode cX1_hardest 40 = .ok (.iload_n 3, 1) := by decide +kernel
theorem dX1_hardest_41 : decode cX1_hardest 41 = .ok (.iand, 1) := by decide +kernel
theorem dX1_hardest_42 : decode cX1_hardest 42 = .ok (.invokestatic 72, 3) := by decide +kernel
theorem dX1_hardest_45 : decode cX1_hardest 45 = .ok (.istore 7, 2) := by decide +kernel
theorem dX1_hardest_47 : decode cX1_hardest 47 = .ok (.iload 7, 2) := by decide +kernel
theorem dX1_hardest_49 : decode cX1_hardest 49 = .ok (.iconst 1, 1) := by decide +kernel
theorem dX1_hardest_50 : decode cX1_hardest 50 = .ok (.iadd, 1) := by decide +kernel
theorem dX1_hardest_51 : decode cX1_hardest 51 = .ok (.bipush 12, 2) := by decide +kernel
theorem dX1_hardest_53 : decode cX1_hardest 53 = .ok (.imul, 1) := by decide +kernel
theorem dX1_hardest_54 : decode cX1_hardest 54 = .ok (.aload_n 0, 1) := by decide +kernel
theorem dX1_hardest_55 : decode cX1_hardest 55 = .ok (.getfield 9, 3) := by decide +kernel
theorem dX1_hardest_58 : decode cX1_hardest 58 = .ok (.iload 6, 2) := by decide +kernel
theorem dX1_hardest_60 : decode cX1_hardest 60 = .ok (.iaload, 1) := by decide +kernel
theorem dX1_hardest_61 : decode cX1_hardest 61 = .ok (.iload_n 2, 1) := by decide +kernel
theorem dX1_hardest_62 : decode cX1_hardest 62 = .ok (.iand, 1) := by decide +kernel
theorem dX1_hardest_63 : decode cX1_hardest 63 = .ok (.invokestatic 72, 3) := by decide +kernel
theorem dX1_hardest_66 : decode cX1_hardest 66 = .ok (.isub, 1) := by decide +kernel
theorem dX1_hardest_67 : decode cX1_hardest 67 = .ok (.istore 8, 2) := by decide +kernel
theorem dX1_hardest_69 : decode cX1_hardest 69 = .ok (.iload 8, 2) := by decide +kernel
theorem dX1_hardest_71 : decode cX1_hardest 71 = .ok (.iload 5, 2) := by decide +kernel
theorem dX1_hardest_73 : decode cX1_hardest 73 = .ok (.if_icmp .ge 11, 3) := by decide +kernel
theorem dX1_hardest_76 : decode cX1_hardest 76 = .ok (.iload 6, 2) := by decide +kernel
theorem dX1_hardest_78 : decode cX1_hardest 78 = .ok (.istore 4, 2) := by decide +kernel
theorem dX1_hardest_80 : decode cX1_hardest 80 = .ok (.iload 8, 2) := by decide +kernel
theorem dX1_hardest_82 : decode cX1_hardest 82 = .ok (.istore 5, 2) := by decide +kernel
theorem dX1_hardest_84 : decode cX1_hardest 84 = .ok (.iinc 6 1, 3) := by decide +kernel
theorem dX1_hardest_87 : decode cX1_hardest 87 = .ok (.goto (-77), 3) := by decide +kernel
theorem dX1_hardest_90 : decode cX1_hardest 90 = .ok (.iload 4, 2) := by decide +kernel
theorem dX1_hardest_92 : decode cX1_hardest 92 = .ok (.ireturn, 1) := by decide +kernel
theorem hd_X1_hardest : yX1_hardest.cls = RX1 ∧ yX1_hardest.cls ≠ "java/lang/invoke/MethodHandle" ∧ yX1_hardest.cls ≠ "java/lang/invoke/VarHandle" ∧ (parseMethodDescriptor yX1_hardest.desc).map (fun d => d.parameters.length) = some 3 := by decide +kernel
theorem hs_X1_hardest : yX1_hardest.cls ≠ "java/lang/invoke/MethodHandle" ∧ yX1_hardest.cls ≠ "java/lang/invoke/VarHandle" ∧ (parseMethodDescriptor yX1_hardest.desc).map (fun d => d.parameters.length) = some 3 := by decide +kernel
set_option maxHeartbeats 4000000 in
set_option maxRecDepth 100000 in
theorem l_X1_hardest_L10 (C : CX p l e s m args meth c cX1_hardest 9 RX1 (Option.some Jvm.ClassFile.FieldType.int) E) {o : Nat} (ho : K o = some (0, 0)) {r : Int32} {w' : Wd} (k : Int32 → Int32 → Int32 → Int32 → Int32 → Int32 → Wd → Option (Int32 × Wd)) (hk : ∀ (v1_10 : Int32) (v2_10 : Int32) (v3_10 : Int32) (v4_10 : Int32) (v5_10 : Int32) (v6_10 : Int32) (w : Wd) (H : Heap) (locs : List Loc) (ls : Array Slot), HQ E K z w s H locs → lv_has ls 9 [(1, .int v1_10), (2, .int v2_10), (3, .int v3_10), (4, .int v4_10), (5, .int v5_10), (6, .int v6_10), (0, rv E (some o))] → k v1_10 v2_10 v3_10 v4_10 v5_10 v6_10 w = some (r, w') → W p l e ({ frames := 1, cells := 0, slots := 0, locals := 21 } : Room) s m args below meth c H locs 0 0 (MQ below (QI E K z w' r) args s 0 0 (hA E)) (F0 m 90 ls [])) : ∀ (n : Nat) (v1_10 : Int32) (v2_10 : Int32) (v3_10 : Int32) (v4_10 : Int32) (v5_10 : Int32) (v6_10 : Int32) (w : Wd) (H : Heap) (locs : List Loc) (ls : Array Slot), HQ E K z w s H locs → lv_has ls 9 [(1, .int v1_10), (2, .int v2_10), (3, .int v3_10), (4, .int v4_10), (5, .int v5_10), (6, .int v6_10), (0, rv E (some o))] → f_X1_hardest_L10 K o k n v1_10 v2_10 v3_10 v4_10 v5_10 v6_10 w = some (r, w') → W p l e ({ frames := 1, cells := 0, slots := 0, locals := 21 } : Room) s m args below meth c H locs 0 0 (MQ below (QI E K z w' r) args s 0 0 (hA E)) (F0 m 10 ls []) := by
  obtain ⟨hx, hb, hml, hown, hts, hKs, hT, hb0, hlocks, hret⟩ := id C
  intro n
  induction n with
  | zero =>
    intro v1_10 v2_10 v3_10 v4_10 v5_10 v6_10 w H locs ls hH hl hf
    cases hf
  | succ n ih =>
    intro v1_10 v2_10 v3_10 v4_10 v5_10 v6_10 w H locs ls hH hl hf
    rw [f_X1_hardest_L10] at hf
    refine lv_iload hx hb dX1_hardest_10 (lv_at hl 5 rfl) ?_
    refine hl_aload_n hx hb dX1_hardest_12 rfl (lv_at hl 6 rfl) ?_
    refine g1_3 hx hb hts hown hKs hH rfl ho m2_206 dX1_hardest_13 ?_
    refine lv_icmp_ge (tgt := 90) hx hb dX1_hardest_16 (by decide) (fun c2 => ?_) (fun c2 => ?_)
    · replace hf := (if_pos c2).symm.trans hf
      exact hk v1_10 v2_10 v3_10 v4_10 v5_10 v6_10 _ _ _ _ hH (lv_sub hl [0, 1, 2, 3, 4, 5, 6] rfl) hf
    · replace hf := (if_neg c2).symm.trans hf
      refine lv_iload_n hx hb dX1_hardest_19 rfl (lv_at hl 1 rfl) ?_
      refine lv_iload hx hb dX1_hardest_20 (lv_at hl 5 rfl) ?_
      obtain ⟨q3, hq3, hf⟩ := bnd hf
      refine hcM_i hx hb hml hown hts hKs hT hb0 hH (As := [.int v2_10, .int v6_10]) (rest := []) (k_X12_has l E K H.size v2_10 v6_10 w hq3) m4_40 m3_194 m1_1 m3_195 hs_X12_has ⟨Nat.le_of_ble_eq_true rfl, Nat.le_of_ble_eq_true rfl, rfl, rfl⟩ hl.1 rfl rc0 rfl dX1_hardest_22 ⟨Nat.zero_le _, Nat.zero_le _⟩ (fun H locs hH => ?_)
      refine lv_if_eq (tgt := 84) hx hb dX1_hardest_25 (by decide) (fun c4 => ?_) (fun c4 => ?_)
      · replace hf := (if_pos c4).symm.trans hf
        refine lv_iinc (v := (v6_10 + 1)) (lv' := [(6, .int ((v6_10 + 1))), (1, .int v1_10), (2, .int v2_10), (3, .int v3_10), (4, .int v4_10), (5, .int v5_10), (0, rv E (some o))]) hx hb dX1_hardest_84 hl (k := 5) rfl rfl (by decide) rfl (fun ls hl => ?_)
        refine lv_goto (tgt := 10) hx hb dX1_hardest_87 (by decide) ?_
        exact ih v1_10 v2_10 v3_10 v4_10 v5_10 (v6_10 + 1) _ _ _ _ hH (lv_sub hl [1, 2, 3, 4, 5, 0, 6] rfl) hf
      · replace hf := (if_neg c4).symm.trans hf
        refine hl_aload_n hx hb dX1_hardest_28 rfl (lv_at hl 6 rfl) ?_
        refine g1_2 hx hb hts hown hKs hH rfl ho m2_205 dX1_hardest_29 ?_
        refine lv_iload_n hx hb dX1_hardest_32 rfl (lv_at hl 0 rfl) ?_
        refine lv_bipush (v := 12) hx hb dX1_hardest_33 (by decide) ?_
        refine lv_imul hx hb dX1_hardest_35 ?_
        refine lv_iload hx hb dX1_hardest_36 (lv_at hl 5 rfl) ?_
        refine lv_iadd hx hb dX1_hardest_38 ?_
        obtain ⟨a5, ha5, hf⟩ := bnd hf
        replace ha5 := cha_some ha5
        obtain ⟨j6, hj6, hf⟩ := bnd hf
        refine hw_iald hx hb hKs hH ha5.1 ha5.2 hj6 dX1_hardest_39 ?_
        refine lv_iload_n hx hb dX1_hardest_40 rfl (lv_at hl 2 rfl) ?_
        refine lv_iand hx hb dX1_hardest_41 ?_
        obtain ⟨q7, hq7, hf⟩ := bnd hf
        refine hcS_i hx hb hml hown hts hKs hT hb0 hH (As := [.int (((aI q3.2 a5.1 j6) &&& v3_10))]) (rest := []) (k_J6_bitCount_0f7a4 l E K H.size ((aI q3.2 a5.1 j6) &&& v3_10) q3.2 hq7) (gS m4_45 m4_8 m1_23 m4_9) hs_J6_bitCount_0f7a4 ⟨Nat.le_of_ble_eq_true rfl, Nat.le_of_ble_eq_true rfl, rfl, rfl⟩ hl.1 rfl rc0 rfl dX1_hardest_42 ⟨Nat.zero_le _, Nat.zero_le _⟩ (fun H locs hH => ?_)
        refine lv_istore (lv' := [(7, .int (q7.1)), (1, .int v1_10), (2, .int v2_10), (3, .int v3_10), (4, .int v4_10), (5, .int v5_10), (6, .int v6_10), (0, rv E (some o))]) hx hb dX1_hardest_45 hl (by decide) rfl (fun ls hl => ?_)
        refine lv_iload hx hb dX1_hardest_47 (lv_at hl 0 rfl) ?_
        refine lv_iconst (v := 1) hx hb dX1_hardest_49 (by decide) ?_
        refine lv_iadd hx hb dX1_hardest_50 ?_
        refine lv_bipush (v := 12) hx hb dX1_hardest_51 (by decide) ?_
        refine lv_imul hx hb dX1_hardest_53 ?_
        refine hl_aload_n hx hb dX1_hardest_54 rfl (lv_at hl 7 rfl) ?_
        refine g1_0 hx hb hts hown hKs hH rfl ho m2_203 dX1_hardest_55 ?_
        refine lv_iload hx hb dX1_hardest_58 (lv_at hl 6 rfl) ?_
        obtain ⟨a8, ha8, hf⟩ := bnd hf
        replace ha8 := cha_some ha8
        obtain ⟨j9, hj9, hf⟩ := bnd hf
        refine hw_iald hx hb hKs hH ha8.1 ha8.2 hj9 dX1_hardest_60 ?_
        refine lv_iload_n hx hb dX1_hardest_61 rfl (lv_at hl 2 rfl) ?_
        refine lv_iand hx hb dX1_hardest_62 ?_
        obtain ⟨q10, hq10, hf⟩ := bnd hf
        refine hcS_i hx hb hml hown hts hKs hT hb0 hH (As := [.int (((aI q7.2 a8.1 j9) &&& v2_10))]) (rest := [.int (((q7.1 + 1) * 12))]) (k_J6_bitCount_0f7a4 l E K H.size ((aI q7.2 a8.1 j9) &&& v2_10) q7.2 hq10) (gS m4_45 m4_8 m1_23 m4_9) hs_J6_bitCount_0f7a4 ⟨Nat.le_of_ble_eq_true rfl, Nat.le_of_ble_eq_true rfl, rfl, rfl⟩ hl.1 rfl (rcI rc0) rfl dX1_hardest_63 ⟨Nat.zero_le _, Nat.zero_le _⟩ (fun H locs hH => ?_)
        refine lv_isub hx hb dX1_hardest_66 ?_
        refine lv_istore (lv' := [(8, .int ((((q7.1 + 1) * 12) - q10.1))), (7, .int (q7.1)), (1, .int v1_10), (2, .int v2_10), (3, .int v3_10), (4, .int v4_10), (5, .int v5_10), (6, .int v6_10), (0, rv E (some o))]) hx hb dX1_hardest_67 hl (by decide) rfl (fun ls hl => ?_)
        refine lv_iload hx hb dX1_hardest_69 (lv_at hl 0 rfl) ?_
        refine lv_iload hx hb dX1_hardest_71 (lv_at hl 6 rfl) ?_
        refine lv_icmp_ge (tgt := 84) hx hb dX1_hardest_73 (by decide) (fun c11 => ?_) (fun c11 => ?_)
        · replace hf := (if_pos c11).symm.trans hf
          refine lv_iinc (v := (v6_10 + 1)) (lv' := [(6, .int ((v6_10 + 1))), (8, .int ((((q7.1 + 1) * 12) - q10.1))), (7, .int (q7.1)), (1, .int v1_10), (2, .int v2_10), (3, .int v3_10), (4, .int v4_10), (5, .int v5_10), (0, rv E (some o))]) hx hb dX1_hardest_84 hl (k := 7) rfl rfl (by decide) rfl (fun ls hl => ?_)
          refine lv_goto (tgt := 10) hx hb dX1_hardest_87 (by decide) ?_
          exact ih v1_10 v2_10 v3_10 v4_10 v5_10 (v6_10 + 1) _ _ _ _ hH (lv_sub hl [3, 4, 5, 6, 7, 0, 8] rfl) hf
        · replace hf := (if_neg c11).symm.trans hf
          refine lv_iload hx hb dX1_hardest_76 (lv_at hl 7 rfl) ?_
          refine lv_istore (lv' := [(4, .int v6_10), (8, .int ((((q7.1 + 1) * 12) - q10.1))), (7, .int (q7.1)), (1, .int v1_10), (2, .int v2_10), (3, .int v3_10), (5, .int v5_10), (6, .int v6_10), (0, rv E (some o))]) hx hb dX1_hardest_78 hl (by decide) rfl (fun ls hl => ?_)
          refine lv_iload hx hb dX1_hardest_80 (lv_at hl 1 rfl) ?_
          refine lv_istore (lv' := [(5, .int ((((q7.1 + 1) * 12) - q10.1))), (4, .int v6_10), (8, .int ((((q7.1 + 1) * 12) - q10.1))), (7, .int (q7.1)), (1, .int v1_10), (2, .int v2_10), (3, .int v3_10), (6, .int v6_10), (0, rv E (some o))]) hx hb dX1_hardest_82 hl (by decide) rfl (fun ls hl => ?_)
          refine lv_iinc (v := (v6_10 + 1)) (lv' := [(6, .int ((v6_10 + 1))), (5, .int ((((q7.1 + 1) * 12) - q10.1))), (4, .int v6_10), (8, .int ((((q7.1 + 1) * 12) - q10.1))), (7, .int (q7.1)), (1, .int v1_10), (2, .int v2_10), (3, .int v3_10), (0, rv E (some o))]) hx hb dX1_hardest_84 hl (k := 7) rfl rfl (by decide) rfl (fun ls hl => ?_)
          refine lv_goto (tgt := 10) hx hb dX1_hardest_87 (by decide) ?_
          exact ih v1_10 v2_10 v3_10 v6_10 (((q7.1 + 1) * 12) - q10.1) (v6_10 + 1) _ _ _ _ hH (lv_sub hl [5, 6, 7, 2, 1, 0, 8] rfl) hf
set_option maxHeartbeats 4000000 in
set_option maxRecDepth 100000 in
theorem k_X1_hardest (l : Launch) (E : Ev) (K : Kd) (z : Nat) (o : Nat) (a_1 : Int32) (a_2 : Int32) (a_3 : Int32) (w : Wd) (ho : K o = some (0, 0)) {r : Int32} {w' : Wd} (hf : f_X1_hardest K o a_1 a_2 a_3 w = some (r, w')) : Met l yX1_hardest (Cond.code yX1_hardest cX1_hardest 9 (Option.some Jvm.ClassFile.FieldType.int) :: bt) ({ frames := 1, cells := 0, slots := 0, locals := 21 } : Room) (va_Pc [rv E (some o), .int a_1, .int a_2, .int a_3] (HB E K w z)) (QI E K z w' r) 0 0 (hA E) := by
  refine Met.ofW (cc := cX1_hardest) (maxL := 9) (ret := (Option.some Jvm.ClassFile.FieldType.int)) (by decide) rfl ?_
  intro p e s m args below meth c s₁ B hml hv
  obtain ⟨rfl, hz, hP, hKs, hT, hb0⟩ := hv
  have C : CX p l e s m _ meth c cX1_hardest 9 RX1 (Option.some Jvm.ClassFile.FieldType.int) E := ⟨B.exec, B.bytes, hml, findClass_of_methodNamed B.named, fun w h => atoms_spec (ws := Cond.code yX1_hardest cX1_hardest 9 (Option.some Jvm.ClassFile.FieldType.int) :: bt) B.pre w (List.mem_cons_of_mem _ h), hKs, hT, by rw [hz]; exact hb0, B.notSynchronized, B.returns⟩
  have hH : HQ E K z w s s.heap [] := ⟨hP, va_S.rf, hz⟩
  obtain ⟨hx, hb, hml, hown, hts, hKs, hT, hb0, hlocks, hret⟩ := id C
  have hl := lv_entry [rv E (some o), .int a_1, .int a_2, .int a_3] (n := 9) (by simp [lg_len_nil, lg_len_i, lg_len_j, lg_len_q, lg_len_f, lg_len_d, lg_len_r])
  rw [lg_entry_eq]
  generalize (lg_sl [rv E (some o), .int a_1, .int a_2, .int a_3] ++ List.replicate (9 - (lg_sl [rv E (some o), .int a_1, .int a_2, .int a_3]).length) Slot.unset).toArray = ls at hl ⊢
  replace hl : lv_has ls 9 [(0, rv E (some o)), (1, .int a_1), (2, .int a_2), (3, .int a_3)] := by simpa only [lv_args, cat_q, cat_i, cat_j, reduceIte, Nat.reduceEqDiff, Nat.reduceAdd, Nat.zero_add] using hl
  generalize s.heap = H at hH ⊢
  unfold f_X1_hardest at hf
  refine lv_iconst (v := 0) hx hb dX1_hardest_0 (by decide) ?_
  refine lv_istore (lv' := [(4, .int 0), (0, rv E (some o)), (1, .int a_1), (2, .int a_2), (3, .int a_3)]) hx hb dX1_hardest_1 hl (by decide) rfl (fun ls hl => ?_)
  refine lv_bipush (v := 96) hx hb dX1_hardest_3 (by decide) ?_
  refine lv_istore (lv' := [(5, .int 96), (4, .int 0), (0, rv E (some o)), (1, .int a_1), (2, .int a_2), (3, .int a_3)]) hx hb dX1_hardest_5 hl (by decide) rfl (fun ls hl => ?_)
  refine lv_iconst (v := 0) hx hb dX1_hardest_7 (by decide) ?_
  refine lv_istore (lv' := [(6, .int 0), (5, .int 96), (4, .int 0), (0, rv E (some o)), (1, .int a_1), (2, .int a_2), (3, .int a_3)]) hx hb dX1_hardest_8 hl (by decide) rfl (fun ls hl => ?_)
  refine l_X1_hardest_L10  C ho _ (fun v1_10 v2_10 v3_10 v4_10 v5_10 v6_10 w1 H locs ls hH hl hf => ?_) fu a_1 a_2 a_3 0 96 0 w _ _ _ hH (lv_sub hl [4, 5, 6, 2, 1, 0, 3] rfl) hf
  refine lv_iload hx hb dX1_hardest_90 (lv_at hl 3 rfl) ?_
  exact hw_iret hx hb hret hf hH hlocks dX1_hardest_92

theorem dX2_clear_0 : decode cX2_clear 0 = .ok (.aload_n 0, 1) := by decide +kernel
theorem dX2_clear_1 : decode cX2_clear 1 = .ok (.getfield 9, 3) := by decide +kernel
theorem dX2_clear_4 : decode cX2_clear 4 = .ok (.iconst 0, 1) := by decide +kernel
theorem dX2_clear_5 : decode cX2_clear 5 = .ok (.invokestatic 23, 3) := by decide +kernel
theorem dX2_clear_8 : decode cX2_clear 8 = .ok (.aload_n 0, 1) := by decide +kernel
theorem dX2_clear_9 : decode cX2_clear 9 = .ok (.iconst 0, 1) := by decide +kernel
theorem dX2_clear_10 : decode cX2_clear 10 = .ok (.putfield 19, 3) := by decide +kernel
theorem dX2_clear_13 : decode cX2_clear 13 = .ok (.return_, 1) := by decide +kernel
theorem hd_X2_clear : yX2_clear.cls = RX2 ∧ yX2_clear.cls ≠ "java/lang/invoke/MethodHandle" ∧ yX2_clear.cls ≠ "java/lang/invoke/VarHandle" ∧ (parseMethodDescriptor yX2_clear.desc).map (fun d => d.parameters.length) = some 0 := by decide +kernel
theorem hs_X2_clear : yX2_clear.cls ≠ "java/lang/invoke/MethodHandle" ∧ yX2_clear.cls ≠ "java/lang/invoke/VarHandle" ∧ (parseMethodDescriptor yX2_clear.desc).map (fun d => d.parameters.length) = some 0 := by decide +kernel
set_option maxHeartbeats 4000000 in
set_option maxRecDepth 100000 in
theorem k_X2_clear (l : Launch) (E : Ev) (K : Kd) (z : Nat) (o : Nat) (w : Wd) (ho : K o = some (1, 0)) {w' : Wd} (hf : f_X2_clear K o w = some w') : Met l yX2_clear (Cond.code yX2_clear cX2_clear 1 (Option.none : Option Jvm.ClassFile.FieldType) :: bt) ({ frames := 1, cells := 0, slots := 0, locals := 23 } : Room) (va_Pc [rv E (some o)] (HB E K w z)) (QV E K z w') 0 0 (hA E) := by
  refine Met.ofW (cc := cX2_clear) (maxL := 1) (ret := (Option.none : Option Jvm.ClassFile.FieldType)) (by decide) rfl ?_
  intro p e s m args below meth c s₁ B hml hv
  obtain ⟨rfl, hz, hP, hKs, hT, hb0⟩ := hv
  have C : CX p l e s m _ meth c cX2_clear 1 RX2 (Option.none : Option Jvm.ClassFile.FieldType) E := ⟨B.exec, B.bytes, hml, findClass_of_methodNamed B.named, fun w h => atoms_spec (ws := Cond.code yX2_clear cX2_clear 1 (Option.none : Option Jvm.ClassFile.FieldType) :: bt) B.pre w (List.mem_cons_of_mem _ h), hKs, hT, by rw [hz]; exact hb0, B.notSynchronized, B.returns⟩
  have hH : HQ E K z w s s.heap [] := ⟨hP, va_S.rf, hz⟩
  obtain ⟨hx, hb, hml, hown, hts, hKs, hT, hb0, hlocks, hret⟩ := id C
  have hl := lv_entry [rv E (some o)] (n := 1) (by simp [lg_len_nil, lg_len_i, lg_len_j, lg_len_q, lg_len_f, lg_len_d, lg_len_r])
  rw [lg_entry_eq]
  generalize (lg_sl [rv E (some o)] ++ List.replicate (1 - (lg_sl [rv E (some o)]).length) Slot.unset).toArray = ls at hl ⊢
  replace hl : lv_has ls 1 [(0, rv E (some o))] := by simpa only [lv_args, cat_q, cat_i, cat_j, reduceIte, Nat.reduceEqDiff, Nat.reduceAdd, Nat.zero_add] using hl
  generalize s.heap = H at hH ⊢
  unfold f_X2_clear at hf
  refine hl_aload_n hx hb dX2_clear_0 rfl (lv_at hl 0 rfl) ?_
  refine g2_0 hx hb hts hown hKs hH rfl ho m1_55 dX2_clear_1 ?_
  refine lv_iconst (v := 0) hx hb dX2_clear_4 (by decide) ?_
  obtain ⟨q1, hq1, hf⟩ := bnd hf
  refine hcS_v hx hb hml hown hts hKs hT hb0 hH (As := [rv E (wR w 200 o), .int 0]) (rest := []) (k_J7_fill_53178 l E K H.size (wR w 200 o) 0 w hq1) (gS m1_149 m1_143 m1_7 m1_144) hs_J7_fill_53178 ⟨Nat.le_of_ble_eq_true rfl, Nat.le_of_ble_eq_true rfl, rfl, rfl⟩ hl.1 rfl rc0 rfl dX2_clear_5 ⟨Nat.zero_le _, Nat.zero_le _⟩ (fun H locs hH => ?_)
  refine hl_aload_n hx hb dX2_clear_8 rfl (lv_at hl 0 rfl) ?_
  refine lv_iconst (v := 0) hx hb dX2_clear_9 (by decide) ?_
  obtain ⟨w2, hw2, hf⟩ := bnd hf
  replace hw2 := Option.some.inj hw2
  refine p2_1 (v := 0) hx hb hts hown hKs hH rfl ho m1_56 dX2_clear_10 (fun H locs hH => ?_)
  rw [hw2] at hH
  exact hw_vret hx hb hret hf hH hlocks dX2_clear_13

theorem dX6_setFound_0 : decode cX6_setFound 0 = .ok (.aload_n 1, 1) := by decide +kernel
theorem dX6_setFound_1 : decode cX6_setFound 1 = .ok (.getfield 98, 3) := by decide +kernel
theorem dX6_setFound_4 : decode cX6_setFound 4 = .ok (.iload_n 2, 1) := by decide +kernel
theorem dX6_setFound_5 : decode cX6_setFound 5 = .ok (.aaload, 1) := by decide +kernel
theorem dX6_setFound_6 : decode cX6_setFound 6 = .ok (.aload_n 0, 1) := by decide +kernel
theorem dX6_setFound_7 : decode cX6_setFound 7 = .ok (.getfield 102, 3) := by decide +kernel
theorem dX6_setFound_10 : decode cX6_setFound 10 = .ok (.aload_n 0, 1) := by decide +kernel
theorem dX6_setFound_11 : decode cX6_setFound 11 = .ok (.getfield 103, 3) := by decide +kernel
theorem dX6_setFound_14 : decode cX6_setFound 14 = .ok (.aload_n 0, 1) := by decide +kernel
theorem dX6_setFound_15 : decode cX6_setFound 15 = .ok (.getfield 106, 3) := by decide +kernel
theorem dX6_setFound_18 : decode cX6_setFound 18 = .ok (.aload_n 0, 1) := by decide +kernel
theorem dX6_setFound_19 : decode cX6_setFound 19 = .ok (.getfield 109, 3) := by decide +kernel
theorem dX6_setFound_22 : decode cX6_setFound 22 = .ok (.invokevirtual 112, 3) := by decide +kernel
theorem dX6_setFound_25 : decode cX6_setFound 25 = .ok (.return_, 1) := by decide +kernel
theorem hd_X6_setFound : yX6_setFound.cls = RX6 ∧ yX6_setFound.cls ≠ "java/lang/invoke/MethodHandle" ∧ yX6_setFound.cls ≠ "java/lang/invoke/VarHandle" ∧ (parseMethodDescriptor yX6_setFound.desc).map (fun d => d.parameters.length) = some 2 := by decide +kernel
theorem hs_X6_setFound : yX6_setFound.cls ≠ "java/lang/invoke/MethodHandle" ∧ yX6_setFound.cls ≠ "java/lang/invoke/VarHandle" ∧ (parseMethodDescriptor yX6_setFound.desc).map (fun d => d.parameters.length) = some 2 := by decide +kernel
set_option maxHeartbeats 4000000 in
set_option maxRecDepth 100000 in
theorem k_X6_setFound (l : Launch) (E : Ev) (K : Kd) (z : Nat) (o : Nat) (a_1 : Option Nat) (a_2 : Int32) (w : Wd) (ho : K o = some (5, 0)) {w' : Wd} (hf : f_X6_setFound K o a_1 a_2 w = some w') : Met l yX6_setFound (Cond.code yX6_setFound cX6_setFound 3 (Option.none : Option Jvm.ClassFile.FieldType) :: bt) ({ frames := 1, cells := 0, slots := 0, locals := 24 } : Room) (va_Pc [rv E (some o), rv E a_1, .int a_2] (HB E K w z)) (QV E K z w') 0 0 (hA E) := by
  refine Met.ofW (cc := cX6_setFound) (maxL := 3) (ret := (Option.none : Option Jvm.ClassFile.FieldType)) (by decide) rfl ?_
  intro p e s m args below meth c s₁ B hml hv
  obtain ⟨rfl, hz, hP, hKs, hT, hb0⟩ := hv
  have C : CX p l e s m _ meth c cX6_setFound 3 RX6 (Option.none : Option Jvm.ClassFile.FieldType) E := ⟨B.exec, B.bytes, hml, findClass_of_methodNamed B.named, fun w h => atoms_spec (ws := Cond.code yX6_setFound cX6_setFound 3 (Option.none : Option Jvm.ClassFile.FieldType) :: bt) B.pre w (List.mem_cons_of_mem _ h), hKs, hT, by rw [hz]; exact hb0, B.notSynchronized, B.returns⟩
  have hH : HQ E K z w s s.heap [] := ⟨hP, va_S.rf, hz⟩
  obtain ⟨hx, hb, hml, hown, hts, hKs, hT, hb0, hlocks, hret⟩ := id C
  have hl := lv_entry [rv E (some o), rv E a_1, .int a_2] (n := 3) (by simp [lg_len_nil, lg_len_i, lg_len_j, lg_len_q, lg_len_f, lg_len_d, lg_len_r])
  rw [lg_entry_eq]
  generalize (lg_sl [rv E (some o), rv E a_1, .int a_2] ++ List.replicate (3 - (lg_sl [rv E (some o), rv E a_1, .int a_2]).length) Slot.unset).toArray = ls at hl ⊢
  replace hl : lv_has ls 3 [(0, rv E (some o)), (1, rv E a_1), (2, .int a_2)] := by simpa only [lv_args, cat_q, cat_i, cat_j, reduceIte, Nat.reduceEqDiff, Nat.reduceAdd, Nat.zero_add] using hl
  generalize s.heap = H at hH ⊢
  unfold f_X6_setFound at hf
  refine hl_aload_n hx hb dX6_setFound_0 rfl (lv_at hl 1 rfl) ?_
  obtain ⟨a1, ha1, hf⟩ := bnd hf
  replace ha1 := chk_some ha1
  refine gn10_5 hx hb hts hown hKs hH ha1.1 ha1.2 m2_134 dX6_setFound_1 ?_
  refine lv_iload_n hx hb dX6_setFound_4 rfl (lv_at hl 2 rfl) ?_
  obtain ⟨a2, ha2, hf⟩ := bnd hf
  replace ha2 := cha_some ha2
  obtain ⟨j3, hj3, hf⟩ := bnd hf
  refine hw_aald27 hx hb hKs hH ha2.1 ha2.2 hj3 dX6_setFound_5 ?_
  refine hl_aload_n hx hb dX6_setFound_6 rfl (lv_at hl 0 rfl) ?_
  refine g6_8 hx hb hts hown hKs hH rfl ho m2_164 dX6_setFound_7 ?_
  refine hl_aload_n hx hb dX6_setFound_10 rfl (lv_at hl 0 rfl) ?_
  refine g6_9 hx hb hts hown hKs hH rfl ho m2_166 dX6_setFound_11 ?_
  refine hl_aload_n hx hb dX6_setFound_14 rfl (lv_at hl 0 rfl) ?_
  refine g6_10 hx hb hts hown hKs hH rfl ho m2_168 dX6_setFound_15 ?_
  refine hl_aload_n hx hb dX6_setFound_18 rfl (lv_at hl 0 rfl) ?_
  refine g6_11 hx hb hts hown hKs hH rfl ho m2_170 dX6_setFound_19 ?_
  obtain ⟨a4, ha4, hf⟩ := bnd hf
  replace ha4 := chk_some ha4
  obtain ⟨q5, hq5, hf⟩ := bnd hf
  refine hcV_v hx hb hml hown hts hKs hT hb0 hH (As := [.int ((wI w 608 o)), .int ((wI w 609 o)), .int ((wI w 610 o)), .int ((wI w 611 o))]) (rest := []) (k_X7_setHearing l E K H.size a4 (wI w 608 o) (wI w 609 o) (wI w 610 o) (wI w 611 o) w ha4.2 hq5) (gV m4_186 m4_187 m4_188 m1_13 m4_189) hd_X7_setHearing ⟨Nat.le_of_ble_eq_true rfl, Nat.le_of_ble_eq_true rfl, rfl, rfl⟩ ha4.1 ha4.2 rfl rfl rfl hl.1 rfl rc0 rfl dX6_setFound_22 ⟨Nat.zero_le _, Nat.zero_le _⟩ (fun H locs hH => ?_)
  exact hw_vret hx hb hret hf hH hlocks dX6_setFound_25

theorem dX6_firstDay_0 : decode cX6_firstDay 0 = .ok (.aload_n 0, 1) := by decide +kernel
theorem dX6_firstDay_1 : decode cX6_firstDay 1 = .ok (.getfield 36, 3) := by decide +kernel
theorem dX6_firstDay_4 : decode cX6_firstDay 4 = .ok (.aload_n 0, 1) := by decide +kernel
theorem dX6_firstDay_5 : decode cX6_firstDay 5 = .ok (.getfield 24, 3) := by decide +kernel
theorem dX6_firstDay_8 : decode cX6_firstDay 8 = .ok (.getfield 30, 3) := by decide +kernel
theorem dX6_firstDay_11 : decode cX6_firstDay 11 = .ok (.iload_n 1, 1) := by decide +kernel
theorem dX6_firstDay_12 : decode cX6_firstDay 12 = .ok (.aaload, 1) := by decide +kernel
theorem dX6_firstDay_13 : decode cX6_firstDay 13 = .ok (.getfield 40, 3) := by decide +kernel
theorem dX6_firstDay_16 : decode cX6_firstDay 16 = .ok (.invokestatic 129, 3) := by decide +kernel
theorem dX6_firstDay_19 : decode cX6_firstDay 19 = .ok (.ireturn, 1) := by decide +kernel
theorem hs_X6_firstDay : yX6_firstDay.cls ≠ "java/lang/invoke/MethodHandle" ∧ yX6_firstDay.cls ≠ "java/lang/invoke/VarHandle" ∧ (parseMethodDescriptor yX6_firstDay.desc).map (fun d => d.parameters.length) = some 2 := by decide +kernel
set_option maxHeartbeats 4000000 in
set_option maxRecDepth 100000 in
theorem k_X6_firstDay (l : Launch) (E : Ev) (K : Kd) (z : Nat) (a_0 : Option Nat) (a_1 : Int32) (w : Wd) {r : Int32} {w' : Wd} (hf : f_X6_firstDay K a_0 a_1 w = some (r, w')) : Met l yX6_firstDay (Cond.code yX6_firstDay cX6_firstDay 2 (Option.some Jvm.ClassFile.FieldType.int) :: bt) ({ frames := 1, cells := 0, slots := 0, locals := 21 } : Room) (va_Pc [rv E a_0, .int a_1] (HB E K w z)) (QI E K z w' r) 0 0 (hA E) := by
  refine Met.ofW (cc := cX6_firstDay) (maxL := 2) (ret := (Option.some Jvm.ClassFile.FieldType.int)) (by decide) rfl ?_
  intro p e s m args below meth c s₁ B hml hv
  obtain ⟨rfl, hz, hP, hKs, hT, hb0⟩ := hv
  have C : CX p l e s m _ meth c cX6_firstDay 2 RX6 (Option.some Jvm.ClassFile.FieldType.int) E := ⟨B.exec, B.bytes, hml, findClass_of_methodNamed B.named, fun w h => atoms_spec (ws := Cond.code yX6_firstDay cX6_firstDay 2 (Option.some Jvm.ClassFile.FieldType.int) :: bt) B.pre w (List.mem_cons_of_mem _ h), hKs, hT, by rw [hz]; exact hb0, B.notSynchronized, B.returns⟩
  have hH : HQ E K z w s s.heap [] := ⟨hP, va_S.rf, hz⟩
  obtain ⟨hx, hb, hml, hown, hts, hKs, hT, hb0, hlocks, hret⟩ := id C
  have hl := lv_entry [rv E a_0, .int a_1] (n := 2) (by simp [lg_len_nil, lg_len_i, lg_len_j, lg_len_q, lg_len_f, lg_len_d, lg_len_r])
  rw [lg_entry_eq]
  generalize (lg_sl [rv E a_0, .int a_1] ++ List.replicate (2 - (lg_sl [rv E a_0, .int a_1]).length) Slot.unset).toArray = ls at hl ⊢
  replace hl : lv_has ls 2 [(0, rv E a_0), (1, .int a_1)] := by simpa only [lv_args, cat_q, cat_i, cat_j, reduceIte, Nat.reduceEqDiff, Nat.reduceAdd, Nat.zero_add] using hl
  generalize s.heap = H at hH ⊢
  unfold f_X6_firstDay at hf
  refine hl_aload_n hx hb dX6_firstDay_0 rfl (lv_at hl 0 rfl) ?_
  obtain ⟨a1, ha1, hf⟩ := bnd hf
  replace ha1 := chk_some ha1
  refine gn10_1 hx hb hts hown hKs hH ha1.1 ha1.2 m2_124 dX6_firstDay_1 ?_
  refine hl_aload_n hx hb dX6_firstDay_4 rfl (lv_at hl 0 rfl) ?_
  refine gn10_0 hx hb hts hown hKs hH ha1.1 ha1.2 m2_120 dX6_firstDay_5 ?_
  obtain ⟨a2, ha2, hf⟩ := bnd hf
  replace ha2 := chk_some ha2
  refine gn9_9 hx hb hts hown hKs hH ha2.1 ha2.2 m1_176 dX6_firstDay_8 ?_
  refine lv_iload_n hx hb dX6_firstDay_11 rfl (lv_at hl 1 rfl) ?_
  obtain ⟨a3, ha3, hf⟩ := bnd hf
  replace ha3 := cha_some ha3
  obtain ⟨j4, hj4, hf⟩ := bnd hf
  refine hw_aald25 hx hb hKs hH ha3.1 ha3.2 hj4 dX6_firstDay_12 ?_
  obtain ⟨a5, ha5, hf⟩ := bnd hf
  replace ha5 := chk_some ha5
  refine gn3_0 hx hb hts hown hKs hH ha5.1 ha5.2 m1_88 dX6_firstDay_13 ?_
  obtain ⟨q6, hq6, hf⟩ := bnd hf
  refine hcS_i hx hb hml hown hts hKs hT hb0 hH (As := [.int ((wI w 1001 a1)), .int ((wI w 300 a5))]) (rest := []) (k_J9_max_7cf53 l E K H.size (wI w 1001 a1) (wI w 300 a5) w hq6) (gS m4_137 m1_71 m1_5 m1_72) hs_J9_max_7cf53 ⟨Nat.le_of_ble_eq_true rfl, Nat.le_of_ble_eq_true rfl, rfl, rfl⟩ hl.1 rfl rc0 rfl dX6_firstDay_16 ⟨Nat.zero_le _, Nat.zero_le _⟩ (fun H locs hH => ?_)
  exact hw_iret hx hb hret hf hH hlocks dX6_firstDay_19

theorem dX6_lastDay_0 : decode cX6_lastDay 0 = .ok (.aload_n 0, 1) := by decide +kernel
theorem dX6_lastDay_1 : decode cX6_lastDay 1 = .ok (.iload_n 1, 1) := by decide +kernel
theorem dX6_lastDay_2 : decode cX6_lastDay 2 = .ok (.invokevirtual 49, 3) := by decide +kernel
theorem dX6_lastDay_5 : decode cX6_lastDay 5 = .ok (.sipush 599, 3) := by decide +kernel
theorem dX6_lastDay_8 : decode cX6_lastDay 8 = .ok (.invokestatic 134, 3) := by decide +kernel
theorem dX6_lastDay_11 : decode cX6_lastDay 11 = .ok (.ireturn, 1) := by decide +kernel
theorem hs_X6_lastDay : yX6_lastDay.cls ≠ "java/lang/invoke/MethodHandle" ∧ yX6_lastDay.cls ≠ "java/lang/invoke/VarHandle" ∧ (parseMethodDescriptor yX6_lastDay.desc).map (fun d => d.parameters.length) = some 2 := by decide +kernel
set_option maxHeartbeats 4000000 in
set_option maxRecDepth 100000 in
theorem k_X6_lastDay (l : Launch) (E : Ev) (K : Kd) (z : Nat) (a_0 : Option Nat) (a_1 : Int32) (w : Wd) {r : Int32} {w' : Wd} (hf : f_X6_lastDay K a_0 a_1 w = some (r, w')) : Met l yX6_lastDay (Cond.code yX6_lastDay cX6_lastDay 2 (Option.some Jvm.ClassFile.FieldType.int) :: bt) ({ frames := 3, cells := 0, slots := 0, locals := 66 } : Room) (va_Pc [rv E a_0, .int a_1] (HB E K w z)) (QI E K z w' r) 0 0 (hA E) := by
  refine Met.ofW (cc := cX6_lastDay) (maxL := 2) (ret := (Option.some Jvm.ClassFile.FieldType.int)) (by decide) rfl ?_
  intro p e s m args below meth c s₁ B hml hv
  obtain ⟨rfl, hz, hP, hKs, hT, hb0⟩ := hv
  have C : CX p l e s m _ meth c cX6_lastDay 2 RX6 (Option.some Jvm.ClassFile.FieldType.int) E := ⟨B.exec, B.bytes, hml, findClass_of_methodNamed B.named, fun w h => atoms_spec (ws := Cond.code yX6_lastDay cX6_lastDay 2 (Option.some Jvm.ClassFile.FieldType.int) :: bt) B.pre w (List.mem_cons_of_mem _ h), hKs, hT, by rw [hz]; exact hb0, B.notSynchronized, B.returns⟩
  have hH : HQ E K z w s s.heap [] := ⟨hP, va_S.rf, hz⟩
  obtain ⟨hx, hb, hml, hown, hts, hKs, hT, hb0, hlocks, hret⟩ := id C
  have hl := lv_entry [rv E a_0, .int a_1] (n := 2) (by simp [lg_len_nil, lg_len_i, lg_len_j, lg_len_q, lg_len_f, lg_len_d, lg_len_r])
  rw [lg_entry_eq]
  generalize (lg_sl [rv E a_0, .int a_1] ++ List.replicate (2 - (lg_sl [rv E a_0, .int a_1]).length) Slot.unset).toArray = ls at hl ⊢
  replace hl : lv_has ls 2 [(0, rv E a_0), (1, .int a_1)] := by simpa only [lv_args, cat_q, cat_i, cat_j, reduceIte, Nat.reduceEqDiff, Nat.reduceAdd, Nat.zero_add] using hl
  generalize s.heap = H at hH ⊢
  unfold f_X6_lastDay at hf
  refine hl_aload_n hx hb dX6_lastDay_0 rfl (lv_at hl 0 rfl) ?_
  refine lv_iload_n hx hb dX6_lastDay_1 rfl (lv_at hl 1 rfl) ?_
  obtain ⟨a1, ha1, hf⟩ := bnd hf
  replace ha1 := chk_some ha1
  obtain ⟨q2, hq2, hf⟩ := bnd hf
  refine hcV_i hx hb hml hown hts hKs hT hb0 hH (As := [.int a_1]) (rest := []) (k_X10_limitDay l E K H.size a1 a_1 w ha1.2 hq2) (gV m4_132 m4_67 m4_68 m1_12 m4_69) hd_X10_limitDay ⟨Nat.le_of_ble_eq_true rfl, Nat.le_of_ble_eq_true rfl, rfl, rfl⟩ ha1.1 ha1.2 rfl rfl rfl hl.1 rfl rc0 rfl dX6_lastDay_2 ⟨Nat.zero_le _, Nat.zero_le _⟩ (fun H locs hH => ?_)
  refine lv_sipush (v := 599) hx hb dX6_lastDay_5 (by decide) ?_
  obtain ⟨q3, hq3, hf⟩ := bnd hf
  refine hcS_i hx hb hml hown hts hKs hT hb0 hH (As := [.int (q2.1), .int 599]) (rest := []) (k_J9_min_7cf53 l E K H.size q2.1 599 q2.2 hq3) (gS m4_133 m3_54 m1_5 m3_55) hs_J9_min_7cf53 ⟨Nat.le_of_ble_eq_true rfl, Nat.le_of_ble_eq_true rfl, rfl, rfl⟩ hl.1 rfl rc0 rfl dX6_lastDay_8 ⟨Nat.zero_le _, Nat.zero_le _⟩ (fun H locs hH => ?_)
  exact hw_iret hx hb hret hf hH hlocks dX6_lastDay_11

theorem dX6_findIn_0 : decode cX6_findIn 0 = .ok (.aload_n 0, 1) := by decide +kernel
theorem dX6_findIn_1 : decode cX6_findIn 1 = .ok (.aload_n 1, 1) := by decide +kernel
theorem dX6_findIn_2 : decode cX6_findIn 2 = .ok (.iconst 1, 1) := by decide +kernel
theorem dX6_findIn_3 : decode cX6_findIn 3 = .ok (.invokevirtual 141, 3) := by decide +kernel
theorem dX6_findIn_6 : decode cX6_findIn 6 = .ok (.iload_n 2, 1) := by decide +kernel
theorem dX6_findIn_7 : decode cX6_findIn 7 = .ok (.invokevirtual 144, 3) := by decide +kernel
theorem dX6_findIn_10 : decode cX6_findIn 10 = .ok (.istore_n 3, 1) := by decide +kernel
theorem dX6_findIn_11 : decode cX6_findIn 11 = .ok (.iconst 0, 1) := by decide +kernel
theorem dX6_findIn_12 : decode cX6_findIn 12 = .ok (.istore 4, 2) := by decide +kernel
theorem dX6_findIn_14 : decode cX6_findIn 14 = .ok (.iload 4, 2) := by decide +kernel
theorem dX6_findIn_16 : decode cX6_findIn 16 = .ok (.aload_n 1, 1) := by decide +kernel
theorem dX6_findIn_17 : decode cX6_findIn 17 = .ok (.iconst 0, 1) := by decide +kernel
theorem dX6_findIn_18 : decode cX6_findIn 18 = .ok (.invokevirtual 141, 3) := by decide +kernel
theorem dX6_findIn_21 : decode cX6_findIn 21 = .ok (.if_icmp .ge 49, 3) := by decide +kernel
theorem dX6_findIn_24 : decode cX6_findIn 24 = .ok (.iload_n 3, 1) := by decide +kernel
theorem dX6_findIn_25 : decode cX6_findIn 25 = .ok (.iconst (-1), 1) := by decide +kernel
theorem dX6_findIn_26 : decode cX6_findIn 26 = .ok (.if_icmp .eq 44, 3) := by decide +kernel
theorem dX6_findIn_29 : decode cX6_findIn 29 = .ok (.iload_n 2, 1) := by decide +kernel
theorem dX6_findIn_30 : decode cX6_findIn 30 = .ok (.aload_n 0, 1) := by decide +kernel
theorem dX6_findIn_31 : decode cX6_findIn 31 = .ok (.getfield 9, 3) := by decide +kernel
theorem dX6_findIn_34 : decode cX6_findIn 34 = .ok (.iload 4, 2) := by decide +kernel
theorem dX6_findIn_36 : decode cX6_findIn 36 = .ok (.iaload, 1) := by decide +kernel
theorem dX6_findIn_37 : decode cX6_findIn 37 = .ok (.aload_n 1, 1) := by decide +kernel
theorem dX6_findIn_38 : decode cX6_findIn 38 = .ok (.getfield 68, 3) := by decide +kernel
theorem dX6_findIn_41 : decode cX6_findIn 41 = .ok (.iload 4, 2) := by decide +kernel
theorem dX6_findIn_43 : decode cX6_findIn 43 = .ok (.iaload, 1) := by decide +kernel
theorem dX6_findIn_44 : decode cX6_findIn 44 = .ok (.iconst (-1), 1) := by decide +kernel
theorem dX6_findIn_45 : decode cX6_findIn 45 = .ok (.ixor, 1) := by decide +kernel
theorem dX6_findIn_46 : decode cX6_findIn 46 = .ok (.ior, 1) := by decide +kernel
theorem dX6_findIn_47 : decode cX6_findIn 47 = .ok (.iand, 1) := by decide +kernel
theorem dX6_findIn_48 : decode cX6_findIn 48 = .ok (.ifCond .ne 16, 3) := by decide +kernel
theorem dX6_findIn_51 : decode cX6_findIn 51 = .ok (.aload_n 0, 1) := by decide +kernel
theorem dX6_findIn_52 : decode cX6_findIn 52 = .ok (.iload 4, 2) := by decide +kernel
theorem dX6_findIn_54 : decode cX6_findIn 54 = .ok (.putfield 106, 3) := by decide +kernel
theorem dX6_findIn_57 : decode cX6_findIn 57 = .ok (.aload_n 0, 1) := by decide +kernel
theorem dX6_findIn_58 : decode cX6_findIn 58 = .ok (.iload_n 3, 1) := by decide +kernel
theorem dX6_findIn_59 : decode cX6_findIn 59 = .ok (.putfield 109, 3) := by decide +kernel
theorem dX6_findIn_62 : decode cX6_findIn 62 = .ok (.iconst 1, 1) := by decide +kernel
theorem dX6_findIn_63 : decode cX6_findIn 63 = .ok (.ireturn, 1) := by decide +kernel
theorem dX6_findIn_64 : decode cX6_findIn 64 = .ok (.iinc 4 1, 3) := by decide +kernel
theorem dX6_findIn_67 : decode cX6_findIn 67 = .ok (.goto (-53), 3) := by decide +kernel
theorem dX6_findIn_70 : decode cX6_findIn 70 = .ok (.iconst 0, 1) := by decide +kernel
theorem dX6_findIn_71 : decode cX6_findIn 71 = .ok (.ireturn, 1) := by decide +kernel
theorem hd_X6_findIn : yX6_findIn.cls = RX6 ∧ yX6_findIn.cls ≠ "java/lang/invoke/MethodHandle" ∧ yX6_findIn.cls ≠ "java/lang/invoke/VarHandle" ∧ (parseMethodDescriptor yX6_findIn.desc).map (fun d => d.parameters.length) = some 2 := by decide +kernel
theorem hs_X6_findIn : yX6_findIn.cls ≠ "java/lang/invoke/MethodHandle" ∧ yX6_findIn.cls ≠ "java/lang/invoke/VarHandle" ∧ (parseMethodDescriptor yX6_findIn.desc).map (fun d => d.parameters.length) = some 2 := by decide +kernel
set_option maxHeartbeats 4000000 in
set_option maxRecDepth 100000 in
theorem l_X6_findIn_L14 (C : CX p l e s m args meth c cX6_findIn 5 RX6 (Option.some Jvm.ClassFile.FieldType.boolean) E) {o : Nat} (ho : K o = some (5, 0)) {r : Bool} {w' : Wd} (k : Option Nat → Int32 → Int32 → Int32 → Wd → Option (Bool × Wd)) (hk : ∀ (v1_14 : Option Nat) (v2_14 : Int32) (v3_14 : Int32) (v4_14 : Int32) (w : Wd) (H : Heap) (locs : List Loc) (ls : Array Slot), HQ E K z w s H locs → lv_has ls 5 [(1, rv E v1_14), (2, .int v2_14), (3, .int v3_14), (4, .int v4_14), (0, rv E (some o))] → k v1_14 v2_14 v3_14 v4_14 w = some (r, w') → W p l e ({ frames := 2, cells := 0, slots := 0, locals := 46 } : Room) s m args below meth c H locs 0 0 (MQ below (QI E K z w' (b2i r)) args s 0 0 (hA E)) (F0 m 70 ls [])) : ∀ (n : Nat) (v1_14 : Option Nat) (v2_14 : Int32) (v3_14 : Int32) (v4_14 : Int32) (w : Wd) (H : Heap) (locs : List Loc) (ls : Array Slot), HQ E K z w s H locs → lv_has ls 5 [(1, rv E v1_14), (2, .int v2_14), (3, .int v3_14), (4, .int v4_14), (0, rv E (some o))] → f_X6_findIn_L14 K o k n v1_14 v2_14 v3_14 v4_14 w = some (r, w') → W p l e ({ frames := 2, cells := 0, slots := 0, locals := 46 } : Room) s m args below meth c H locs 0 0 (MQ below (QI E K z w' (b2i r)) args s 0 0 (hA E)) (F0 m 14 ls []) := by
  obtain ⟨hx, hb, hml, hown, hts, hKs, hT, hb0, hlocks, hret⟩ := id C
  intro n
  induction n with
  | zero =>
    intro v1_14 v2_14 v3_14 v4_14 w H locs ls hH hl hf
    cases hf
  | succ n ih =>
    intro v1_14 v2_14 v3_14 v4_14 w H locs ls hH hl hf
    rw [f_X6_findIn_L14] at hf
    refine lv_iload hx hb dX6_findIn_14 (lv_at hl 3 rfl) ?_
    refine hl_aload_n hx hb dX6_findIn_16 rfl (lv_at hl 0 rfl) ?_
    refine lv_iconst (v := 0) hx hb dX6_findIn_17 (by decide) ?_
    obtain ⟨a5, ha5, hf⟩ := bnd hf
    replace ha5 := chk_some ha5
    obtain ⟨q6, hq6, hf⟩ := bnd hf
    refine hcV_i hx hb hml hown hts hKs hT hb0 hH (As := [.int 0]) (rest := [.int v4_14]) (k_X9_size l E K H.size a5 0 w ha5.2 hq6) (gV m4_124 m3_151 m3_152 m1_2 m3_153) hd_X9_size ⟨Nat.le_of_ble_eq_true rfl, Nat.le_of_ble_eq_true rfl, rfl, rfl⟩ ha5.1 ha5.2 rfl rfl rfl hl.1 rfl (rcI rc0) rfl dX6_findIn_18 ⟨Nat.zero_le _, Nat.zero_le _⟩ (fun H locs hH => ?_)
    refine lv_icmp_ge (tgt := 70) hx hb dX6_findIn_21 (by decide) (fun c7 => ?_) (fun c7 => ?_)
    · replace hf := (if_pos c7).symm.trans hf
      exact hk v1_14 v2_14 v3_14 v4_14 _ _ _ _ hH (lv_sub hl [0, 1, 2, 3, 4] rfl) hf
    · replace hf := (if_neg c7).symm.trans hf
      refine lv_iload_n hx hb dX6_findIn_24 rfl (lv_at hl 2 rfl) ?_
      refine lv_iconst (v := (-1)) hx hb dX6_findIn_25 (by decide) ?_
      refine lv_icmp_eq (tgt := 70) hx hb dX6_findIn_26 (by decide) (fun c8 => ?_) (fun c8 => ?_)
      · replace hf := (if_pos c8).symm.trans hf
        exact hk v1_14 v2_14 v3_14 v4_14 _ _ _ _ hH (lv_sub hl [0, 1, 2, 3, 4] rfl) hf
      · replace hf := (if_neg c8).symm.trans hf
        refine lv_iload_n hx hb dX6_findIn_29 rfl (lv_at hl 1 rfl) ?_
        refine hl_aload_n hx hb dX6_findIn_30 rfl (lv_at hl 4 rfl) ?_
        refine g6_0 hx hb hts hown hKs hH rfl ho m2_156 dX6_findIn_31 ?_
        refine lv_iload hx hb dX6_findIn_34 (lv_at hl 3 rfl) ?_
        obtain ⟨a9, ha9, hf⟩ := bnd hf
        replace ha9 := cha_some ha9
        obtain ⟨j10, hj10, hf⟩ := bnd hf
        refine hw_iald hx hb hKs hH ha9.1 ha9.2 hj10 dX6_findIn_36 ?_
        refine hl_aload_n hx hb dX6_findIn_37 rfl (lv_at hl 0 rfl) ?_
        refine gn9_1 hx hb hts hown hKs hH ha5.1 ha5.2 m1_154 dX6_findIn_38 ?_
        refine lv_iload hx hb dX6_findIn_41 (lv_at hl 3 rfl) ?_
        obtain ⟨a11, ha11, hf⟩ := bnd hf
        replace ha11 := cha_some ha11
        obtain ⟨j12, hj12, hf⟩ := bnd hf
        refine hw_iald hx hb hKs hH ha11.1 ha11.2 hj12 dX6_findIn_43 ?_
        refine lv_iconst (v := (-1)) hx hb dX6_findIn_44 (by decide) ?_
        refine lv_ixor hx hb dX6_findIn_45 ?_
        refine lv_ior hx hb dX6_findIn_46 ?_
        refine lv_iand hx hb dX6_findIn_47 ?_
        refine lv_if_ne (tgt := 64) hx hb dX6_findIn_48 (by decide) (fun c13 => ?_) (fun c13 => ?_)
        · replace hf := (if_neg c13).symm.trans hf
          refine lv_iinc (v := (v4_14 + 1)) (lv' := [(4, .int ((v4_14 + 1))), (1, rv E v1_14), (2, .int v2_14), (3, .int v3_14), (0, rv E (some o))]) hx hb dX6_findIn_64 hl (k := 3) rfl rfl (by decide) rfl (fun ls hl => ?_)
          refine lv_goto (tgt := 14) hx hb dX6_findIn_67 (by decide) ?_
          exact ih v1_14 v2_14 v3_14 (v4_14 + 1) _ _ _ _ hH (lv_sub hl [1, 2, 3, 0, 4] rfl) hf
        · replace hf := (if_pos c13).symm.trans hf
          refine hl_aload_n hx hb dX6_findIn_51 rfl (lv_at hl 4 rfl) ?_
          refine lv_iload hx hb dX6_findIn_52 (lv_at hl 3 rfl) ?_
          obtain ⟨w14, hw14, hf⟩ := bnd hf
          replace hw14 := Option.some.inj hw14
          refine p6_10 (v := v4_14) hx hb hts hown hKs hH rfl ho m2_168 dX6_findIn_54 (fun H locs hH => ?_)
          rw [hw14] at hH
          refine hl_aload_n hx hb dX6_findIn_57 rfl (lv_at hl 4 rfl) ?_
          refine lv_iload_n hx hb dX6_findIn_58 rfl (lv_at hl 2 rfl) ?_
          obtain ⟨w15, hw15, hf⟩ := bnd hf
          replace hw15 := Option.some.inj hw15
          refine p6_11 (v := v3_14) hx hb hts hown hKs hH rfl ho m2_170 dX6_findIn_59 (fun H locs hH => ?_)
          rw [hw15] at hH
          refine lv_iconst (v := 1) hx hb dX6_findIn_62 (by decide) ?_
          exact hw_zret hx hb hret rfl hf hH hlocks dX6_findIn_63
set_option maxHeartbeats 4000000 in
set_option maxRecDepth 100000 in
theorem k_X6_findIn (l : Launch) (E : Ev) (K : Kd) (z : Nat) (o : Nat) (a_1 : Option Nat) (a_2 : Int32) (w : Wd) (ho : K o = some (5, 0)) {r : Bool} {w' : Wd} (hf : f_X6_findIn K o a_1 a_2 w = some (r, w')) : Met l yX6_findIn (Cond.code yX6_findIn cX6_findIn 5 (Option.some Jvm.ClassFile.FieldType.boolean) :: bt) ({ frames := 2, cells := 0, slots := 0, locals := 46 } : Room) (va_Pc [rv E (some o), rv E a_1, .int a_2] (HB E K w z)) (QI E K z w' (b2i r)) 0 0 (hA E) := by
  refine Met.ofW (cc := cX6_findIn) (maxL := 5) (ret := (Option.some Jvm.ClassFile.FieldType.boolean)) (by decide) rfl ?_
  intro p e s m args below meth c s₁ B hml hv
  obtain ⟨rfl, hz, hP, hKs, hT, hb0⟩ := hv
  have C : CX p l e s m _ meth c cX6_findIn 5 RX6 (Option.some Jvm.ClassFile.FieldType.boolean) E := ⟨B.exec, B.bytes, hml, findClass_of_methodNamed B.named, fun w h => atoms_spec (ws := Cond.code yX6_findIn cX6_findIn 5 (Option.some Jvm.ClassFile.FieldType.boolean) :: bt) B.pre w (List.mem_cons_of_mem _ h), hKs, hT, by rw [hz]; exact hb0, B.notSynchronized, B.returns⟩
  have hH : HQ E K z w s s.heap [] := ⟨hP, va_S.rf, hz⟩
  obtain ⟨hx, hb, hml, hown, hts, hKs, hT, hb0, hlocks, hret⟩ := id C
  have hl := lv_entry [rv E (some o), rv E a_1, .int a_2] (n := 5) (by simp [lg_len_nil, lg_len_i, lg_len_j, lg_len_q, lg_len_f, lg_len_d, lg_len_r])
  rw [lg_entry_eq]
  generalize (lg_sl [rv E (some o), rv E a_1, .int a_2] ++ List.replicate (5 - (lg_sl [rv E (some o), rv E a_1, .int a_2]).length) Slot.unset).toArray = ls at hl ⊢
  replace hl : lv_has ls 5 [(0, rv E (some o)), (1, rv E a_1), (2, .int a_2)] := by simpa only [lv_args, cat_q, cat_i, cat_j, reduceIte, Nat.reduceEqDiff, Nat.reduceAdd, Nat.zero_add] using hl
  generalize s.heap = H at hH ⊢
  unfold f_X6_findIn at hf
  refine hl_aload_n hx hb dX6_findIn_0 rfl (lv_at hl 0 rfl) ?_
  refine hl_aload_n hx hb dX6_findIn_1 rfl (lv_at hl 1 rfl) ?_
  refine lv_iconst (v := 1) hx hb dX6_findIn_2 (by decide) ?_
  obtain ⟨a1, ha1, hf⟩ := bnd hf
  replace ha1 := chk_some ha1
  obtain ⟨q2, hq2, hf⟩ := bnd hf
  refine hcV_i hx hb hml hown hts hKs hT hb0 hH (As := [.int 1]) (rest := [rv E (some o)]) (k_X9_size l E K H.size a1 1 w ha1.2 hq2) (gV m4_124 m3_151 m3_152 m1_2 m3_153) hd_X9_size ⟨Nat.le_of_ble_eq_true rfl, Nat.le_of_ble_eq_true rfl, rfl, rfl⟩ ha1.1 ha1.2 rfl rfl rfl hl.1 rfl (rcV rc0) rfl dX6_findIn_3 ⟨Nat.zero_le _, Nat.zero_le _⟩ (fun H locs hH => ?_)
  refine lv_iload_n hx hb dX6_findIn_6 rfl (lv_at hl 2 rfl) ?_
  obtain ⟨q3, hq3, hf⟩ := bnd hf
  refine hcV_i hx hb hml hown hts hKs hT hb0 hH (As := [.int (q2.1), .int a_2]) (rest := []) (k_X6_leastLoaded l E K H.size o q2.1 a_2 q2.2 ho hq3) (gV m4_177 m4_179 ms_30 m1_14 m4_180) hd_X6_leastLoaded ⟨Nat.le_of_ble_eq_true rfl, Nat.le_of_ble_eq_true rfl, rfl, rfl⟩ rfl ho rfl rfl rfl hl.1 rfl rc0 rfl dX6_findIn_7 ⟨Nat.zero_le _, Nat.zero_le _⟩ (fun H locs hH => ?_)
  refine lv_istore_n (lv' := [(3, .int (q3.1)), (0, rv E (some o)), (1, rv E a_1), (2, .int a_2)]) hx hb dX6_findIn_10 rfl hl (by decide) rfl (fun ls hl => ?_)
  refine lv_iconst (v := 0) hx hb dX6_findIn_11 (by decide) ?_
  refine lv_istore (lv' := [(4, .int 0), (3, .int (q3.1)), (0, rv E (some o)), (1, rv E a_1), (2, .int a_2)]) hx hb dX6_findIn_12 hl (by decide) rfl (fun ls hl => ?_)
  refine l_X6_findIn_L14  C ho _ (fun v1_14 v2_14 v3_14 v4_14 w4 H locs ls hH hl hf => ?_) fu a_1 a_2 q3.1 0 q3.2 _ _ _ hH (lv_sub hl [3, 4, 1, 0, 2] rfl) hf
  refine lv_iconst (v := 0) hx hb dX6_findIn_70 (by decide) ?_
  exact hw_zret hx hb hret rfl hf hH hlocks dX6_findIn_71
end
