section
variable {p : Program} {l : Launch} {e : Env} {s : State} {m : MethodId} {args : Array Value} {below : List Frame} {meth : Method} {c : Code} {E : Ev} {K : Kd} {z : Nat}

theorem dX5_takesBar_0 : decode cX5_takesBar 0 = .ok (.aload_n 0, 1) := by decide +kernel
theorem dX5_takesBar_1 : decode cX5_takesBar 1 = .ok (.getfield 12, 3) := by decide +kernel
theorem dX5_takesBar_4 : decode cX5_takesBar 4 = .ok (.invokevirtual 112, 3) := by decide +kernel
theorem dX5_takesBar_7 : decode cX5_takesBar 7 = .ok (.aload_n 0, 1) := by decide +kernel
theorem dX5_takesBar_8 : decode cX5_takesBar 8 = .ok (.iconst 1, 1) := by decide +kernel
theorem dX5_takesBar_9 : decode cX5_takesBar 9 = .ok (.invokevirtual 217, 3) := by decide +kernel
theorem dX5_takesBar_12 : decode cX5_takesBar 12 = .ok (.ifCond .ne 5, 3) := by decide +kernel
theorem dX5_takesBar_15 : decode cX5_takesBar 15 = .ok (.iconst 0, 1) := by decide +kernel
theorem dX5_takesBar_16 : decode cX5_takesBar 16 = .ok (.ireturn, 1) := by decide +kernel
theorem dX5_takesBar_17 : decode cX5_takesBar 17 = .ok (.aload_n 0, 1) := by decide +kernel
theorem dX5_takesBar_18 : decode cX5_takesBar 18 = .ok (.getfield 186, 3) := by decide +kernel
theorem dX5_takesBar_21 : decode cX5_takesBar 21 = .ok (.istore_n 1, 1) := by decide +kernel
theorem dX5_takesBar_22 : decode cX5_takesBar 22 = .ok (.aload_n 0, 1) := by decide +kernel
theorem dX5_takesBar_23 : decode cX5_takesBar 23 = .ok (.getfield 12, 3) := by decide +kernel
theorem dX5_takesBar_26 : decode cX5_takesBar 26 = .ok (.invokevirtual 112, 3) := by decide +kernel
theorem dX5_takesBar_29 : decode cX5_takesBar 29 = .ok (.aload_n 0, 1) := by decide +kernel
theorem dX5_takesBar_30 : decode cX5_takesBar 30 = .ok (.iconst 3, 1) := by decide +kernel
theorem dX5_takesBar_31 : decode cX5_takesBar 31 = .ok (.invokevirtual 217, 3) := by decide +kernel
theorem dX5_takesBar_34 : decode cX5_takesBar 34 = .ok (.ifCond .ne 5, 3) := by decide +kernel
theorem dX5_takesBar_37 : decode cX5_takesBar 37 = .ok (.iconst 0, 1) := by decide +kernel
theorem dX5_takesBar_38 : decode cX5_takesBar 38 = .ok (.ireturn, 1) := by decide +kernel
theorem dX5_takesBar_39 : decode cX5_takesBar 39 = .ok (.aload_n 0, 1) := by decide +kernel
theorem dX5_takesBar_40 : decode cX5_takesBar 40 = .ok (.getfield 21, 3) := by decide +kernel
theorem dX5_takesBar_43 : decode cX5_takesBar 43 = .ok (.getfield 176, 3) := by decide +kernel
theorem dX5_takesBar_46 : decode cX5_takesBar 46 = .ok (.aload_n 0, 1) := by decide +kernel
theorem dX5_takesBar_47 : decode cX5_takesBar 47 = .ok (.getfield 186, 3) := by decide +kernel
theorem dX5_takesBar_50 : decode cX5_takesBar 50 = .ok (.aaload, 1) := by decide +kernel
theorem dX5_takesBar_51 : decode cX5_takesBar 51 = .ok (.astore_n 2, 1) := by decide +kernel
theorem dX5_takesBar_52 : decode cX5_takesBar 52 = .ok (.aload_n 2, 1) := by decide +kernel
theorem dX5_takesBar_53 : decode cX5_takesBar 53 = .ok (.getfield 226, 3) := by decide +kernel
theorem dX5_takesBar_56 : decode cX5_takesBar 56 = .ok (.iload_n 1, 1) := by decide +kernel
theorem dX5_takesBar_57 : decode cX5_takesBar 57 = .ok (.invokestatic 223, 3) := by decide +kernel
theorem dX5_takesBar_60 : decode cX5_takesBar 60 = .ok (.ifCond .eq 9, 3) := by decide +kernel
theorem dX5_takesBar_63 : decode cX5_takesBar 63 = .ok (.aload_n 0, 1) := by decide +kernel
theorem dX5_takesBar_64 : decode cX5_takesBar 64 = .ok (.iconst 3, 1) := by decide +kernel
theorem dX5_takesBar_65 : decode cX5_takesBar 65 = .ok (.invokevirtual 99, 3) := by decide +kernel
theorem dX5_takesBar_68 : decode cX5_takesBar 68 = .ok (.ireturn, 1) := by decide +kernel
theorem dX5_takesBar_69 : decode cX5_takesBar 69 = .ok (.aload_n 2, 1) := by decide +kernel
theorem dX5_takesBar_70 : decode cX5_takesBar 70 = .ok (.dup, 1) := by decide +kernel
theorem dX5_takesBar_71 : decode cX5_takesBar 71 = .ok (.getfield 226, 3) := by decide +kernel
theorem dX5_takesBar_74 : decode cX5_takesBar 74 = .ok (.iconst 1, 1) := by decide +kernel
theorem dX5_takesBar_75 : decode cX5_takesBar 75 = .ok (.iload_n 1, 1) := by decide +kernel
theorem dX5_takesBar_76 : decode cX5_takesBar 76 = .ok (.ishl, 1) := by decide +kernel
theorem dX5_takesBar_77 : decode cX5_takesBar 77 = .ok (.ior, 1) := by decide +kernel
theorem dX5_takesBar_78 : decode cX5_takesBar 78 = .ok (.putfield 226, 3) := by decide +kernel
theorem dX5_takesBar_81 : decode cX5_takesBar 81 = .ok (.aload_n 0, 1) := by decide +kernel
theorem dX5_takesBar_82 : decode cX5_takesBar 82 = .ok (.getfield 12, 3) := by decide +kernel
theorem dX5_takesBar_85 : decode cX5_takesBar 85 = .ok (.invokevirtual 112, 3) := by decide +kernel
theorem dX5_takesBar_88 : decode cX5_takesBar 88 = .ok (.iconst 1, 1) := by decide +kernel
theorem dX5_takesBar_89 : decode cX5_takesBar 89 = .ok (.ireturn, 1) := by decide +kernel
theorem hd_X5_takesBar : yX5_takesBar.cls = RX5 ∧ yX5_takesBar.cls ≠ "java/lang/invoke/MethodHandle" ∧ yX5_takesBar.cls ≠ "java/lang/invoke/VarHandle" ∧ (parseMethodDescriptor yX5_takesBar.desc).map (fun d => d.parameters.length) = some 0 := by decide +kernel
theorem hs_X5_takesBar : yX5_takesBar.cls ≠ "java/lang/invoke/MethodHandle" ∧ yX5_takesBar.cls ≠ "java/lang/invoke/VarHandle" ∧ (parseMethodDescriptor yX5_takesBar.desc).map (fun d => d.parameters.length) = some 0 := by decide +kernel
set_option maxHeartbeats 4000000 in
set_option maxRecDepth 100000 in
theorem k_X5_takesBar (l : Launch) (E : Ev) (K : Kd) (z : Nat) (o : Nat) (w : Wd) (ho : K o = some (4, 0)) {r : Bool} {w' : Wd} (hf : f_X5_takesBar K o w = some (r, w')) : Met l yX5_takesBar (Cond.code yX5_takesBar cX5_takesBar 3 (Option.some Jvm.ClassFile.FieldType.boolean) :: bt) ({ frames := 2, cells := 0, slots := 0, locals := 44 } : Room) (va_Pc [rv E (some o)] (HB E K w z)) (QI E K z w' (b2i r)) 0 0 (hA E) := by
  refine Met.ofW (cc := cX5_takesBar) (maxL := 3) (ret := (Option.some Jvm.ClassFile.FieldType.boolean)) (by decide) rfl ?_
  intro p e s m args below meth c s₁ B hml hv
  obtain ⟨rfl, hz, hP, hKs, hT, hb0⟩ := hv
  have C : CX p l e s m _ meth c cX5_takesBar 3 RX5 (Option.some Jvm.ClassFile.FieldType.boolean) E := ⟨B.exec, B.bytes, hml, findClass_of_methodNamed B.named, fun w h => atoms_spec (ws := Cond.code yX5_takesBar cX5_takesBar 3 (Option.some Jvm.ClassFile.FieldType.boolean) :: bt) B.pre w (List.mem_cons_of_mem _ h), hKs, hT, by rw [hz]; exact hb0, B.notSynchronized, B.returns⟩
  have hH : HQ E K z w s s.heap [] := ⟨hP, va_S.rf, hz⟩
  obtain ⟨hx, hb, hml, hown, hts, hKs, hT, hb0, hlocks, hret⟩ := id C
  have hl := lv_entry [rv E (some o)] (n := 3) (by simp [lg_len_nil, lg_len_i, lg_len_j, lg_len_q, lg_len_f, lg_len_d, lg_len_r])
  rw [lg_entry_eq]
  generalize (lg_sl [rv E (some o)] ++ List.replicate (3 - (lg_sl [rv E (some o)]).length) Slot.unset).toArray = ls at hl ⊢
  replace hl : lv_has ls 3 [(0, rv E (some o))] := by simpa only [lv_args, cat_q, cat_i, cat_j, reduceIte, Nat.reduceEqDiff, Nat.reduceAdd, Nat.zero_add] using hl
  generalize s.heap = H at hH ⊢
  unfold f_X5_takesBar at hf
  refine hl_aload_n hx hb dX5_takesBar_0 rfl (lv_at hl 0 rfl) ?_
  refine g5_0 hx hb hts hown hKs hH rfl ho m2_24 dX5_takesBar_1 ?_
  obtain ⟨a1, ha1, hf⟩ := bnd hf
  replace ha1 := chk_some ha1
  obtain ⟨q2, hq2, hf⟩ := bnd hf
  refine hcV_v hx hb hml hown hts hKs hT hb0 hH (As := []) (rest := []) (k_X8_advance l E K H.size a1 w ha1.2 hq2) (gV m4_191 m4_148 m4_149 m1_9 m4_150) hd_X8_advance ⟨Nat.le_of_ble_eq_true rfl, Nat.le_of_ble_eq_true rfl, rfl, rfl⟩ ha1.1 ha1.2 rfl rfl rfl hl.1 rfl rc0 rfl dX5_takesBar_4 ⟨Nat.zero_le _, Nat.zero_le _⟩ (fun H locs hH => ?_)
  refine hl_aload_n hx hb dX5_takesBar_7 rfl (lv_at hl 0 rfl) ?_
  refine lv_iconst (v := 1) hx hb dX5_takesBar_8 (by decide) ?_
  obtain ⟨q3, hq3, hf⟩ := bnd hf
  refine hcV_i hx hb hml hown hts hKs hT hb0 hH (As := [.int 1]) (rest := []) (k_X5_seesToldName l E K H.size o 1 q2 ho hq3) (gV m5_32 m5_34 ms_24 m1_8 m5_35) hd_X5_seesToldName ⟨Nat.le_of_ble_eq_true rfl, Nat.le_of_ble_eq_true rfl, rfl, rfl⟩ rfl ho rfl rfl rfl hl.1 rfl rc0 rfl dX5_takesBar_9 ⟨Nat.zero_le _, Nat.zero_le _⟩ (fun H locs hH => ?_)
  refine lv_if_ne (tgt := 17) hx hb dX5_takesBar_12 (by decide) (fun c4 => ?_) (fun c4 => ?_)
  · replace hf := (if_neg c4).symm.trans hf
    refine hl_aload_n hx hb dX5_takesBar_17 rfl (lv_at hl 0 rfl) ?_
    refine g5_4 hx hb hts hown hKs hH rfl ho m2_30 dX5_takesBar_18 ?_
    refine lv_istore_n (i := 1) (lv' := [(1, .int ((wI q3.2 504 o))), (0, rv E (some o))]) hx hb dX5_takesBar_21 rfl hl (by decide) rfl (fun ls hl => ?_)
    refine hl_aload_n hx hb dX5_takesBar_22 rfl (lv_at hl 1 rfl) ?_
    refine g5_0 hx hb hts hown hKs hH rfl ho m2_24 dX5_takesBar_23 ?_
    obtain ⟨a5, ha5, hf⟩ := bnd hf
    replace ha5 := chk_some ha5
    obtain ⟨q6, hq6, hf⟩ := bnd hf
    refine hcV_v hx hb hml hown hts hKs hT hb0 hH (As := []) (rest := []) (k_X8_advance l E K H.size a5 q3.2 ha5.2 hq6) (gV m4_191 m4_148 m4_149 m1_9 m4_150) hd_X8_advance ⟨Nat.le_of_ble_eq_true rfl, Nat.le_of_ble_eq_true rfl, rfl, rfl⟩ ha5.1 ha5.2 rfl rfl rfl hl.1 rfl rc0 rfl dX5_takesBar_26 ⟨Nat.zero_le _, Nat.zero_le _⟩ (fun H locs hH => ?_)
    refine hl_aload_n hx hb dX5_takesBar_29 rfl (lv_at hl 1 rfl) ?_
    refine lv_iconst (v := 3) hx hb dX5_takesBar_30 (by decide) ?_
    obtain ⟨q7, hq7, hf⟩ := bnd hf
    refine hcV_i hx hb hml hown hts hKs hT hb0 hH (As := [.int 3]) (rest := []) (k_X5_seesToldName l E K H.size o 3 q6 ho hq7) (gV m5_32 m5_34 ms_24 m1_8 m5_35) hd_X5_seesToldName ⟨Nat.le_of_ble_eq_true rfl, Nat.le_of_ble_eq_true rfl, rfl, rfl⟩ rfl ho rfl rfl rfl hl.1 rfl rc0 rfl dX5_takesBar_31 ⟨Nat.zero_le _, Nat.zero_le _⟩ (fun H locs hH => ?_)
    refine lv_if_ne (tgt := 39) hx hb dX5_takesBar_34 (by decide) (fun c8 => ?_) (fun c8 => ?_)
    · replace hf := (if_neg c8).symm.trans hf
      refine hl_aload_n hx hb dX5_takesBar_39 rfl (lv_at hl 1 rfl) ?_
      refine g5_1 hx hb hts hown hKs hH rfl ho m2_25 dX5_takesBar_40 ?_
      obtain ⟨a9, ha9, hf⟩ := bnd hf
      replace ha9 := chk_some ha9
      refine gn9_9 hx hb hts hown hKs hH ha9.1 ha9.2 m1_174 dX5_takesBar_43 ?_
      refine hl_aload_n hx hb dX5_takesBar_46 rfl (lv_at hl 1 rfl) ?_
      refine g5_4 hx hb hts hown hKs hH rfl ho m2_30 dX5_takesBar_47 ?_
      obtain ⟨a10, ha10, hf⟩ := bnd hf
      replace ha10 := cha_some ha10
      obtain ⟨j11, hj11, hf⟩ := bnd hf
      refine hw_aald25 hx hb hKs hH ha10.1 ha10.2 hj11 dX5_takesBar_50 ?_
      refine hl_astore_n (i := 2) (lv' := [(2, rv E (aR q7.2 a10.1 j11)), (1, .int ((wI q3.2 504 o))), (0, rv E (some o))]) hx hb dX5_takesBar_51 rfl hl (by decide) rfl (fun ls hl => ?_)
      refine hl_aload_n hx hb dX5_takesBar_52 rfl (lv_at hl 0 rfl) ?_
      obtain ⟨a12, ha12, hf⟩ := bnd hf
      replace ha12 := chk_some ha12
      refine gn3_6 hx hb hts hown hKs hH ha12.1 ha12.2 m1_119 dX5_takesBar_53 ?_
      refine lv_iload_n hx hb dX5_takesBar_56 rfl (lv_at hl 1 rfl) ?_
      obtain ⟨q13, hq13, hf⟩ := bnd hf
      refine hcM_i hx hb hml hown hts hKs hT hb0 hH (As := [.int ((wI q7.2 306 a12)), .int ((wI q3.2 504 o))]) (rest := []) (k_X12_has l E K H.size (wI q7.2 306 a12) (wI q3.2 504 o) q7.2 hq13) m5_36 m3_188 m1_1 m3_189 hs_X12_has ⟨Nat.le_of_ble_eq_true rfl, Nat.le_of_ble_eq_true rfl, rfl, rfl⟩ hl.1 rfl rc0 rfl dX5_takesBar_57 ⟨Nat.zero_le _, Nat.zero_le _⟩ (fun H locs hH => ?_)
      refine lv_if_eq (tgt := 69) hx hb dX5_takesBar_60 (by decide) (fun c14 => ?_) (fun c14 => ?_)
      · replace hf := (if_pos c14).symm.trans hf
        refine hl_aload_n hx hb dX5_takesBar_69 rfl (lv_at hl 0 rfl) ?_
        refine lv_dup hx hb dX5_takesBar_70 rv_cat ?_
        refine gn3_6 hx hb hts hown hKs hH ha12.1 ha12.2 m1_119 dX5_takesBar_71 ?_
        refine lv_iconst (v := 1) hx hb dX5_takesBar_74 (by decide) ?_
        refine lv_iload_n hx hb dX5_takesBar_75 rfl (lv_at hl 1 rfl) ?_
        refine lv_ishl hx hb dX5_takesBar_76 ?_
        refine lv_ior hx hb dX5_takesBar_77 ?_
        obtain ⟨w15, hw15, hf⟩ := bnd hf
        replace hw15 := Option.some.inj hw15
        refine pn3_6 (v := ((wI q13.2 306 a12) ||| (1 <<< ((wI q3.2 504 o) &&& 31)))) hx hb hts hown hKs hH ha12.1 ha12.2 m1_119 dX5_takesBar_78 (fun H locs hH => ?_)
        rw [hw15] at hH
        refine hl_aload_n hx hb dX5_takesBar_81 rfl (lv_at hl 2 rfl) ?_
        refine g5_0 hx hb hts hown hKs hH rfl ho m2_24 dX5_takesBar_82 ?_
        obtain ⟨a16, ha16, hf⟩ := bnd hf
        replace ha16 := chk_some ha16
        obtain ⟨q17, hq17, hf⟩ := bnd hf
        refine hcV_v hx hb hml hown hts hKs hT hb0 hH (As := []) (rest := []) (k_X8_advance l E K H.size a16 w15 ha16.2 hq17) (gV m4_191 m4_148 m4_149 m1_9 m4_150) hd_X8_advance ⟨Nat.le_of_ble_eq_true rfl, Nat.le_of_ble_eq_true rfl, rfl, rfl⟩ ha16.1 ha16.2 rfl rfl rfl hl.1 rfl rc0 rfl dX5_takesBar_85 ⟨Nat.zero_le _, Nat.zero_le _⟩ (fun H locs hH => ?_)
        refine lv_iconst (v := 1) hx hb dX5_takesBar_88 (by decide) ?_
        exact hw_zret hx hb hret rfl hf hH hlocks dX5_takesBar_89
      · replace hf := (if_neg c14).symm.trans hf
        refine hl_aload_n hx hb dX5_takesBar_63 rfl (lv_at hl 2 rfl) ?_
        refine lv_iconst (v := 3) hx hb dX5_takesBar_64 (by decide) ?_
        obtain ⟨q18, hq18, hf⟩ := bnd hf
        refine hcV_i hx hb hml hown hts hKs hT hb0 hH (As := [.int 3]) (rest := []) (k_X5_fail l E K H.size o 3 q13.2 ho hq18) (gV m4_187 m4_189 ms_13 m1_8 m4_190) hd_X5_fail ⟨Nat.le_of_ble_eq_true rfl, Nat.le_of_ble_eq_true rfl, rfl, rfl⟩ rfl ho rfl rfl rfl hl.1 rfl rc0 rfl dX5_takesBar_65 ⟨Nat.zero_le _, Nat.zero_le _⟩ (fun H locs hH => ?_)
        exact hw_zret hx hb hret rfl hf hH hlocks dX5_takesBar_68
    · replace hf := (if_pos c8).symm.trans hf
      refine lv_iconst (v := 0) hx hb dX5_takesBar_37 (by decide) ?_
      exact hw_zret hx hb hret rfl hf hH hlocks dX5_takesBar_38
  · replace hf := (if_pos c4).symm.trans hf
    refine lv_iconst (v := 0) hx hb dX5_takesBar_15 (by decide) ?_
    exact hw_zret hx hb hret rfl hf hH hlocks dX5_takesBar_16

theorem dX5_takesConflict_0 : decode cX5_takesConflict 0 = .ok (.aload_n 0, 1) := by decide +kernel
theorem dX5_takesConflict_1 : decode cX5_takesConflict 1 = .ok (.getfield 12, 3) := by decide +kernel
theorem dX5_takesConflict_4 : decode cX5_takesConflict 4 = .ok (.invokevirtual 112, 3) := by decide +kernel
theorem dX5_takesConflict_7 : decode cX5_takesConflict 7 = .ok (.aload_n 0, 1) := by decide +kernel
theorem dX5_takesConflict_8 : decode cX5_takesConflict 8 = .ok (.iconst 3, 1) := by decide +kernel
theorem dX5_takesConflict_9 : decode cX5_takesConflict 9 = .ok (.invokevirtual 217, 3) := by decide +kernel
theorem dX5_takesConflict_12 : decode cX5_takesConflict 12 = .ok (.ifCond .ne 5, 3) := by decide +kernel
theorem dX5_takesConflict_15 : decode cX5_takesConflict 15 = .ok (.iconst 0, 1) := by decide +kernel
theorem dX5_takesConflict_16 : decode cX5_takesConflict 16 = .ok (.ireturn, 1) := by decide +kernel
theorem dX5_takesConflict_17 : decode cX5_takesConflict 17 = .ok (.aload_n 0, 1) := by decide +kernel
theorem dX5_takesConflict_18 : decode cX5_takesConflict 18 = .ok (.getfield 186, 3) := by decide +kernel
theorem dX5_takesConflict_21 : decode cX5_takesConflict 21 = .ok (.istore_n 1, 1) := by decide +kernel
theorem dX5_takesConflict_22 : decode cX5_takesConflict 22 = .ok (.aload_n 0, 1) := by decide +kernel
theorem dX5_takesConflict_23 : decode cX5_takesConflict 23 = .ok (.getfield 12, 3) := by decide +kernel
theorem dX5_takesConflict_26 : decode cX5_takesConflict 26 = .ok (.invokevirtual 112, 3) := by decide +kernel
theorem dX5_takesConflict_29 : decode cX5_takesConflict 29 = .ok (.aload_n 0, 1) := by decide +kernel
theorem dX5_takesConflict_30 : decode cX5_takesConflict 30 = .ok (.iconst 3, 1) := by decide +kernel
theorem dX5_takesConflict_31 : decode cX5_takesConflict 31 = .ok (.invokevirtual 217, 3) := by decide +kernel
theorem dX5_takesConflict_34 : decode cX5_takesConflict 34 = .ok (.ifCond .ne 5, 3) := by decide +kernel
theorem dX5_takesConflict_37 : decode cX5_takesConflict 37 = .ok (.iconst 0, 1) := by decide +kernel
theorem dX5_takesConflict_38 : decode cX5_takesConflict 38 = .ok (.ireturn, 1) := by decide +kernel
theorem dX5_takesConflict_39 : decode cX5_takesConflict 39 = .ok (.aload_n 0, 1) := by decide +kernel
theorem dX5_takesConflict_40 : decode cX5_takesConflict 40 = .ok (.getfield 186, 3) := by decide +kernel
theorem dX5_takesConflict_43 : decode cX5_takesConflict 43 = .ok (.istore_n 2, 1) := by decide +kernel
theorem dX5_takesConflict_44 : decode cX5_takesConflict 44 = .ok (.iload_n 2, 1) := by decide +kernel
theorem dX5_takesConflict_45 : decode cX5_takesConflict 45 = .ok (.iload_n 1, 1) := by decide +kernel
theorem dX5_takesConflict_46 : decode cX5_takesConflict 46 = .ok (.if_icmp .eq 22, 3) := by decide +kernel
theorem dX5_takesConflict_49 : decode cX5_takesConflict 49 = .ok (.aload_n 0, 1) := by decide +kernel
theorem dX5_takesConflict_50 : decode cX5_takesConflict 50 = .ok (.getfield 21, 3) := by decide +kernel
theorem dX5_takesConflict_53 : decode cX5_takesConflict 53 = .ok (.getfield 176, 3) := by decide +kernel
theorem dX5_takesConflict_56 : decode cX5_takesConflict 56 = .ok (.iload_n 1, 1) := by decide +kernel
theorem dX5_takesConflict_57 : decode cX5_takesConflict 57 = .ok (.aaload, 1) := by decide +kernel
theorem dX5_takesConflict_58 : decode cX5_takesConflict 58 = .ok (.getfield 229, 3) := by decide +kernel
theorem dX5_takesConflict_61 : decode cX5_takesConflict 61 = .ok (.iload_n 2, 1) := by decide +kernel
theorem dX5_takesConflict_62 : decode cX5_takesConflict 62 = .ok (.invokestatic 223, 3) := by decide +kernel
theorem dX5_takesConflict_65 : decode cX5_takesConflict 65 = .ok (.ifCond .eq 9, 3) := by decide +kernel
theorem dX5_takesConflict_68 : decode cX5_takesConflict 68 = .ok (.aload_n 0, 1) := by decide +kernel
theorem dX5_takesConflict_69 : decode cX5_takesConflict 69 = .ok (.iconst 3, 1) := by decide +kernel
theorem dX5_takesConflict_70 : decode cX5_takesConflict 70 = .ok (.invokevirtual 99, 3) := by decide +kernel
theorem dX5_takesConflict_73 : decode cX5_takesConflict 73 = .ok (.ireturn, 1) := by decide +kernel
theorem dX5_takesConflict_74 : decode cX5_takesConflict 74 = .ok (.aload_n 0, 1) := by decide +kernel
theorem dX5_takesConflict_75 : decode cX5_takesConflict 75 = .ok (.getfield 21, 3) := by decide +kernel
theorem dX5_takesConflict_78 : decode cX5_takesConflict 78 = .ok (.getfield 176, 3) := by decide +kernel
theorem dX5_takesConflict_81 : decode cX5_takesConflict 81 = .ok (.iload_n 1, 1) := by decide +kernel
theorem dX5_takesConflict_82 : decode cX5_takesConflict 82 = .ok (.aaload, 1) := by decide +kernel
theorem dX5_takesConflict_83 : decode cX5_takesConflict 83 = .ok (.dup, 1) := by decide +kernel
theorem dX5_takesConflict_84 : decode cX5_takesConflict 84 = .ok (.getfield 229, 3) := by decide +kernel
theorem dX5_takesConflict_87 : decode cX5_takesConflict 87 = .ok (.iconst 1, 1) := by decide +kernel
theorem dX5_takesConflict_88 : decode cX5_takesConflict 88 = .ok (.iload_n 2, 1) := by decide +kernel
theorem dX5_takesConflict_89 : decode cX5_takesConflict 89 = .ok (.ishl, 1) := by decide +kernel
theorem dX5_takesConflict_90 : decode cX5_takesConflict 90 = .ok (.ior, 1) := by decide +kernel
theorem dX5_takesConflict_91 : decode cX5_takesConflict 91 = .ok (.putfield 229, 3) := by decide +kernel
theorem dX5_takesConflict_94 : decode cX5_takesConflict 94 = .ok (.aload_n 0, 1) := by decide +kernel
theorem dX5_takesConflict_95 : decode cX5_takesConflict 95 = .ok (.getfield 21, 3) := by decide +kernel
theorem dX5_takesConflict_98 : decode cX5_takesConflict 98 = .ok (.getfield 176, 3) := by decide +kernel
theorem dX5_takesConflict_101 : decode cX5_takesConflict 101 = .ok (.iload_n 2, 1) := by decide +kernel
theorem dX5_takesConflict_102 : decode cX5_takesConflict 102 = .ok (.aaload, 1) := by decide +kernel
theorem dX5_takesConflict_103 : decode cX5_takesConflict 103 = .ok (.dup, 1) := by decide +kernel
theorem dX5_takesConflict_104 : decode cX5_takesConflict 104 = .ok (.getfield 229, 3) := by decide +kernel
theorem dX5_takesConflict_107 : decode cX5_takesConflict 107 = .ok (.iconst 1, 1) := by decide +kernel
theorem dX5_takesConflict_108 : decode cX5_takesConflict 108 = .ok (.iload_n 1, 1) := by decide +kernel
theorem dX5_takesConflict_109 : decode cX5_takesConflict 109 = .ok (.ishl, 1) := by decide +kernel
theorem dX5_takesConflict_110 : decode cX5_takesConflict 110 = .ok (.ior, 1) := by decide +kernel
theorem dX5_takesConflict_111 : decode cX5_takesConflict 111 = .ok (.putfield 229, 3) := by decide +kernel
theorem dX5_takesConflict_114 : decode cX5_takesConflict 114 = .ok (.aload_n 0, 1) := by decide +kernel
theorem dX5_takesConflict_115 : decode cX5_takesConflict 115 = .ok (.getfield 12, 3) := by decide +kernel
theorem dX5_takesConflict_118 : decode cX5_takesConflict 118 = .ok (.invokevirtual 112, 3) := by decide +kernel
theorem dX5_takesConflict_121 : decode cX5_takesConflict 121 = .ok (.iconst 1, 1) := by decide +kernel
theorem dX5_takesConflict_122 : decode cX5_takesConflict 122 = .ok (.ireturn, 1) := by decide +kernel
theorem hd_X5_takesConflict : yX5_takesConflict.cls = RX5 ∧ yX5_takesConflict.cls ≠ "java/lang/invoke/MethodHandle" ∧ yX5_takesConflict.cls ≠ "java/lang/invoke/VarHandle" ∧ (parseMethodDescriptor yX5_takesConflict.desc).map (fun d => d.parameters.length) = some 0 := by decide +kernel
theorem hs_X5_takesConflict : yX5_takesConflict.cls ≠ "java/lang/invoke/MethodHandle" ∧ yX5_takesConflict.cls ≠ "java/lang/invoke/VarHandle" ∧ (parseMethodDescriptor yX5_takesConflict.desc).map (fun d => d.parameters.length) = some 0 := by decide +kernel
set_option maxHeartbeats 4000000 in
set_option maxRecDepth 100000 in
theorem k_X5_takesConflict (l : Launch) (E : Ev) (K : Kd) (z : Nat) (o : Nat) (w : Wd) (ho : K o = some (4, 0)) {r : Bool} {w' : Wd} (hf : f_X5_takesConflict K o w = some (r, w')) : Met l yX5_takesConflict (Cond.code yX5_takesConflict cX5_takesConflict 3 (Option.some Jvm.ClassFile.FieldType.boolean) :: bt) ({ frames := 2, cells := 0, slots := 0, locals := 44 } : Room) (va_Pc [rv E (some o)] (HB E K w z)) (QI E K z w' (b2i r)) 0 0 (hA E) := by
  refine Met.ofW (cc := cX5_takesConflict) (maxL := 3) (ret := (Option.some Jvm.ClassFile.FieldType.boolean)) (by decide) rfl ?_
  intro p e s m args below meth c s₁ B hml hv
  obtain ⟨rfl, hz, hP, hKs, hT, hb0⟩ := hv
  have C : CX p l e s m _ meth c cX5_takesConflict 3 RX5 (Option.some Jvm.ClassFile.FieldType.boolean) E := ⟨B.exec, B.bytes, hml, findClass_of_methodNamed B.named, fun w h => atoms_spec (ws := Cond.code yX5_takesConflict cX5_takesConflict 3 (Option.some Jvm.ClassFile.FieldType.boolean) :: bt) B.pre w (List.mem_cons_of_mem _ h), hKs, hT, by rw [hz]; exact hb0, B.notSynchronized, B.returns⟩
  have hH : HQ E K z w s s.heap [] := ⟨hP, va_S.rf, hz⟩
  obtain ⟨hx, hb, hml, hown, hts, hKs, hT, hb0, hlocks, hret⟩ := id C
  have hl := lv_entry [rv E (some o)] (n := 3) (by simp [lg_len_nil, lg_len_i, lg_len_j, lg_len_q, lg_len_f, lg_len_d, lg_len_r])
  rw [lg_entry_eq]
  generalize (lg_sl [rv E (some o)] ++ List.replicate (3 - (lg_sl [rv E (some o)]).length) Slot.unset).toArray = ls at hl ⊢
  replace hl : lv_has ls 3 [(0, rv E (some o))] := by simpa only [lv_args, cat_q, cat_i, cat_j, reduceIte, Nat.reduceEqDiff, Nat.reduceAdd, Nat.zero_add] using hl
  generalize s.heap = H at hH ⊢
  unfold f_X5_takesConflict at hf
  refine hl_aload_n hx hb dX5_takesConflict_0 rfl (lv_at hl 0 rfl) ?_
  refine g5_0 hx hb hts hown hKs hH rfl ho m2_24 dX5_takesConflict_1 ?_
  obtain ⟨a1, ha1, hf⟩ := bnd hf
  replace ha1 := chk_some ha1
  obtain ⟨q2, hq2, hf⟩ := bnd hf
  refine hcV_v hx hb hml hown hts hKs hT hb0 hH (As := []) (rest := []) (k_X8_advance l E K H.size a1 w ha1.2 hq2) (gV m4_191 m4_148 m4_149 m1_9 m4_150) hd_X8_advance ⟨Nat.le_of_ble_eq_true rfl, Nat.le_of_ble_eq_true rfl, rfl, rfl⟩ ha1.1 ha1.2 rfl rfl rfl hl.1 rfl rc0 rfl dX5_takesConflict_4 ⟨Nat.zero_le _, Nat.zero_le _⟩ (fun H locs hH => ?_)
  refine hl_aload_n hx hb dX5_takesConflict_7 rfl (lv_at hl 0 rfl) ?_
  refine lv_iconst (v := 3) hx hb dX5_takesConflict_8 (by decide) ?_
  obtain ⟨q3, hq3, hf⟩ := bnd hf
  refine hcV_i hx hb hml hown hts hKs hT hb0 hH (As := [.int 3]) (rest := []) (k_X5_seesToldName l E K H.size o 3 q2 ho hq3) (gV m5_32 m5_34 ms_24 m1_8 m5_35) hd_X5_seesToldName ⟨Nat.le_of_ble_eq_true rfl, Nat.le_of_ble_eq_true rfl, rfl, rfl⟩ rfl ho rfl rfl rfl hl.1 rfl rc0 rfl dX5_takesConflict_9 ⟨Nat.zero_le _, Nat.zero_le _⟩ (fun H locs hH => ?_)
  refine lv_if_ne (tgt := 17) hx hb dX5_takesConflict_12 (by decide) (fun c4 => ?_) (fun c4 => ?_)
  · replace hf := (if_neg c4).symm.trans hf
    refine hl_aload_n hx hb dX5_takesConflict_17 rfl (lv_at hl 0 rfl) ?_
    refine g5_4 hx hb hts hown hKs hH rfl ho m2_30 dX5_takesConflict_18 ?_
    refine lv_istore_n (i := 1) (lv' := [(1, .int ((wI q3.2 504 o))), (0, rv E (some o))]) hx hb dX5_takesConflict_21 rfl hl (by decide) rfl (fun ls hl => ?_)
    refine hl_aload_n hx hb dX5_takesConflict_22 rfl (lv_at hl 1 rfl) ?_
    refine g5_0 hx hb hts hown hKs hH rfl ho m2_24 dX5_takesConflict_23 ?_
    obtain ⟨a5, ha5, hf⟩ := bnd hf
    replace ha5 := chk_some ha5
    obtain ⟨q6, hq6, hf⟩ := bnd hf
    refine hcV_v hx hb hml hown hts hKs hT hb0 hH (As := []) (rest := []) (k_X8_advance l E K H.size a5 q3.2 ha5.2 hq6) (gV m4_191 m4_148 m4_149 m1_9 m4_150) hd_X8_advance ⟨Nat.le_of_ble_eq_true rfl, Nat.le_of_ble_eq_true rfl, rfl, rfl⟩ ha5.1 ha5.2 rfl rfl rfl hl.1 rfl rc0 rfl dX5_takesConflict_26 ⟨Nat.zero_le _, Nat.zero_le _⟩ (fun H locs hH => ?_)
    refine hl_aload_n hx hb dX5_takesConflict_29 rfl (lv_at hl 1 rfl) ?_
    refine lv_iconst (v := 3) hx hb dX5_takesConflict_30 (by decide) ?_
    obtain ⟨q7, hq7, hf⟩ := bnd hf
    refine hcV_i hx hb hml hown hts hKs hT hb0 hH (As := [.int 3]) (rest := []) (k_X5_seesToldName l E K H.size o 3 q6 ho hq7) (gV m5_32 m5_34 ms_24 m1_8 m5_35) hd_X5_seesToldName ⟨Nat.le_of_ble_eq_true rfl, Nat.le_of_ble_eq_true rfl, rfl, rfl⟩ rfl ho rfl rfl rfl hl.1 rfl rc0 rfl dX5_takesConflict_31 ⟨Nat.zero_le _, Nat.zero_le _⟩ (fun H locs hH => ?_)
    refine lv_if_ne (tgt := 39) hx hb dX5_takesConflict_34 (by decide) (fun c8 => ?_) (fun c8 => ?_)
    · replace hf := (if_neg c8).symm.trans hf
      refine hl_aload_n hx hb dX5_takesConflict_39 rfl (lv_at hl 1 rfl) ?_
      refine g5_4 hx hb hts hown hKs hH rfl ho m2_30 dX5_takesConflict_40 ?_
      refine lv_istore_n (i := 2) (lv' := [(2, .int ((wI q7.2 504 o))), (1, .int ((wI q3.2 504 o))), (0, rv E (some o))]) hx hb dX5_takesConflict_43 rfl hl (by decide) rfl (fun ls hl => ?_)
      refine lv_iload_n hx hb dX5_takesConflict_44 rfl (lv_at hl 0 rfl) ?_
      refine lv_iload_n hx hb dX5_takesConflict_45 rfl (lv_at hl 1 rfl) ?_
      refine lv_icmp_eq (tgt := 68) hx hb dX5_takesConflict_46 (by decide) (fun c9 => ?_) (fun c9 => ?_)
      · replace hf := (if_pos c9).symm.trans hf
        refine hl_aload_n hx hb dX5_takesConflict_68 rfl (lv_at hl 2 rfl) ?_
        refine lv_iconst (v := 3) hx hb dX5_takesConflict_69 (by decide) ?_
        obtain ⟨q10, hq10, hf⟩ := bnd hf
        refine hcV_i hx hb hml hown hts hKs hT hb0 hH (As := [.int 3]) (rest := []) (k_X5_fail l E K H.size o 3 q7.2 ho hq10) (gV m4_187 m4_189 ms_13 m1_8 m4_190) hd_X5_fail ⟨Nat.le_of_ble_eq_true rfl, Nat.le_of_ble_eq_true rfl, rfl, rfl⟩ rfl ho rfl rfl rfl hl.1 rfl rc0 rfl dX5_takesConflict_70 ⟨Nat.zero_le _, Nat.zero_le _⟩ (fun H locs hH => ?_)
        exact hw_zret hx hb hret rfl hf hH hlocks dX5_takesConflict_73
      · replace hf := (if_neg c9).symm.trans hf
        refine hl_aload_n hx hb dX5_takesConflict_49 rfl (lv_at hl 2 rfl) ?_
        refine g5_1 hx hb hts hown hKs hH rfl ho m2_25 dX5_takesConflict_50 ?_
        obtain ⟨a11, ha11, hf⟩ := bnd hf
        replace ha11 := chk_some ha11
        refine gn9_9 hx hb hts hown hKs hH ha11.1 ha11.2 m1_174 dX5_takesConflict_53 ?_
        refine lv_iload_n hx hb dX5_takesConflict_56 rfl (lv_at hl 1 rfl) ?_
        obtain ⟨a12, ha12, hf⟩ := bnd hf
        replace ha12 := cha_some ha12
        obtain ⟨j13, hj13, hf⟩ := bnd hf
        refine hw_aald25 hx hb hKs hH ha12.1 ha12.2 hj13 dX5_takesConflict_57 ?_
        obtain ⟨a14, ha14, hf⟩ := bnd hf
        replace ha14 := chk_some ha14
        refine gn3_5 hx hb hts hown hKs hH ha14.1 ha14.2 m1_114 dX5_takesConflict_58 ?_
        refine lv_iload_n hx hb dX5_takesConflict_61 rfl (lv_at hl 0 rfl) ?_
        obtain ⟨q15, hq15, hf⟩ := bnd hf
        refine hcM_i hx hb hml hown hts hKs hT hb0 hH (As := [.int ((wI q7.2 305 a14)), .int ((wI q7.2 504 o))]) (rest := []) (k_X12_has l E K H.size (wI q7.2 305 a14) (wI q7.2 504 o) q7.2 hq15) m5_36 m3_188 m1_1 m3_189 hs_X12_has ⟨Nat.le_of_ble_eq_true rfl, Nat.le_of_ble_eq_true rfl, rfl, rfl⟩ hl.1 rfl rc0 rfl dX5_takesConflict_62 ⟨Nat.zero_le _, Nat.zero_le _⟩ (fun H locs hH => ?_)
        refine lv_if_eq (tgt := 74) hx hb dX5_takesConflict_65 (by decide) (fun c16 => ?_) (fun c16 => ?_)
        · replace hf := (if_pos c16).symm.trans hf
          refine hl_aload_n hx hb dX5_takesConflict_74 rfl (lv_at hl 2 rfl) ?_
          refine g5_1 hx hb hts hown hKs hH rfl ho m2_25 dX5_takesConflict_75 ?_
          obtain ⟨a17, ha17, hf⟩ := bnd hf
          replace ha17 := chk_some ha17
          refine gn9_9 hx hb hts hown hKs hH ha17.1 ha17.2 m1_174 dX5_takesConflict_78 ?_
          refine lv_iload_n hx hb dX5_takesConflict_81 rfl (lv_at hl 1 rfl) ?_
          obtain ⟨a18, ha18, hf⟩ := bnd hf
          replace ha18 := cha_some ha18
          obtain ⟨j19, hj19, hf⟩ := bnd hf
          refine hw_aald25 hx hb hKs hH ha18.1 ha18.2 hj19 dX5_takesConflict_82 ?_
          refine lv_dup hx hb dX5_takesConflict_83 rv_cat ?_
          obtain ⟨a20, ha20, hf⟩ := bnd hf
          replace ha20 := chk_some ha20
          refine gn3_5 hx hb hts hown hKs hH ha20.1 ha20.2 m1_114 dX5_takesConflict_84 ?_
          refine lv_iconst (v := 1) hx hb dX5_takesConflict_87 (by decide) ?_
          refine lv_iload_n hx hb dX5_takesConflict_88 rfl (lv_at hl 0 rfl) ?_
          refine lv_ishl hx hb dX5_takesConflict_89 ?_
          refine lv_ior hx hb dX5_takesConflict_90 ?_
          obtain ⟨w21, hw21, hf⟩ := bnd hf
          replace hw21 := Option.some.inj hw21
          refine pn3_5 (v := ((wI q15.2 305 a20) ||| (1 <<< ((wI q7.2 504 o) &&& 31)))) hx hb hts hown hKs hH ha20.1 ha20.2 m1_114 dX5_takesConflict_91 (fun H locs hH => ?_)
          rw [hw21] at hH
          refine hl_aload_n hx hb dX5_takesConflict_94 rfl (lv_at hl 2 rfl) ?_
          refine g5_1 hx hb hts hown hKs hH rfl ho m2_25 dX5_takesConflict_95 ?_
          obtain ⟨a22, ha22, hf⟩ := bnd hf
          replace ha22 := chk_some ha22
          refine gn9_9 hx hb hts hown hKs hH ha22.1 ha22.2 m1_174 dX5_takesConflict_98 ?_
          refine lv_iload_n hx hb dX5_takesConflict_101 rfl (lv_at hl 0 rfl) ?_
          obtain ⟨a23, ha23, hf⟩ := bnd hf
          replace ha23 := cha_some ha23
          obtain ⟨j24, hj24, hf⟩ := bnd hf
          refine hw_aald25 hx hb hKs hH ha23.1 ha23.2 hj24 dX5_takesConflict_102 ?_
          refine lv_dup hx hb dX5_takesConflict_103 rv_cat ?_
          obtain ⟨a25, ha25, hf⟩ := bnd hf
          replace ha25 := chk_some ha25
          refine gn3_5 hx hb hts hown hKs hH ha25.1 ha25.2 m1_114 dX5_takesConflict_104 ?_
          refine lv_iconst (v := 1) hx hb dX5_takesConflict_107 (by decide) ?_
          refine lv_iload_n hx hb dX5_takesConflict_108 rfl (lv_at hl 1 rfl) ?_
          refine lv_ishl hx hb dX5_takesConflict_109 ?_
          refine lv_ior hx hb dX5_takesConflict_110 ?_
          obtain ⟨w26, hw26, hf⟩ := bnd hf
          replace hw26 := Option.some.inj hw26
          refine pn3_5 (v := ((wI w21 305 a25) ||| (1 <<< ((wI q3.2 504 o) &&& 31)))) hx hb hts hown hKs hH ha25.1 ha25.2 m1_114 dX5_takesConflict_111 (fun H locs hH => ?_)
          rw [hw26] at hH
          refine hl_aload_n hx hb dX5_takesConflict_114 rfl (lv_at hl 2 rfl) ?_
          refine g5_0 hx hb hts hown hKs hH rfl ho m2_24 dX5_takesConflict_115 ?_
          obtain ⟨a27, ha27, hf⟩ := bnd hf
          replace ha27 := chk_some ha27
          obtain ⟨q28, hq28, hf⟩ := bnd hf
          refine hcV_v hx hb hml hown hts hKs hT hb0 hH (As := []) (rest := []) (k_X8_advance l E K H.size a27 w26 ha27.2 hq28) (gV m4_191 m4_148 m4_149 m1_9 m4_150) hd_X8_advance ⟨Nat.le_of_ble_eq_true rfl, Nat.le_of_ble_eq_true rfl, rfl, rfl⟩ ha27.1 ha27.2 rfl rfl rfl hl.1 rfl rc0 rfl dX5_takesConflict_118 ⟨Nat.zero_le _, Nat.zero_le _⟩ (fun H locs hH => ?_)
          refine lv_iconst (v := 1) hx hb dX5_takesConflict_121 (by decide) ?_
          exact hw_zret hx hb hret rfl hf hH hlocks dX5_takesConflict_122
        · replace hf := (if_neg c16).symm.trans hf
          refine hl_aload_n hx hb dX5_takesConflict_68 rfl (lv_at hl 2 rfl) ?_
          refine lv_iconst (v := 3) hx hb dX5_takesConflict_69 (by decide) ?_
          obtain ⟨q29, hq29, hf⟩ := bnd hf
          refine hcV_i hx hb hml hown hts hKs hT hb0 hH (As := [.int 3]) (rest := []) (k_X5_fail l E K H.size o 3 q15.2 ho hq29) (gV m4_187 m4_189 ms_13 m1_8 m4_190) hd_X5_fail ⟨Nat.le_of_ble_eq_true rfl, Nat.le_of_ble_eq_true rfl, rfl, rfl⟩ rfl ho rfl rfl rfl hl.1 rfl rc0 rfl dX5_takesConflict_70 ⟨Nat.zero_le _, Nat.zero_le _⟩ (fun H locs hH => ?_)
          exact hw_zret hx hb hret rfl hf hH hlocks dX5_takesConflict_73
    · replace hf := (if_pos c8).symm.trans hf
      refine lv_iconst (v := 0) hx hb dX5_takesConflict_37 (by decide) ?_
      exact hw_zret hx hb hret rfl hf hH hlocks dX5_takesConflict_38
  · replace hf := (if_pos c4).symm.trans hf
    refine lv_iconst (v := 0) hx hb dX5_takesConflict_15 (by decide) ?_
    exact hw_zret hx hb hret rfl hf hH hlocks dX5_takesConflict_16

theorem dX5_takes_0 : decode cX5_takes 0 = .ok (.aload_n 0, 1) := by decide +kernel
theorem dX5_takes_1 : decode cX5_takes 1 = .ok (.getfield 12, 3) := by decide +kernel
theorem dX5_takes_4 : decode cX5_takes 4 = .ok (.getfield 39, 3) := by decide +kernel
theorem dX5_takes_7 : decode cX5_takes 7 = .ok (.aload_n 1, 1) := by decide +kernel
theorem dX5_takes_8 : decode cX5_takes 8 = .ok (.if_acmp .eq 9, 3) := by decide +kernel
theorem dX5_takes_11 : decode cX5_takes 11 = .ok (.aload_n 0, 1) := by decide +kernel
theorem dX5_takes_12 : decode cX5_takes 12 = .ok (.iconst 1, 1) := by decide +kernel
theorem dX5_takes_13 : decode cX5_takes 13 = .ok (.invokevirtual 99, 3) := by decide +kernel
theorem dX5_takes_16 : decode cX5_takes 16 = .ok (.ireturn, 1) := by decide +kernel
theorem dX5_takes_17 : decode cX5_takes 17 = .ok (.aload_n 0, 1) := by decide +kernel
theorem dX5_takes_18 : decode cX5_takes 18 = .ok (.getfield 12, 3) := by decide +kernel
theorem dX5_takes_21 : decode cX5_takes 21 = .ok (.invokevirtual 112, 3) := by decide +kernel
theorem dX5_takes_24 : decode cX5_takes 24 = .ok (.iconst 1, 1) := by decide +kernel
theorem dX5_takes_25 : decode cX5_takes 25 = .ok (.ireturn, 1) := by decide +kernel
theorem hd_X5_takes : yX5_takes.cls = RX5 ∧ yX5_takes.cls ≠ "java/lang/invoke/MethodHandle" ∧ yX5_takes.cls ≠ "java/lang/invoke/VarHandle" ∧ (parseMethodDescriptor yX5_takes.desc).map (fun d => d.parameters.length) = some 1 := by decide +kernel
theorem hs_X5_takes : yX5_takes.cls ≠ "java/lang/invoke/MethodHandle" ∧ yX5_takes.cls ≠ "java/lang/invoke/VarHandle" ∧ (parseMethodDescriptor yX5_takes.desc).map (fun d => d.parameters.length) = some 1 := by decide +kernel
set_option maxHeartbeats 4000000 in
set_option maxRecDepth 100000 in
theorem k_X5_takes (l : Launch) (E : Ev) (K : Kd) (z : Nat) (o : Nat) (a_1 : Option Nat) (w : Wd) (ho : K o = some (4, 0)) {r : Bool} {w' : Wd} (hf : f_X5_takes K o a_1 w = some (r, w')) : Met l yX5_takes (Cond.code yX5_takes cX5_takes 2 (Option.some Jvm.ClassFile.FieldType.boolean) :: bt) ({ frames := 2, cells := 0, slots := 0, locals := 42 } : Room) (va_Pc [rv E (some o), re E a_1] (HB E K w z)) (QI E K z w' (b2i r)) 0 0 (hA E) := by
  refine Met.ofW (cc := cX5_takes) (maxL := 2) (ret := (Option.some Jvm.ClassFile.FieldType.boolean)) (by decide) rfl ?_
  intro p e s m args below meth c s₁ B hml hv
  obtain ⟨rfl, hz, hP, hKs, hT, hb0⟩ := hv
  have C : CX p l e s m _ meth c cX5_takes 2 RX5 (Option.some Jvm.ClassFile.FieldType.boolean) E := ⟨B.exec, B.bytes, hml, findClass_of_methodNamed B.named, fun w h => atoms_spec (ws := Cond.code yX5_takes cX5_takes 2 (Option.some Jvm.ClassFile.FieldType.boolean) :: bt) B.pre w (List.mem_cons_of_mem _ h), hKs, hT, by rw [hz]; exact hb0, B.notSynchronized, B.returns⟩
  have hH : HQ E K z w s s.heap [] := ⟨hP, va_S.rf, hz⟩
  obtain ⟨hx, hb, hml, hown, hts, hKs, hT, hb0, hlocks, hret⟩ := id C
  have hl := lv_entry [rv E (some o), re E a_1] (n := 2) (by simp [lg_len_nil, lg_len_i, lg_len_j, lg_len_q, lg_len_f, lg_len_d, lg_len_r])
  rw [lg_entry_eq]
  generalize (lg_sl [rv E (some o), re E a_1] ++ List.replicate (2 - (lg_sl [rv E (some o), re E a_1]).length) Slot.unset).toArray = ls at hl ⊢
  replace hl : lv_has ls 2 [(0, rv E (some o)), (1, re E a_1)] := by simpa only [lv_args, cat_q, cat_i, cat_j, reduceIte, Nat.reduceEqDiff, Nat.reduceAdd, Nat.zero_add] using hl
  generalize s.heap = H at hH ⊢
  unfold f_X5_takes at hf
  refine hl_aload_n hx hb dX5_takes_0 rfl (lv_at hl 0 rfl) ?_
  refine g5_0 hx hb hts hown hKs hH rfl ho m2_24 dX5_takes_1 ?_
  obtain ⟨a1, ha1, hf⟩ := bnd hf
  replace ha1 := chk_some ha1
  refine gn8_4 hx hb hts hown hKs hH ha1.1 ha1.2 m2_1 dX5_takes_4 ?_
  refine hl_aload_n hx hb dX5_takes_7 rfl (lv_at hl 1 rfl) ?_
  obtain ⟨_, hg2, hf⟩ := bnd hf
  obtain ⟨_, hg3, hf⟩ := bnd hf
  refine hw_acmp_eq (tgt := 17) hx hb hT (grd_some hg2) (grd_some hg3) dX5_takes_8 (by decide) (fun c4 => ?_) (fun c4 => ?_)
  · replace hf := (if_pos c4).symm.trans hf
    refine hl_aload_n hx hb dX5_takes_17 rfl (lv_at hl 0 rfl) ?_
    refine g5_0 hx hb hts hown hKs hH rfl ho m2_24 dX5_takes_18 ?_
    obtain ⟨q5, hq5, hf⟩ := bnd hf
    refine hcV_v hx hb hml hown hts hKs hT hb0 hH (As := []) (rest := []) (k_X8_advance l E K H.size a1 w ha1.2 hq5) (gV m4_191 m4_148 m4_149 m1_9 m4_150) hd_X8_advance ⟨Nat.le_of_ble_eq_true rfl, Nat.le_of_ble_eq_true rfl, rfl, rfl⟩ ha1.1 ha1.2 rfl rfl rfl hl.1 rfl rc0 rfl dX5_takes_21 ⟨Nat.zero_le _, Nat.zero_le _⟩ (fun H locs hH => ?_)
    refine lv_iconst (v := 1) hx hb dX5_takes_24 (by decide) ?_
    exact hw_zret hx hb hret rfl hf hH hlocks dX5_takes_25
  · replace hf := (if_neg c4).symm.trans hf
    refine hl_aload_n hx hb dX5_takes_11 rfl (lv_at hl 0 rfl) ?_
    refine lv_iconst (v := 1) hx hb dX5_takes_12 (by decide) ?_
    obtain ⟨q6, hq6, hf⟩ := bnd hf
    refine hcV_i hx hb hml hown hts hKs hT hb0 hH (As := [.int 1]) (rest := []) (k_X5_fail l E K H.size o 1 w ho hq6) (gV m4_187 m4_189 ms_13 m1_8 m4_190) hd_X5_fail ⟨Nat.le_of_ble_eq_true rfl, Nat.le_of_ble_eq_true rfl, rfl, rfl⟩ rfl ho rfl rfl rfl hl.1 rfl rc0 rfl dX5_takes_13 ⟨Nat.zero_le _, Nat.zero_le _⟩ (fun H locs hH => ?_)
    exact hw_zret hx hb hret rfl hf hH hlocks dX5_takes_16

theorem dX5_takesNewName_0 : decode cX5_takesNewName 0 = .ok (.aload_n 0, 1) := by decide +kernel
theorem dX5_takesNewName_1 : decode cX5_takesNewName 1 = .ok (.getfield 21, 3) := by decide +kernel
theorem dX5_takesNewName_4 : decode cX5_takesNewName 4 = .ok (.getfield 244, 3) := by decide +kernel
theorem dX5_takesNewName_7 : decode cX5_takesNewName 7 = .ok (.iload_n 1, 1) := by decide +kernel
theorem dX5_takesNewName_8 : decode cX5_takesNewName 8 = .ok (.aaload, 1) := by decide +kernel
theorem dX5_takesNewName_9 : decode cX5_takesNewName 9 = .ok (.astore_n 2, 1) := by decide +kernel
theorem dX5_takesNewName_10 : decode cX5_takesNewName 10 = .ok (.aload_n 2, 1) := by decide +kernel
theorem dX5_takesNewName_11 : decode cX5_takesNewName 11 = .ok (.invokevirtual 248, 3) := by decide +kernel
theorem dX5_takesNewName_14 : decode cX5_takesNewName 14 = .ok (.ifCond .eq 9, 3) := by decide +kernel
theorem dX5_takesNewName_17 : decode cX5_takesNewName 17 = .ok (.aload_n 0, 1) := by decide +kernel
theorem dX5_takesNewName_18 : decode cX5_takesNewName 18 = .ok (.iconst 4, 1) := by decide +kernel
theorem dX5_takesNewName_19 : decode cX5_takesNewName 19 = .ok (.invokevirtual 99, 3) := by decide +kernel
theorem dX5_takesNewName_22 : decode cX5_takesNewName 22 = .ok (.ireturn, 1) := by decide +kernel
theorem dX5_takesNewName_23 : decode cX5_takesNewName 23 = .ok (.aload_n 0, 1) := by decide +kernel
theorem dX5_takesNewName_24 : decode cX5_takesNewName 24 = .ok (.getfield 12, 3) := by decide +kernel
theorem dX5_takesNewName_27 : decode cX5_takesNewName 27 = .ok (.invokevirtual 112, 3) := by decide +kernel
theorem dX5_takesNewName_30 : decode cX5_takesNewName 30 = .ok (.aload_n 0, 1) := by decide +kernel
theorem dX5_takesNewName_31 : decode cX5_takesNewName 31 = .ok (.getfield 12, 3) := by decide +kernel
theorem dX5_takesNewName_34 : decode cX5_takesNewName 34 = .ok (.getfield 39, 3) := by decide +kernel
theorem dX5_takesNewName_37 : decode cX5_takesNewName 37 = .ok (.getstatic 253, 3) := by decide +kernel
theorem dX5_takesNewName_40 : decode cX5_takesNewName 40 = .ok (.if_acmp .eq 9, 3) := by decide +kernel
theorem dX5_takesNewName_43 : decode cX5_takesNewName 43 = .ok (.aload_n 0, 1) := by decide +kernel
theorem dX5_takesNewName_44 : decode cX5_takesNewName 44 = .ok (.iconst 1, 1) := by decide +kernel
theorem dX5_takesNewName_45 : decode cX5_takesNewName 45 = .ok (.invokevirtual 99, 3) := by decide +kernel
theorem dX5_takesNewName_48 : decode cX5_takesNewName 48 = .ok (.ireturn, 1) := by decide +kernel
theorem dX5_takesNewName_49 : decode cX5_takesNewName 49 = .ok (.aload_n 2, 1) := by decide +kernel
theorem dX5_takesNewName_50 : decode cX5_takesNewName 50 = .ok (.aload_n 0, 1) := by decide +kernel
theorem dX5_takesNewName_51 : decode cX5_takesNewName 51 = .ok (.getfield 12, 3) := by decide +kernel
theorem dX5_takesNewName_54 : decode cX5_takesNewName 54 = .ok (.getfield 256, 3) := by decide +kernel
theorem dX5_takesNewName_57 : decode cX5_takesNewName 57 = .ok (.invokevirtual 260, 3) := by decide +kernel
theorem dX5_takesNewName_60 : decode cX5_takesNewName 60 = .ok (.iconst (-1), 1) := by decide +kernel
theorem dX5_takesNewName_61 : decode cX5_takesNewName 61 = .ok (.if_icmp .eq 9, 3) := by decide +kernel
theorem dX5_takesNewName_64 : decode cX5_takesNewName 64 = .ok (.aload_n 0, 1) := by decide +kernel
theorem dX5_takesNewName_65 : decode cX5_takesNewName 65 = .ok (.iconst 3, 1) := by decide +kernel
theorem dX5_takesNewName_66 : decode cX5_takesNewName 66 = .ok (.invokevirtual 99, 3) := by decide +kernel
theorem dX5_takesNewName_69 : decode cX5_takesNewName 69 = .ok (.ireturn, 1) := by decide +kernel
theorem dX5_takesNewName_70 : decode cX5_takesNewName 70 = .ok (.aload_n 2, 1) := by decide +kernel
theorem dX5_takesNewName_71 : decode cX5_takesNewName 71 = .ok (.aload_n 0, 1) := by decide +kernel
theorem dX5_takesNewName_72 : decode cX5_takesNewName 72 = .ok (.getfield 12, 3) := by decide +kernel
theorem dX5_takesNewName_75 : decode cX5_takesNewName 75 = .ok (.getfield 256, 3) := by decide +kernel
theorem dX5_takesNewName_78 : decode cX5_takesNewName 78 = .ok (.invokevirtual 264, 3) := by decide +kernel
theorem dX5_takesNewName_81 : decode cX5_takesNewName 81 = .ok (.aload_n 0, 1) := by decide +kernel
theorem dX5_takesNewName_82 : decode cX5_takesNewName 82 = .ok (.getfield 12, 3) := by decide +kernel
theorem dX5_takesNewName_85 : decode cX5_takesNewName 85 = .ok (.invokevirtual 112, 3) := by decide +kernel
theorem dX5_takesNewName_88 : decode cX5_takesNewName 88 = .ok (.iconst 1, 1) := by decide +kernel
theorem dX5_takesNewName_89 : decode cX5_takesNewName 89 = .ok (.ireturn, 1) := by decide +kernel
theorem hd_X5_takesNewName : yX5_takesNewName.cls = RX5 ∧ yX5_takesNewName.cls ≠ "java/lang/invoke/MethodHandle" ∧ yX5_takesNewName.cls ≠ "java/lang/invoke/VarHandle" ∧ (parseMethodDescriptor yX5_takesNewName.desc).map (fun d => d.parameters.length) = some 1 := by decide +kernel
theorem hs_X5_takesNewName : yX5_takesNewName.cls ≠ "java/lang/invoke/MethodHandle" ∧ yX5_takesNewName.cls ≠ "java/lang/invoke/VarHandle" ∧ (parseMethodDescriptor yX5_takesNewName.desc).map (fun d => d.parameters.length) = some 1 := by decide +kernel
set_option maxHeartbeats 4000000 in
set_option maxRecDepth 100000 in
theorem k_X5_takesNewName (l : Launch) (E : Ev) (K : Kd) (z : Nat) (o : Nat) (a_1 : Int32) (w : Wd) (ho : K o = some (4, 0)) {r : Bool} {w' : Wd} (hf : f_X5_takesNewName K o a_1 w = some (r, w')) : Met l yX5_takesNewName (Cond.code yX5_takesNewName cX5_takesNewName 3 (Option.some Jvm.ClassFile.FieldType.boolean) :: bt) ({ frames := 2, cells := 0, slots := 0, locals := 42 } : Room) (va_Pc [rv E (some o), .int a_1] (HB E K w z)) (QI E K z w' (b2i r)) 0 0 (hA E) := by
  refine Met.ofW (cc := cX5_takesNewName) (maxL := 3) (ret := (Option.some Jvm.ClassFile.FieldType.boolean)) (by decide) rfl ?_
  intro p e s m args below meth c s₁ B hml hv
  obtain ⟨rfl, hz, hP, hKs, hT, hb0⟩ := hv
  have C : CX p l e s m _ meth c cX5_takesNewName 3 RX5 (Option.some Jvm.ClassFile.FieldType.boolean) E := ⟨B.exec, B.bytes, hml, findClass_of_methodNamed B.named, fun w h => atoms_spec (ws := Cond.code yX5_takesNewName cX5_takesNewName 3 (Option.some Jvm.ClassFile.FieldType.boolean) :: bt) B.pre w (List.mem_cons_of_mem _ h), hKs, hT, by rw [hz]; exact hb0, B.notSynchronized, B.returns⟩
  have hH : HQ E K z w s s.heap [] := ⟨hP, va_S.rf, hz⟩
  obtain ⟨hx, hb, hml, hown, hts, hKs, hT, hb0, hlocks, hret⟩ := id C
  have hl := lv_entry [rv E (some o), .int a_1] (n := 3) (by simp [lg_len_nil, lg_len_i, lg_len_j, lg_len_q, lg_len_f, lg_len_d, lg_len_r])
  rw [lg_entry_eq]
  generalize (lg_sl [rv E (some o), .int a_1] ++ List.replicate (3 - (lg_sl [rv E (some o), .int a_1]).length) Slot.unset).toArray = ls at hl ⊢
  replace hl : lv_has ls 3 [(0, rv E (some o)), (1, .int a_1)] := by simpa only [lv_args, cat_q, cat_i, cat_j, reduceIte, Nat.reduceEqDiff, Nat.reduceAdd, Nat.zero_add] using hl
  generalize s.heap = H at hH ⊢
  unfold f_X5_takesNewName at hf
  refine hl_aload_n hx hb dX5_takesNewName_0 rfl (lv_at hl 0 rfl) ?_
  refine g5_1 hx hb hts hown hKs hH rfl ho m2_25 dX5_takesNewName_1 ?_
  obtain ⟨a1, ha1, hf⟩ := bnd hf
  replace ha1 := chk_some ha1
  refine gn9_0 hx hb hts hown hKs hH ha1.1 ha1.2 m1_152 dX5_takesNewName_4 ?_
  refine lv_iload_n hx hb dX5_takesNewName_7 rfl (lv_at hl 1 rfl) ?_
  obtain ⟨a2, ha2, hf⟩ := bnd hf
  replace ha2 := cha_some ha2
  obtain ⟨j3, hj3, hf⟩ := bnd hf
  refine hw_aald26 hx hb hKs hH ha2.1 ha2.2 hj3 dX5_takesNewName_8 ?_
  refine hl_astore_n (i := 2) (lv' := [(2, rv E (aR w a2.1 j3)), (0, rv E (some o)), (1, .int a_1)]) hx hb dX5_takesNewName_9 rfl hl (by decide) rfl (fun ls hl => ?_)
  refine hl_aload_n hx hb dX5_takesNewName_10 rfl (lv_at hl 0 rfl) ?_
  obtain ⟨a4, ha4, hf⟩ := bnd hf
  replace ha4 := chk_some ha4
  obtain ⟨q5, hq5, hf⟩ := bnd hf
  refine hcV_i hx hb hml hown hts hKs hT hb0 hH (As := []) (rest := []) (k_X4_isFull l E K H.size a4 w ha4.2 hq5) (gV m4_211 m4_212 m4_213 m1_4 m4_214) hd_X4_isFull ⟨Nat.le_of_ble_eq_true rfl, Nat.le_of_ble_eq_true rfl, rfl, rfl⟩ ha4.1 ha4.2 rfl rfl rfl hl.1 rfl rc0 rfl dX5_takesNewName_11 ⟨Nat.zero_le _, Nat.zero_le _⟩ (fun H locs hH => ?_)
  refine lv_if_eq (tgt := 23) hx hb dX5_takesNewName_14 (by decide) (fun c6 => ?_) (fun c6 => ?_)
  · replace hf := (if_pos c6).symm.trans hf
    refine hl_aload_n hx hb dX5_takesNewName_23 rfl (lv_at hl 1 rfl) ?_
    refine g5_0 hx hb hts hown hKs hH rfl ho m2_24 dX5_takesNewName_24 ?_
    obtain ⟨a7, ha7, hf⟩ := bnd hf
    replace ha7 := chk_some ha7
    obtain ⟨q8, hq8, hf⟩ := bnd hf
    refine hcV_v hx hb hml hown hts hKs hT hb0 hH (As := []) (rest := []) (k_X8_advance l E K H.size a7 q5.2 ha7.2 hq8) (gV m4_191 m4_148 m4_149 m1_9 m4_150) hd_X8_advance ⟨Nat.le_of_ble_eq_true rfl, Nat.le_of_ble_eq_true rfl, rfl, rfl⟩ ha7.1 ha7.2 rfl rfl rfl hl.1 rfl rc0 rfl dX5_takesNewName_27 ⟨Nat.zero_le _, Nat.zero_le _⟩ (fun H locs hH => ?_)
    refine hl_aload_n hx hb dX5_takesNewName_30 rfl (lv_at hl 1 rfl) ?_
    refine g5_0 hx hb hts hown hKs hH rfl ho m2_24 dX5_takesNewName_31 ?_
    obtain ⟨a9, ha9, hf⟩ := bnd hf
    replace ha9 := chk_some ha9
    refine gn8_4 hx hb hts hown hKs hH ha9.1 ha9.2 m2_1 dX5_takesNewName_34 ?_
    refine hw_tok hx hb 16 (by decide) hts hown hT hH m4_215 dX5_takesNewName_37 ?_
    obtain ⟨_, hg10, hf⟩ := bnd hf
    refine hw_acmp_eq (tgt := 49) hx hb hT (grd_some hg10) rfl dX5_takesNewName_40 (by decide) (fun c11 => ?_) (fun c11 => ?_)
    · replace hf := (if_pos c11).symm.trans hf
      refine hl_aload_n hx hb dX5_takesNewName_49 rfl (lv_at hl 0 rfl) ?_
      refine hl_aload_n hx hb dX5_takesNewName_50 rfl (lv_at hl 1 rfl) ?_
      refine g5_0 hx hb hts hown hKs hH rfl ho m2_24 dX5_takesNewName_51 ?_
      refine gn8_5 hx hb hts hown hKs hH ha9.1 ha9.2 m2_3 dX5_takesNewName_54 ?_
      obtain ⟨q12, hq12, hf⟩ := bnd hf
      refine hcV_i hx hb hml hown hts hKs hT hb0 hH (As := [.long (wJ q8 805 a9)]) (rest := []) (k_X4_indexOf l E K H.size a4 (wJ q8 805 a9) q8 ha4.2 hq12) (gV m4_216 m4_217 m4_218 m1_4 m4_219) hd_X4_indexOf ⟨Nat.le_of_ble_eq_true rfl, Nat.le_of_ble_eq_true rfl, rfl, rfl⟩ ha4.1 ha4.2 rfl rfl rfl hl.1 rfl rc0 rfl dX5_takesNewName_57 ⟨Nat.zero_le _, Nat.zero_le _⟩ (fun H locs hH => ?_)
      refine lv_iconst (v := (-1)) hx hb dX5_takesNewName_60 (by decide) ?_
      refine lv_icmp_eq (tgt := 70) hx hb dX5_takesNewName_61 (by decide) (fun c13 => ?_) (fun c13 => ?_)
      · replace hf := (if_pos c13).symm.trans hf
        refine hl_aload_n hx hb dX5_takesNewName_70 rfl (lv_at hl 0 rfl) ?_
        refine hl_aload_n hx hb dX5_takesNewName_71 rfl (lv_at hl 1 rfl) ?_
        refine g5_0 hx hb hts hown hKs hH rfl ho m2_24 dX5_takesNewName_72 ?_
        obtain ⟨a14, ha14, hf⟩ := bnd hf
        replace ha14 := chk_some ha14
        refine gn8_5 hx hb hts hown hKs hH ha14.1 ha14.2 m2_3 dX5_takesNewName_75 ?_
        obtain ⟨q15, hq15, hf⟩ := bnd hf
        refine hcV_v hx hb hml hown hts hKs hT hb0 hH (As := [.long (wJ q12.2 805 a14)]) (rest := []) (k_X4_add l E K H.size a4 (wJ q12.2 805 a14) q12.2 ha4.2 hq15) (gV m4_220 m4_221 m4_222 m1_4 m4_223) hd_X4_add ⟨Nat.le_of_ble_eq_true rfl, Nat.le_of_ble_eq_true rfl, rfl, rfl⟩ ha4.1 ha4.2 rfl rfl rfl hl.1 rfl rc0 rfl dX5_takesNewName_78 ⟨Nat.zero_le _, Nat.zero_le _⟩ (fun H locs hH => ?_)
        refine hl_aload_n hx hb dX5_takesNewName_81 rfl (lv_at hl 1 rfl) ?_
        refine g5_0 hx hb hts hown hKs hH rfl ho m2_24 dX5_takesNewName_82 ?_
        obtain ⟨a16, ha16, hf⟩ := bnd hf
        replace ha16 := chk_some ha16
        obtain ⟨q17, hq17, hf⟩ := bnd hf
        refine hcV_v hx hb hml hown hts hKs hT hb0 hH (As := []) (rest := []) (k_X8_advance l E K H.size a16 q15 ha16.2 hq17) (gV m4_191 m4_148 m4_149 m1_9 m4_150) hd_X8_advance ⟨Nat.le_of_ble_eq_true rfl, Nat.le_of_ble_eq_true rfl, rfl, rfl⟩ ha16.1 ha16.2 rfl rfl rfl hl.1 rfl rc0 rfl dX5_takesNewName_85 ⟨Nat.zero_le _, Nat.zero_le _⟩ (fun H locs hH => ?_)
        refine lv_iconst (v := 1) hx hb dX5_takesNewName_88 (by decide) ?_
        exact hw_zret hx hb hret rfl hf hH hlocks dX5_takesNewName_89
      · replace hf := (if_neg c13).symm.trans hf
        refine hl_aload_n hx hb dX5_takesNewName_64 rfl (lv_at hl 1 rfl) ?_
        refine lv_iconst (v := 3) hx hb dX5_takesNewName_65 (by decide) ?_
        obtain ⟨q18, hq18, hf⟩ := bnd hf
        refine hcV_i hx hb hml hown hts hKs hT hb0 hH (As := [.int 3]) (rest := []) (k_X5_fail l E K H.size o 3 q12.2 ho hq18) (gV m4_187 m4_189 ms_13 m1_8 m4_190) hd_X5_fail ⟨Nat.le_of_ble_eq_true rfl, Nat.le_of_ble_eq_true rfl, rfl, rfl⟩ rfl ho rfl rfl rfl hl.1 rfl rc0 rfl dX5_takesNewName_66 ⟨Nat.zero_le _, Nat.zero_le _⟩ (fun H locs hH => ?_)
        exact hw_zret hx hb hret rfl hf hH hlocks dX5_takesNewName_69
    · replace hf := (if_neg c11).symm.trans hf
      refine hl_aload_n hx hb dX5_takesNewName_43 rfl (lv_at hl 1 rfl) ?_
      refine lv_iconst (v := 1) hx hb dX5_takesNewName_44 (by decide) ?_
      obtain ⟨q19, hq19, hf⟩ := bnd hf
      refine hcV_i hx hb hml hown hts hKs hT hb0 hH (As := [.int 1]) (rest := []) (k_X5_fail l E K H.size o 1 q8 ho hq19) (gV m4_187 m4_189 ms_13 m1_8 m4_190) hd_X5_fail ⟨Nat.le_of_ble_eq_true rfl, Nat.le_of_ble_eq_true rfl, rfl, rfl⟩ rfl ho rfl rfl rfl hl.1 rfl rc0 rfl dX5_takesNewName_45 ⟨Nat.zero_le _, Nat.zero_le _⟩ (fun H locs hH => ?_)
      exact hw_zret hx hb hret rfl hf hH hlocks dX5_takesNewName_48
  · replace hf := (if_neg c6).symm.trans hf
    refine hl_aload_n hx hb dX5_takesNewName_17 rfl (lv_at hl 1 rfl) ?_
    refine lv_iconst (v := 4) hx hb dX5_takesNewName_18 (by decide) ?_
    obtain ⟨q20, hq20, hf⟩ := bnd hf
    refine hcV_i hx hb hml hown hts hKs hT hb0 hH (As := [.int 4]) (rest := []) (k_X5_fail l E K H.size o 4 q5.2 ho hq20) (gV m4_187 m4_189 ms_13 m1_8 m4_190) hd_X5_fail ⟨Nat.le_of_ble_eq_true rfl, Nat.le_of_ble_eq_true rfl, rfl, rfl⟩ rfl ho rfl rfl rfl hl.1 rfl rc0 rfl dX5_takesNewName_19 ⟨Nat.zero_le _, Nat.zero_le _⟩ (fun H locs hH => ?_)
    exact hw_zret hx hb hret rfl hf hH hlocks dX5_takesNewName_22

theorem dX5_takesNumber_0 : decode cX5_takesNumber 0 = .ok (.aload_n 0, 1) := by decide +kernel
theorem dX5_takesNumber_1 : decode cX5_takesNumber 1 = .ok (.iload_n 1, 1) := by decide +kernel
theorem dX5_takesNumber_2 : decode cX5_takesNumber 2 = .ok (.iload_n 2, 1) := by decide +kernel
theorem dX5_takesNumber_3 : decode cX5_takesNumber 3 = .ok (.invokevirtual 115, 3) := by decide +kernel
theorem dX5_takesNumber_6 : decode cX5_takesNumber 6 = .ok (.ifCond .ne 5, 3) := by decide +kernel
theorem dX5_takesNumber_9 : decode cX5_takesNumber 9 = .ok (.iconst 0, 1) := by decide +kernel
theorem dX5_takesNumber_10 : decode cX5_takesNumber 10 = .ok (.ireturn, 1) := by decide +kernel
theorem dX5_takesNumber_11 : decode cX5_takesNumber 11 = .ok (.aload_n 0, 1) := by decide +kernel
theorem dX5_takesNumber_12 : decode cX5_takesNumber 12 = .ok (.aload_n 0, 1) := by decide +kernel
theorem dX5_takesNumber_13 : decode cX5_takesNumber 13 = .ok (.getfield 12, 3) := by decide +kernel
theorem dX5_takesNumber_16 : decode cX5_takesNumber 16 = .ok (.getfield 119, 3) := by decide +kernel
theorem dX5_takesNumber_19 : decode cX5_takesNumber 19 = .ok (.putfield 186, 3) := by decide +kernel
theorem dX5_takesNumber_22 : decode cX5_takesNumber 22 = .ok (.aload_n 0, 1) := by decide +kernel
theorem dX5_takesNumber_23 : decode cX5_takesNumber 23 = .ok (.getfield 12, 3) := by decide +kernel
theorem dX5_takesNumber_26 : decode cX5_takesNumber 26 = .ok (.invokevirtual 112, 3) := by decide +kernel
theorem dX5_takesNumber_29 : decode cX5_takesNumber 29 = .ok (.iconst 1, 1) := by decide +kernel
theorem dX5_takesNumber_30 : decode cX5_takesNumber 30 = .ok (.ireturn, 1) := by decide +kernel
theorem hd_X5_takesNumber : yX5_takesNumber.cls = RX5 ∧ yX5_takesNumber.cls ≠ "java/lang/invoke/MethodHandle" ∧ yX5_takesNumber.cls ≠ "java/lang/invoke/VarHandle" ∧ (parseMethodDescriptor yX5_takesNumber.desc).map (fun d => d.parameters.length) = some 2 := by decide +kernel
theorem hs_X5_takesNumber : yX5_takesNumber.cls ≠ "java/lang/invoke/MethodHandle" ∧ yX5_takesNumber.cls ≠ "java/lang/invoke/VarHandle" ∧ (parseMethodDescriptor yX5_takesNumber.desc).map (fun d => d.parameters.length) = some 2 := by decide +kernel
set_option maxHeartbeats 4000000 in
set_option maxRecDepth 100000 in
theorem k_X5_takesNumber (l : Launch) (E : Ev) (K : Kd) (z : Nat) (o : Nat) (a_1 : Int32) (a_2 : Int32) (w : Wd) (ho : K o = some (4, 0)) {r : Bool} {w' : Wd} (hf : f_X5_takesNumber K o a_1 a_2 w = some (r, w')) : Met l yX5_takesNumber (Cond.code yX5_takesNumber cX5_takesNumber 3 (Option.some Jvm.ClassFile.FieldType.boolean) :: bt) ({ frames := 2, cells := 0, slots := 0, locals := 43 } : Room) (va_Pc [rv E (some o), .int a_1, .int a_2] (HB E K w z)) (QI E K z w' (b2i r)) 0 0 (hA E) := by
  refine Met.ofW (cc := cX5_takesNumber) (maxL := 3) (ret := (Option.some Jvm.ClassFile.FieldType.boolean)) (by decide) rfl ?_
  intro p e s m args below meth c s₁ B hml hv
  obtain ⟨rfl, hz, hP, hKs, hT, hb0⟩ := hv
  have C : CX p l e s m _ meth c cX5_takesNumber 3 RX5 (Option.some Jvm.ClassFile.FieldType.boolean) E := ⟨B.exec, B.bytes, hml, findClass_of_methodNamed B.named, fun w h => atoms_spec (ws := Cond.code yX5_takesNumber cX5_takesNumber 3 (Option.some Jvm.ClassFile.FieldType.boolean) :: bt) B.pre w (List.mem_cons_of_mem _ h), hKs, hT, by rw [hz]; exact hb0, B.notSynchronized, B.returns⟩
  have hH : HQ E K z w s s.heap [] := ⟨hP, va_S.rf, hz⟩
  obtain ⟨hx, hb, hml, hown, hts, hKs, hT, hb0, hlocks, hret⟩ := id C
  have hl := lv_entry [rv E (some o), .int a_1, .int a_2] (n := 3) (by simp [lg_len_nil, lg_len_i, lg_len_j, lg_len_q, lg_len_f, lg_len_d, lg_len_r])
  rw [lg_entry_eq]
  generalize (lg_sl [rv E (some o), .int a_1, .int a_2] ++ List.replicate (3 - (lg_sl [rv E (some o), .int a_1, .int a_2]).length) Slot.unset).toArray = ls at hl ⊢
  replace hl : lv_has ls 3 [(0, rv E (some o)), (1, .int a_1), (2, .int a_2)] := by simpa only [lv_args, cat_q, cat_i, cat_j, reduceIte, Nat.reduceEqDiff, Nat.reduceAdd, Nat.zero_add] using hl
  generalize s.heap = H at hH ⊢
  unfold f_X5_takesNumber at hf
  refine hl_aload_n hx hb dX5_takesNumber_0 rfl (lv_at hl 0 rfl) ?_
  refine lv_iload_n hx hb dX5_takesNumber_1 rfl (lv_at hl 1 rfl) ?_
  refine lv_iload_n hx hb dX5_takesNumber_2 rfl (lv_at hl 2 rfl) ?_
  obtain ⟨q1, hq1, hf⟩ := bnd hf
  refine hcV_i hx hb hml hown hts hKs hT hb0 hH (As := [.int a_1, .int a_2]) (rest := []) (k_X5_seesNumber l E K H.size o a_1 a_2 w ho hq1) (gV m4_192 m4_194 ms_14 m1_8 m4_195) hd_X5_seesNumber ⟨Nat.le_of_ble_eq_true rfl, Nat.le_of_ble_eq_true rfl, rfl, rfl⟩ rfl ho rfl rfl rfl hl.1 rfl rc0 rfl dX5_takesNumber_3 ⟨Nat.zero_le _, Nat.zero_le _⟩ (fun H locs hH => ?_)
  refine lv_if_ne (tgt := 11) hx hb dX5_takesNumber_6 (by decide) (fun c2 => ?_) (fun c2 => ?_)
  · replace hf := (if_neg c2).symm.trans hf
    refine hl_aload_n hx hb dX5_takesNumber_11 rfl (lv_at hl 0 rfl) ?_
    refine hl_aload_n hx hb dX5_takesNumber_12 rfl (lv_at hl 0 rfl) ?_
    refine g5_0 hx hb hts hown hKs hH rfl ho m2_24 dX5_takesNumber_13 ?_
    obtain ⟨a3, ha3, hf⟩ := bnd hf
    replace ha3 := chk_some ha3
    refine gn8_6 hx hb hts hown hKs hH ha3.1 ha3.2 m2_5 dX5_takesNumber_16 ?_
    obtain ⟨w4, hw4, hf⟩ := bnd hf
    replace hw4 := Option.some.inj hw4
    refine p5_4 (v := (wI q1.2 806 a3)) hx hb hts hown hKs hH rfl ho m2_30 dX5_takesNumber_19 (fun H locs hH => ?_)
    rw [hw4] at hH
    refine hl_aload_n hx hb dX5_takesNumber_22 rfl (lv_at hl 0 rfl) ?_
    refine g5_0 hx hb hts hown hKs hH rfl ho m2_24 dX5_takesNumber_23 ?_
    obtain ⟨a5, ha5, hf⟩ := bnd hf
    replace ha5 := chk_some ha5
    obtain ⟨q6, hq6, hf⟩ := bnd hf
    refine hcV_v hx hb hml hown hts hKs hT hb0 hH (As := []) (rest := []) (k_X8_advance l E K H.size a5 w4 ha5.2 hq6) (gV m4_191 m4_148 m4_149 m1_9 m4_150) hd_X8_advance ⟨Nat.le_of_ble_eq_true rfl, Nat.le_of_ble_eq_true rfl, rfl, rfl⟩ ha5.1 ha5.2 rfl rfl rfl hl.1 rfl rc0 rfl dX5_takesNumber_26 ⟨Nat.zero_le _, Nat.zero_le _⟩ (fun H locs hH => ?_)
    refine lv_iconst (v := 1) hx hb dX5_takesNumber_29 (by decide) ?_
    exact hw_zret hx hb hret rfl hf hH hlocks dX5_takesNumber_30
  · replace hf := (if_pos c2).symm.trans hf
    refine lv_iconst (v := 0) hx hb dX5_takesNumber_9 (by decide) ?_
    exact hw_zret hx hb hret rfl hf hH hlocks dX5_takesNumber_10

theorem dX5_takesSpan_0 : decode cX5_takesSpan 0 = .ok (.aload_n 0, 1) := by decide +kernel
theorem dX5_takesSpan_1 : decode cX5_takesSpan 1 = .ok (.iconst 0, 1) := by decide +kernel
theorem dX5_takesSpan_2 : decode cX5_takesSpan 2 = .ok (.iload_n 1, 1) := by decide +kernel
theorem dX5_takesSpan_3 : decode cX5_takesSpan 3 = .ok (.invokevirtual 183, 3) := by decide +kernel
theorem dX5_takesSpan_6 : decode cX5_takesSpan 6 = .ok (.ifCond .ne 5, 3) := by decide +kernel
theorem dX5_takesSpan_9 : decode cX5_takesSpan 9 = .ok (.iconst 0, 1) := by decide +kernel
theorem dX5_takesSpan_10 : decode cX5_takesSpan 10 = .ok (.ireturn, 1) := by decide +kernel
theorem dX5_takesSpan_11 : decode cX5_takesSpan 11 = .ok (.aload_n 0, 1) := by decide +kernel
theorem dX5_takesSpan_12 : decode cX5_takesSpan 12 = .ok (.aload_n 0, 1) := by decide +kernel
theorem dX5_takesSpan_13 : decode cX5_takesSpan 13 = .ok (.getfield 186, 3) := by decide +kernel
theorem dX5_takesSpan_16 : decode cX5_takesSpan 16 = .ok (.putfield 144, 3) := by decide +kernel
theorem dX5_takesSpan_19 : decode cX5_takesSpan 19 = .ok (.aload_n 0, 1) := by decide +kernel
theorem dX5_takesSpan_20 : decode cX5_takesSpan 20 = .ok (.aload_n 0, 1) := by decide +kernel
theorem dX5_takesSpan_21 : decode cX5_takesSpan 21 = .ok (.getfield 144, 3) := by decide +kernel
theorem dX5_takesSpan_24 : decode cX5_takesSpan 24 = .ok (.iload_n 1, 1) := by decide +kernel
theorem dX5_takesSpan_25 : decode cX5_takesSpan 25 = .ok (.invokevirtual 183, 3) := by decide +kernel
theorem dX5_takesSpan_28 : decode cX5_takesSpan 28 = .ok (.ifCond .ne 5, 3) := by decide +kernel
theorem dX5_takesSpan_31 : decode cX5_takesSpan 31 = .ok (.iconst 0, 1) := by decide +kernel
theorem dX5_takesSpan_32 : decode cX5_takesSpan 32 = .ok (.ireturn, 1) := by decide +kernel
theorem dX5_takesSpan_33 : decode cX5_takesSpan 33 = .ok (.aload_n 0, 1) := by decide +kernel
theorem dX5_takesSpan_34 : decode cX5_takesSpan 34 = .ok (.aload_n 0, 1) := by decide +kernel
theorem dX5_takesSpan_35 : decode cX5_takesSpan 35 = .ok (.getfield 186, 3) := by decide +kernel
theorem dX5_takesSpan_38 : decode cX5_takesSpan 38 = .ok (.putfield 147, 3) := by decide +kernel
theorem dX5_takesSpan_41 : decode cX5_takesSpan 41 = .ok (.iconst 1, 1) := by decide +kernel
theorem dX5_takesSpan_42 : decode cX5_takesSpan 42 = .ok (.ireturn, 1) := by decide +kernel
theorem hd_X5_takesSpan : yX5_takesSpan.cls = RX5 ∧ yX5_takesSpan.cls ≠ "java/lang/invoke/MethodHandle" ∧ yX5_takesSpan.cls ≠ "java/lang/invoke/VarHandle" ∧ (parseMethodDescriptor yX5_takesSpan.desc).map (fun d => d.parameters.length) = some 1 := by decide +kernel
theorem hs_X5_takesSpan : yX5_takesSpan.cls ≠ "java/lang/invoke/MethodHandle" ∧ yX5_takesSpan.cls ≠ "java/lang/invoke/VarHandle" ∧ (parseMethodDescriptor yX5_takesSpan.desc).map (fun d => d.parameters.length) = some 1 := by decide +kernel
set_option maxHeartbeats 4000000 in
set_option maxRecDepth 100000 in
theorem k_X5_takesSpan (l : Launch) (E : Ev) (K : Kd) (z : Nat) (o : Nat) (a_1 : Int32) (w : Wd) (ho : K o = some (4, 0)) {r : Bool} {w' : Wd} (hf : f_X5_takesSpan K o a_1 w = some (r, w')) : Met l yX5_takesSpan (Cond.code yX5_takesSpan cX5_takesSpan 2 (Option.some Jvm.ClassFile.FieldType.boolean) :: bt) ({ frames := 3, cells := 0, slots := 0, locals := 65 } : Room) (va_Pc [rv E (some o), .int a_1] (HB E K w z)) (QI E K z w' (b2i r)) 0 0 (hA E) := by
  refine Met.ofW (cc := cX5_takesSpan) (maxL := 2) (ret := (Option.some Jvm.ClassFile.FieldType.boolean)) (by decide) rfl ?_
  intro p e s m args below meth c s₁ B hml hv
  obtain ⟨rfl, hz, hP, hKs, hT, hb0⟩ := hv
  have C : CX p l e s m _ meth c cX5_takesSpan 2 RX5 (Option.some Jvm.ClassFile.FieldType.boolean) E := ⟨B.exec, B.bytes, hml, findClass_of_methodNamed B.named, fun w h => atoms_spec (ws := Cond.code yX5_takesSpan cX5_takesSpan 2 (Option.some Jvm.ClassFile.FieldType.boolean) :: bt) B.pre w (List.mem_cons_of_mem _ h), hKs, hT, by rw [hz]; exact hb0, B.notSynchronized, B.returns⟩
  have hH : HQ E K z w s s.heap [] := ⟨hP, va_S.rf, hz⟩
  obtain ⟨hx, hb, hml, hown, hts, hKs, hT, hb0, hlocks, hret⟩ := id C
  have hl := lv_entry [rv E (some o), .int a_1] (n := 2) (by simp [lg_len_nil, lg_len_i, lg_len_j, lg_len_q, lg_len_f, lg_len_d, lg_len_r])
  rw [lg_entry_eq]
  generalize (lg_sl [rv E (some o), .int a_1] ++ List.replicate (2 - (lg_sl [rv E (some o), .int a_1]).length) Slot.unset).toArray = ls at hl ⊢
  replace hl : lv_has ls 2 [(0, rv E (some o)), (1, .int a_1)] := by simpa only [lv_args, cat_q, cat_i, cat_j, reduceIte, Nat.reduceEqDiff, Nat.reduceAdd, Nat.zero_add] using hl
  generalize s.heap = H at hH ⊢
  unfold f_X5_takesSpan at hf
  refine hl_aload_n hx hb dX5_takesSpan_0 rfl (lv_at hl 0 rfl) ?_
  refine lv_iconst (v := 0) hx hb dX5_takesSpan_1 (by decide) ?_
  refine lv_iload_n hx hb dX5_takesSpan_2 rfl (lv_at hl 1 rfl) ?_
  obtain ⟨q1, hq1, hf⟩ := bnd hf
  refine hcV_i hx hb hml hown hts hKs hT hb0 hH (As := [.int 0, .int a_1]) (rest := []) (k_X5_takesNumber l E K H.size o 0 a_1 w ho hq1) (gV m4_234 m4_236 ms_19 m1_8 m4_237) hd_X5_takesNumber ⟨Nat.le_of_ble_eq_true rfl, Nat.le_of_ble_eq_true rfl, rfl, rfl⟩ rfl ho rfl rfl rfl hl.1 rfl rc0 rfl dX5_takesSpan_3 ⟨Nat.zero_le _, Nat.zero_le _⟩ (fun H locs hH => ?_)
  refine lv_if_ne (tgt := 11) hx hb dX5_takesSpan_6 (by decide) (fun c2 => ?_) (fun c2 => ?_)
  · replace hf := (if_neg c2).symm.trans hf
    refine hl_aload_n hx hb dX5_takesSpan_11 rfl (lv_at hl 0 rfl) ?_
    refine hl_aload_n hx hb dX5_takesSpan_12 rfl (lv_at hl 0 rfl) ?_
    refine g5_4 hx hb hts hown hKs hH rfl ho m2_30 dX5_takesSpan_13 ?_
    obtain ⟨w3, hw3, hf⟩ := bnd hf
    replace hw3 := Option.some.inj hw3
    refine p5_5 (v := (wI q1.2 504 o)) hx hb hts hown hKs hH rfl ho m2_31 dX5_takesSpan_16 (fun H locs hH => ?_)
    rw [hw3] at hH
    refine hl_aload_n hx hb dX5_takesSpan_19 rfl (lv_at hl 0 rfl) ?_
    refine hl_aload_n hx hb dX5_takesSpan_20 rfl (lv_at hl 0 rfl) ?_
    refine g5_5 hx hb hts hown hKs hH rfl ho m2_31 dX5_takesSpan_21 ?_
    refine lv_iload_n hx hb dX5_takesSpan_24 rfl (lv_at hl 1 rfl) ?_
    obtain ⟨q4, hq4, hf⟩ := bnd hf
    refine hcV_i hx hb hml hown hts hKs hT hb0 hH (As := [.int ((wI w3 505 o)), .int a_1]) (rest := []) (k_X5_takesNumber l E K H.size o (wI w3 505 o) a_1 w3 ho hq4) (gV m4_234 m4_236 ms_19 m1_8 m4_237) hd_X5_takesNumber ⟨Nat.le_of_ble_eq_true rfl, Nat.le_of_ble_eq_true rfl, rfl, rfl⟩ rfl ho rfl rfl rfl hl.1 rfl rc0 rfl dX5_takesSpan_25 ⟨Nat.zero_le _, Nat.zero_le _⟩ (fun H locs hH => ?_)
    refine lv_if_ne (tgt := 33) hx hb dX5_takesSpan_28 (by decide) (fun c5 => ?_) (fun c5 => ?_)
    · replace hf := (if_neg c5).symm.trans hf
      refine hl_aload_n hx hb dX5_takesSpan_33 rfl (lv_at hl 0 rfl) ?_
      refine hl_aload_n hx hb dX5_takesSpan_34 rfl (lv_at hl 0 rfl) ?_
      refine g5_4 hx hb hts hown hKs hH rfl ho m2_30 dX5_takesSpan_35 ?_
      obtain ⟨w6, hw6, hf⟩ := bnd hf
      replace hw6 := Option.some.inj hw6
      refine p5_6 (v := (wI q4.2 504 o)) hx hb hts hown hKs hH rfl ho m2_32 dX5_takesSpan_38 (fun H locs hH => ?_)
      rw [hw6] at hH
      refine lv_iconst (v := 1) hx hb dX5_takesSpan_41 (by decide) ?_
      exact hw_zret hx hb hret rfl hf hH hlocks dX5_takesSpan_42
    · replace hf := (if_pos c5).symm.trans hf
      refine lv_iconst (v := 0) hx hb dX5_takesSpan_31 (by decide) ?_
      exact hw_zret hx hb hret rfl hf hH hlocks dX5_takesSpan_32
  · replace hf := (if_pos c2).symm.trans hf
    refine lv_iconst (v := 0) hx hb dX5_takesSpan_9 (by decide) ?_
    exact hw_zret hx hb hret rfl hf hH hlocks dX5_takesSpan_10

theorem dX6_faultOf_0 : decode cX6_faultOf 0 = .ok (.aload_n 1, 1) := by decide +kernel
theorem dX6_faultOf_1 : decode cX6_faultOf 1 = .ok (.getfield 24, 3) := by decide +kernel
theorem dX6_faultOf_4 : decode cX6_faultOf 4 = .ok (.getfield 30, 3) := by decide +kernel
theorem dX6_faultOf_7 : decode cX6_faultOf 7 = .ok (.iload_n 2, 1) := by decide +kernel
theorem dX6_faultOf_8 : decode cX6_faultOf 8 = .ok (.aaload, 1) := by decide +kernel
theorem dX6_faultOf_9 : decode cX6_faultOf 9 = .ok (.astore 7, 2) := by decide +kernel
theorem dX6_faultOf_11 : decode cX6_faultOf 11 = .ok (.iload_n 3, 1) := by decide +kernel
theorem dX6_faultOf_12 : decode cX6_faultOf 12 = .ok (.aload_n 1, 1) := by decide +kernel
theorem dX6_faultOf_13 : decode cX6_faultOf 13 = .ok (.getfield 36, 3) := by decide +kernel
theorem dX6_faultOf_16 : decode cX6_faultOf 16 = .ok (.if_icmp .lt 20, 3) := by decide +kernel
theorem dX6_faultOf_19 : decode cX6_faultOf 19 = .ok (.iload_n 3, 1) := by decide +kernel
theorem dX6_faultOf_20 : decode cX6_faultOf 20 = .ok (.aload 7, 2) := by decide +kernel
theorem dX6_faultOf_22 : decode cX6_faultOf 22 = .ok (.getfield 40, 3) := by decide +kernel
theorem dX6_faultOf_25 : decode cX6_faultOf 25 = .ok (.if_icmp .lt 11, 3) := by decide +kernel
theorem dX6_faultOf_28 : decode cX6_faultOf 28 = .ok (.aload_n 1, 1) := by decide +kernel
theorem dX6_faultOf_29 : decode cX6_faultOf 29 = .ok (.iload_n 3, 1) := by decide +kernel
theorem dX6_faultOf_30 : decode cX6_faultOf 30 = .ok (.invokevirtual 45, 3) := by decide +kernel
theorem dX6_faultOf_33 : decode cX6_faultOf 33 = .ok (.ifCond .ne 5, 3) := by decide +kernel
theorem dX6_faultOf_36 : decode cX6_faultOf 36 = .ok (.iconst 1, 1) := by decide +kernel
theorem dX6_faultOf_37 : decode cX6_faultOf 37 = .ok (.ireturn, 1) := by decide +kernel
theorem dX6_faultOf_38 : decode cX6_faultOf 38 = .ok (.iload_n 3, 1) := by decide +kernel
theorem dX6_faultOf_39 : decode cX6_faultOf 39 = .ok (.aload_n 1, 1) := by decide +kernel
theorem dX6_faultOf_40 : decode cX6_faultOf 40 = .ok (.iload_n 2, 1) := by decide +kernel
theorem dX6_faultOf_41 : decode cX6_faultOf 41 = .ok (.invokevirtual 49, 3) := by decide +kernel
theorem dX6_faultOf_44 : decode cX6_faultOf 44 = .ok (.if_icmp .le 5, 3) := by decide +kernel
theorem dX6_faultOf_47 : decode cX6_faultOf 47 = .ok (.iconst 2, 1) := by decide +kernel
theorem dX6_faultOf_48 : decode cX6_faultOf 48 = .ok (.ireturn, 1) := by decide +kernel
theorem dX6_faultOf_49 : decode cX6_faultOf 49 = .ok (.aload_n 0, 1) := by decide +kernel
theorem dX6_faultOf_50 : decode cX6_faultOf 50 = .ok (.aload_n 1, 1) := by decide +kernel
theorem dX6_faultOf_51 : decode cX6_faultOf 51 = .ok (.iload_n 2, 1) := by decide +kernel
theorem dX6_faultOf_52 : decode cX6_faultOf 52 = .ok (.invokevirtual 53, 3) := by decide +kernel
theorem dX6_faultOf_55 : decode cX6_faultOf 55 = .ok (.aload_n 0, 1) := by decide +kernel
theorem dX6_faultOf_56 : decode cX6_faultOf 56 = .ok (.aload_n 1, 1) := by decide +kernel
theorem dX6_faultOf_57 : decode cX6_faultOf 57 = .ok (.iload_n 2, 1) := by decide +kernel
theorem dX6_faultOf_58 : decode cX6_faultOf 58 = .ok (.iload_n 3, 1) := by decide +kernel
theorem dX6_faultOf_59 : decode cX6_faultOf 59 = .ok (.iconst 0, 1) := by decide +kernel
theorem dX6_faultOf_60 : decode cX6_faultOf 60 = .ok (.invokevirtual 57, 3) := by decide +kernel
theorem dX6_faultOf_63 : decode cX6_faultOf 63 = .ok (.iload 4, 2) := by decide +kernel
theorem dX6_faultOf_65 : decode cX6_faultOf 65 = .ok (.aload 7, 2) := by decide +kernel
theorem dX6_faultOf_67 : decode cX6_faultOf 67 = .ok (.getfield 61, 3) := by decide +kernel
theorem dX6_faultOf_70 : decode cX6_faultOf 70 = .ok (.invokestatic 64, 3) := by decide +kernel
theorem dX6_faultOf_73 : decode cX6_faultOf 73 = .ok (.istore 8, 2) := by decide +kernel
theorem dX6_faultOf_75 : decode cX6_faultOf 75 = .ok (.iload 8, 2) := by decide +kernel
theorem dX6_faultOf_77 : decode cX6_faultOf 77 = .ok (.aload_n 1, 1) := by decide +kernel
theorem dX6_faultOf_78 : decode cX6_faultOf 78 = .ok (.getfield 24, 3) := by decide +kernel
theorem dX6_faultOf_81 : decode cX6_faultOf 81 = .ok (.getfield 68, 3) := by decide +kernel
theorem dX6_faultOf_84 : decode cX6_faultOf 84 = .ok (.iload 5, 2) := by decide +kernel
theorem dX6_faultOf_86 : decode cX6_faultOf 86 = .ok (.iaload, 1) := by decide +kernel
theorem dX6_faultOf_87 : decode cX6_faultOf 87 = .ok (.iconst (-1), 1) := by decide +kernel
theorem dX6_faultOf_88 : decode cX6_faultOf 88 = .ok (.ixor, 1) := by decide +kernel
theorem dX6_faultOf_89 : decode cX6_faultOf 89 = .ok (.iand, 1) := by decide +kernel
theorem dX6_faultOf_90 : decode cX6_faultOf 90 = .ok (.ifCond .eq 5, 3) := by decide +kernel
theorem dX6_faultOf_93 : decode cX6_faultOf 93 = .ok (.iconst 3, 1) := by decide +kernel
theorem dX6_faultOf_94 : decode cX6_faultOf 94 = .ok (.ireturn, 1) := by decide +kernel
theorem dX6_faultOf_95 : decode cX6_faultOf 95 = .ok (.iload 8, 2) := by decide +kernel
theorem dX6_faultOf_97 : decode cX6_faultOf 97 = .ok (.aload_n 0, 1) := by decide +kernel
theorem dX6_faultOf_98 : decode cX6_faultOf 98 = .ok (.getfield 9, 3) := by decide +kernel
theorem dX6_faultOf_101 : decode cX6_faultOf 101 = .ok (.iload 5, 2) := by decide +kernel
theorem dX6_faultOf_103 : decode cX6_faultOf 103 = .ok (.iaload, 1) := by decide +kernel
theorem dX6_faultOf_104 : decode cX6_faultOf 104 = .ok (.iand, 1) := by decide +kernel
theorem dX6_faultOf_105 : decode cX6_faultOf 105 = .ok (.ifCond .eq 5, 3) := by decide +kernel
theorem dX6_faultOf_108 : decode cX6_faultOf 108 = .ok (.iconst 4, 1) := by decide +kernel
theorem dX6_faultOf_109 : decode cX6_faultOf 109 = .ok (.ireturn, 1) := by decide +kernel
theorem dX6_faultOf_110 : decode cX6_faultOf 110 = .ok (.aload_n 0, 1) := by decide +kernel
theorem dX6_faultOf_111 : decode cX6_faultOf 111 = .ok (.getfield 71, 3) := by decide +kernel
theorem dX6_faultOf_114 : decode cX6_faultOf 114 = .ok (.iload 6, 2) := by decide +kernel
theorem dX6_faultOf_116 : decode cX6_faultOf 116 = .ok (.invokestatic 74, 3) := by decide +kernel
theorem dX6_faultOf_119 : decode cX6_faultOf 119 = .ok (.ifCond .eq 5, 3) := by decide +kernel
theorem dX6_faultOf_122 : decode cX6_faultOf 122 = .ok (.iconst 5, 1) := by decide +kernel
theorem dX6_faultOf_123 : decode cX6_faultOf 123 = .ok (.ireturn, 1) := by decide +kernel
theorem dX6_faultOf_124 : decode cX6_faultOf 124 = .ok (.iload 8, 2) := by decide +kernel
theorem dX6_faultOf_126 : decode cX6_faultOf 126 = .ok (.aload_n 0, 1) := by decide +kernel
theorem dX6_faultOf_127 : decode cX6_faultOf 127 = .ok (.getfield 15, 3) := by decide +kernel
theorem dX6_faultOf_130 : decode cX6_faultOf 130 = .ok (.iload 6, 2) := by decide +kernel
theorem dX6_faultOf_132 : decode cX6_faultOf 132 = .ok (.iaload, 1) := by decide +kernel
theorem dX6_faultOf_133 : decode cX6_faultOf 133 = .ok (.iand, 1) := by decide +kernel
theorem dX6_faultOf_134 : decode cX6_faultOf 134 = .ok (.ifCond .eq 6, 3) := by decide +kernel
theorem dX6_faultOf_137 : decode cX6_faultOf 137 = .ok (.bipush 6, 2) := by decide +kernel
theorem dX6_faultOf_139 : decode cX6_faultOf 139 = .ok (.ireturn, 1) := by decide +kernel
theorem dX6_faultOf_140 : decode cX6_faultOf 140 = .ok (.aload_n 0, 1) := by decide +kernel
theorem dX6_faultOf_141 : decode cX6_faultOf 141 = .ok (.getfield 78, 3) := by decide +kernel
theorem dX6_faultOf_144 : decode cX6_faultOf 144 = .ok (.iload 6, 2) := by decide +kernel
theorem dX6_faultOf_146 : decode cX6_faultOf 146 = .ok (.invokestatic 74, 3) := by decide +kernel
theorem dX6_faultOf_149 : decode cX6_faultOf 149 = .ok (.ifCond .eq 6, 3) := by decide +kernel
theorem dX6_faultOf_152 : decode cX6_faultOf 152 = .ok (.bipush 7, 2) := by decide +kernel
theorem dX6_faultOf_154 : decode cX6_faultOf 154 = .ok (.ireturn, 1) := by decide +kernel
theorem dX6_faultOf_155 : decode cX6_faultOf 155 = .ok (.iload 8, 2) := by decide +kernel
theorem dX6_faultOf_157 : decode cX6_faultOf 157 = .ok (.aload_n 0, 1) := by decide +kernel
theorem dX6_faultOf_158 : decode cX6_faultOf 158 = .ok (.getfield 81, 3) := by decide +kernel
theorem dX6_faultOf_161 : decode cX6_faultOf 161 = .ok (.iand, 1) := by decide +kernel
theorem dX6_faultOf_162 : decode cX6_faultOf 162 = .ok (.ifCond .eq 6, 3) := by decide +kernel
theorem dX6_faultOf_165 : decode cX6_faultOf 165 = .ok (.bipush 8, 2) := by decide +kernel
theorem dX6_faultOf_167 : decode cX6_faultOf 167 = .ok (.ireturn, 1) := by decide +kernel
theorem dX6_faultOf_168 : decode cX6_faultOf 168 = .ok (.iload 8, 2) := by decide +kernel
theorem dX6_faultOf_170 : decode cX6_faultOf 170 = .ok (.aload_n 0, 1) := by decide +kernel
theorem dX6_faultOf_171 : decode cX6_faultOf 171 = .ok (.getfield 84, 3) := by decide +kernel
theorem dX6_faultOf_174 : decode cX6_faultOf 174 = .ok (.iand, 1) := by decide +kernel
theorem dX6_faultOf_175 : decode cX6_faultOf 175 = .ok (.ifCond .eq 8, 3) := by decide +kernel
theorem dX6_faultOf_178 : decode cX6_faultOf 178 = .ok (.bipush 9, 2) := by decide +kernel
theorem dX6_faultOf_180 : decode cX6_faultOf 180 = .ok (.goto 4, 3) := by decide +kernel
theorem dX6_faultOf_183 : decode cX6_faultOf 183 = .ok (.iconst 0, 1) := by decide +kernel
theorem dX6_faultOf_184 : decode cX6_faultOf 184 = .ok (.ireturn, 1) := by decide +kernel
theorem hd_X6_faultOf : yX6_faultOf.cls = RX6 ∧ yX6_faultOf.cls ≠ "java/lang/invoke/MethodHandle" ∧ yX6_faultOf.cls ≠ "java/lang/invoke/VarHandle" ∧ (parseMethodDescriptor yX6_faultOf.desc).map (fun d => d.parameters.length) = some 6 := by decide +kernel
theorem hs_X6_faultOf : yX6_faultOf.cls ≠ "java/lang/invoke/MethodHandle" ∧ yX6_faultOf.cls ≠ "java/lang/invoke/VarHandle" ∧ (parseMethodDescriptor yX6_faultOf.desc).map (fun d => d.parameters.length) = some 6 := by decide +kernel
set_option maxHeartbeats 4000000 in
set_option maxRecDepth 100000 in
theorem k_X6_faultOf (l : Launch) (E : Ev) (K : Kd) (z : Nat) (o : Nat) (a_1 : Option Nat) (a_2 : Int32) (a_3 : Int32) (a_4 : Int32) (a_5 : Int32) (a_6 : Int32) (w : Wd) (ho : K o = some (5, 0)) {r : Int32} {w' : Wd} (hf : f_X6_faultOf K o a_1 a_2 a_3 a_4 a_5 a_6 w = some (r, w')) : Met l yX6_faultOf (Cond.code yX6_faultOf cX6_faultOf 9 (Option.some Jvm.ClassFile.FieldType.int) :: bt) ({ frames := 3, cells := 0, slots := 0, locals := 76 } : Room) (va_Pc [rv E (some o), rv E a_1, .int a_2, .int a_3, .int a_4, .int a_5, .int a_6] (HB E K w z)) (QI E K z w' r) 0 0 (hA E) := by
  refine Met.ofW (cc := cX6_faultOf) (maxL := 9) (ret := (Option.some Jvm.ClassFile.FieldType.int)) (by decide) rfl ?_
  intro p e s m args below meth c s₁ B hml hv
  obtain ⟨rfl, hz, hP, hKs, hT, hb0⟩ := hv
  have C : CX p l e s m _ meth c cX6_faultOf 9 RX6 (Option.some Jvm.ClassFile.FieldType.int) E := ⟨B.exec, B.bytes, hml, findClass_of_methodNamed B.named, fun w h => atoms_spec (ws := Cond.code yX6_faultOf cX6_faultOf 9 (Option.some Jvm.ClassFile.FieldType.int) :: bt) B.pre w (List.mem_cons_of_mem _ h), hKs, hT, by rw [hz]; exact hb0, B.notSynchronized, B.returns⟩
  have hH : HQ E K z w s s.heap [] := ⟨hP, va_S.rf, hz⟩
  obtain ⟨hx, hb, hml, hown, hts, hKs, hT, hb0, hlocks, hret⟩ := id C
  have hl := lv_entry [rv E (some o), rv E a_1, .int a_2, .int a_3, .int a_4, .int a_5, .int a_6] (n := 9) (by simp [lg_len_nil, lg_len_i, lg_len_j, lg_len_q, lg_len_f, lg_len_d, lg_len_r])
  rw [lg_entry_eq]
  generalize (lg_sl [rv E (some o), rv E a_1, .int a_2, .int a_3, .int a_4, .int a_5, .int a_6] ++ List.replicate (9 - (lg_sl [rv E (some o), rv E a_1, .int a_2, .int a_3, .int a_4, .int a_5, .int a_6]).length) Slot.unset).toArray = ls at hl ⊢
  replace hl : lv_has ls 9 [(0, rv E (some o)), (1, rv E a_1), (2, .int a_2), (3, .int a_3), (4, .int a_4), (5, .int a_5), (6, .int a_6)] := by simpa only [lv_args, cat_q, cat_i, cat_j, reduceIte, Nat.reduceEqDiff, Nat.reduceAdd, Nat.zero_add] using hl
  generalize s.heap = H at hH ⊢
  unfold f_X6_faultOf at hf
  refine hl_aload_n hx hb dX6_faultOf_0 rfl (lv_at hl 1 rfl) ?_
  obtain ⟨a1, ha1, hf⟩ := bnd hf
  replace ha1 := chk_some ha1
  refine gn10_0 hx hb hts hown hKs hH ha1.1 ha1.2 m2_114 dX6_faultOf_1 ?_
  obtain ⟨a2, ha2, hf⟩ := bnd hf
  replace ha2 := chk_some ha2
  refine gn9_9 hx hb hts hown hKs hH ha2.1 ha2.2 m1_172 dX6_faultOf_4 ?_
  refine lv_iload_n hx hb dX6_faultOf_7 rfl (lv_at hl 2 rfl) ?_
  obtain ⟨a3, ha3, hf⟩ := bnd hf
  replace ha3 := cha_some ha3
  obtain ⟨j4, hj4, hf⟩ := bnd hf
  refine hw_aald25 hx hb hKs hH ha3.1 ha3.2 hj4 dX6_faultOf_8 ?_
  refine hl_astore (i := 7) (lv' := [(7, rv E (aR w a3.1 j4)), (0, rv E (some o)), (1, rv E a_1), (2, .int a_2), (3, .int a_3), (4, .int a_4), (5, .int a_5), (6, .int a_6)]) hx hb dX6_faultOf_9 hl (by decide) rfl (fun ls hl => ?_)
  refine lv_iload_n hx hb dX6_faultOf_11 rfl (lv_at hl 4 rfl) ?_
  refine hl_aload_n hx hb dX6_faultOf_12 rfl (lv_at hl 2 rfl) ?_
  refine gn10_1 hx hb hts hown hKs hH ha1.1 ha1.2 m2_117 dX6_faultOf_13 ?_
  refine lv_icmp_lt (tgt := 36) hx hb dX6_faultOf_16 (by decide) (fun c5 => ?_) (fun c5 => ?_)
  · replace hf := (if_pos c5).symm.trans hf
    refine lv_iconst (v := 1) hx hb dX6_faultOf_36 (by decide) ?_
    exact hw_iret hx hb hret hf hH hlocks dX6_faultOf_37
  · replace hf := (if_neg c5).symm.trans hf
    refine lv_iload_n hx hb dX6_faultOf_19 rfl (lv_at hl 4 rfl) ?_
    refine hl_aload hx hb dX6_faultOf_20 (lv_at hl 0 rfl) ?_
    obtain ⟨a6, ha6, hf⟩ := bnd hf
    replace ha6 := chk_some ha6
    refine gn3_0 hx hb hts hown hKs hH ha6.1 ha6.2 m1_91 dX6_faultOf_22 ?_
    refine lv_icmp_lt (tgt := 36) hx hb dX6_faultOf_25 (by decide) (fun c7 => ?_) (fun c7 => ?_)
    · replace hf := (if_pos c7).symm.trans hf
      refine lv_iconst (v := 1) hx hb dX6_faultOf_36 (by decide) ?_
      exact hw_iret hx hb hret hf hH hlocks dX6_faultOf_37
    · replace hf := (if_neg c7).symm.trans hf
      refine hl_aload_n hx hb dX6_faultOf_28 rfl (lv_at hl 2 rfl) ?_
      refine lv_iload_n hx hb dX6_faultOf_29 rfl (lv_at hl 4 rfl) ?_
      obtain ⟨q8, hq8, hf⟩ := bnd hf
      refine hcV_i hx hb hml hown hts hKs hT hb0 hH (As := [.int a_3]) (rest := []) (k_X10_works l E K H.size a1 a_3 w ha1.2 hq8) (gV m3_210 m3_149 m3_150 m1_12 m3_151) hd_X10_works ⟨Nat.le_of_ble_eq_true rfl, Nat.le_of_ble_eq_true rfl, rfl, rfl⟩ ha1.1 ha1.2 rfl rfl rfl hl.1 rfl rc0 rfl dX6_faultOf_30 ⟨Nat.zero_le _, Nat.zero_le _⟩ (fun H locs hH => ?_)
      refine lv_if_ne (tgt := 38) hx hb dX6_faultOf_33 (by decide) (fun c9 => ?_) (fun c9 => ?_)
      · replace hf := (if_neg c9).symm.trans hf
        refine lv_iload_n hx hb dX6_faultOf_38 rfl (lv_at hl 4 rfl) ?_
        refine hl_aload_n hx hb dX6_faultOf_39 rfl (lv_at hl 2 rfl) ?_
        refine lv_iload_n hx hb dX6_faultOf_40 rfl (lv_at hl 3 rfl) ?_
        obtain ⟨q10, hq10, hf⟩ := bnd hf
        refine hcV_i hx hb hml hown hts hKs hT hb0 hH (As := [.int a_2]) (rest := [.int a_3]) (k_X10_limitDay l E K H.size a1 a_2 q8.2 ha1.2 hq10) (gV m3_198 m3_145 m3_146 m1_12 m3_147) hd_X10_limitDay ⟨Nat.le_of_ble_eq_true rfl, Nat.le_of_ble_eq_true rfl, rfl, rfl⟩ ha1.1 ha1.2 rfl rfl rfl hl.1 rfl (rcI rc0) rfl dX6_faultOf_41 ⟨Nat.zero_le _, Nat.zero_le _⟩ (fun H locs hH => ?_)
        refine lv_icmp_le (tgt := 49) hx hb dX6_faultOf_44 (by decide) (fun c11 => ?_) (fun c11 => ?_)
        · replace hf := (if_pos c11).symm.trans hf
          refine hl_aload_n hx hb dX6_faultOf_49 rfl (lv_at hl 1 rfl) ?_
          refine hl_aload_n hx hb dX6_faultOf_50 rfl (lv_at hl 2 rfl) ?_
          refine lv_iload_n hx hb dX6_faultOf_51 rfl (lv_at hl 3 rfl) ?_
          obtain ⟨q12, hq12, hf⟩ := bnd hf
          refine hcV_v hx hb hml hown hts hKs hT hb0 hH (As := [rv E a_1, .int a_2]) (rest := []) (k_X6_lookAtOfficers l E K H.size o a_1 a_2 q10.2 ho hq12) (gV m3_179 m3_181 ms_4 m1_14 m3_182) hd_X6_lookAtOfficers ⟨Nat.le_of_ble_eq_true rfl, Nat.le_of_ble_eq_true rfl, rfl, rfl⟩ rfl ho rfl rfl rfl hl.1 rfl rc0 rfl dX6_faultOf_52 ⟨Nat.zero_le _, Nat.zero_le _⟩ (fun H locs hH => ?_)
          refine hl_aload_n hx hb dX6_faultOf_55 rfl (lv_at hl 1 rfl) ?_
          refine hl_aload_n hx hb dX6_faultOf_56 rfl (lv_at hl 2 rfl) ?_
          refine lv_iload_n hx hb dX6_faultOf_57 rfl (lv_at hl 3 rfl) ?_
          refine lv_iload_n hx hb dX6_faultOf_58 rfl (lv_at hl 4 rfl) ?_
          refine lv_iconst (v := 0) hx hb dX6_faultOf_59 (by decide) ?_
          obtain ⟨q13, hq13, hf⟩ := bnd hf
          refine hcV_v hx hb hml hown hts hKs hT hb0 hH (As := [rv E a_1, .int a_2, .int a_3, .int 0]) (rest := []) (k_X6_lookAtDay l E K H.size o a_1 a_2 a_3 0 q12 ho hq13) (gV m3_211 m3_213 ms_6 m1_14 m3_214) hd_X6_lookAtDay ⟨Nat.le_of_ble_eq_true rfl, Nat.le_of_ble_eq_true rfl, rfl, rfl⟩ rfl ho rfl rfl rfl hl.1 rfl rc0 rfl dX6_faultOf_60 ⟨Nat.zero_le _, Nat.zero_le _⟩ (fun H locs hH => ?_)
          refine lv_iload hx hb dX6_faultOf_63 (lv_at hl 5 rfl) ?_
          refine hl_aload hx hb dX6_faultOf_65 (lv_at hl 0 rfl) ?_
          refine gn3_1 hx hb hts hown hKs hH ha6.1 ha6.2 m1_96 dX6_faultOf_67 ?_
          obtain ⟨q14, hq14, hf⟩ := bnd hf
          refine hcM_i hx hb hml hown hts hKs hT hb0 hH (As := [.int a_4, .int ((wI q13 301 a6))]) (rest := []) (k_X12_slotSet l E K H.size a_4 (wI q13 301 a6) q13 hq14) m4_2 m3_229 m1_1 m3_230 hs_X12_slotSet ⟨Nat.le_of_ble_eq_true rfl, Nat.le_of_ble_eq_true rfl, rfl, rfl⟩ hl.1 rfl rc0 rfl dX6_faultOf_70 ⟨Nat.zero_le _, Nat.zero_le _⟩ (fun H locs hH => ?_)
          refine lv_istore (i := 8) (lv' := [(8, .int (q14.1)), (7, rv E (aR w a3.1 j4)), (0, rv E (some o)), (1, rv E a_1), (2, .int a_2), (3, .int a_3), (4, .int a_4), (5, .int a_5), (6, .int a_6)]) hx hb dX6_faultOf_73 hl (by decide) (by simp [List.filter_cons, cat_q, cat_i, cat_j, imax, imin]) (fun ls hl => ?_)
          refine lv_iload hx hb dX6_faultOf_75 (lv_at hl 0 rfl) ?_
          refine hl_aload_n hx hb dX6_faultOf_77 rfl (lv_at hl 3 rfl) ?_
          refine gn10_0 hx hb hts hown hKs hH ha1.1 ha1.2 m2_114 dX6_faultOf_78 ?_
          obtain ⟨a15, ha15, hf⟩ := bnd hf
          replace ha15 := chk_some ha15
          refine gn9_1 hx hb hts hown hKs hH ha15.1 ha15.2 m1_154 dX6_faultOf_81 ?_
          refine lv_iload hx hb dX6_faultOf_84 (lv_at hl 7 rfl) ?_
          obtain ⟨a16, ha16, hf⟩ := bnd hf
          replace ha16 := cha_some ha16
          obtain ⟨j17, hj17, hf⟩ := bnd hf
          refine hw_iald hx hb hKs hH ha16.1 ha16.2 hj17 dX6_faultOf_86 ?_
          refine lv_iconst (v := (-1)) hx hb dX6_faultOf_87 (by decide) ?_
          refine lv_ixor hx hb dX6_faultOf_88 ?_
          refine lv_iand hx hb dX6_faultOf_89 ?_
          refine lv_if_eq (tgt := 95) hx hb dX6_faultOf_90 (by decide) (fun c18 => ?_) (fun c18 => ?_)
          · replace hf := (if_pos c18).symm.trans hf
            refine lv_iload hx hb dX6_faultOf_95 (lv_at hl 0 rfl) ?_
            refine hl_aload_n hx hb dX6_faultOf_97 rfl (lv_at hl 2 rfl) ?_
            refine g6_0 hx hb hts hown hKs hH rfl ho m2_148 dX6_faultOf_98 ?_
            refine lv_iload hx hb dX6_faultOf_101 (lv_at hl 7 rfl) ?_
            obtain ⟨a19, ha19, hf⟩ := bnd hf
            replace ha19 := cha_some ha19
            obtain ⟨j20, hj20, hf⟩ := bnd hf
            refine hw_iald hx hb hKs hH ha19.1 ha19.2 hj20 dX6_faultOf_103 ?_
            refine lv_iand hx hb dX6_faultOf_104 ?_
            refine lv_if_eq (tgt := 110) hx hb dX6_faultOf_105 (by decide) (fun c21 => ?_) (fun c21 => ?_)
            · replace hf := (if_pos c21).symm.trans hf
              refine hl_aload_n hx hb dX6_faultOf_110 rfl (lv_at hl 2 rfl) ?_
              refine g6_5 hx hb hts hown hKs hH rfl ho m2_153 dX6_faultOf_111 ?_
              refine lv_iload hx hb dX6_faultOf_114 (lv_at hl 8 rfl) ?_
              obtain ⟨q22, hq22, hf⟩ := bnd hf
              refine hcM_i hx hb hml hown hts hKs hT hb0 hH (As := [.int ((wI q14.2 605 o)), .int a_6]) (rest := []) (k_X12_has l E K H.size (wI q14.2 605 o) a_6 q14.2 hq22) m4_11 m3_188 m1_1 m3_189 hs_X12_has ⟨Nat.le_of_ble_eq_true rfl, Nat.le_of_ble_eq_true rfl, rfl, rfl⟩ hl.1 rfl rc0 rfl dX6_faultOf_116 ⟨Nat.zero_le _, Nat.zero_le _⟩ (fun H locs hH => ?_)
              refine lv_if_eq (tgt := 124) hx hb dX6_faultOf_119 (by decide) (fun c23 => ?_) (fun c23 => ?_)
              · replace hf := (if_pos c23).symm.trans hf
                refine lv_iload hx hb dX6_faultOf_124 (lv_at hl 0 rfl) ?_
                refine hl_aload_n hx hb dX6_faultOf_126 rfl (lv_at hl 2 rfl) ?_
                refine g6_1 hx hb hts hown hKs hH rfl ho m2_149 dX6_faultOf_127 ?_
                refine lv_iload hx hb dX6_faultOf_130 (lv_at hl 8 rfl) ?_
                obtain ⟨a24, ha24, hf⟩ := bnd hf
                replace ha24 := cha_some ha24
                obtain ⟨j25, hj25, hf⟩ := bnd hf
                refine hw_iald hx hb hKs hH ha24.1 ha24.2 hj25 dX6_faultOf_132 ?_
                refine lv_iand hx hb dX6_faultOf_133 ?_
                refine lv_if_eq (tgt := 140) hx hb dX6_faultOf_134 (by decide) (fun c26 => ?_) (fun c26 => ?_)
                · replace hf := (if_pos c26).symm.trans hf
                  refine hl_aload_n hx hb dX6_faultOf_140 rfl (lv_at hl 2 rfl) ?_
                  refine g6_4 hx hb hts hown hKs hH rfl ho m2_152 dX6_faultOf_141 ?_
                  refine lv_iload hx hb dX6_faultOf_144 (lv_at hl 8 rfl) ?_
                  obtain ⟨q27, hq27, hf⟩ := bnd hf
                  refine hcM_i hx hb hml hown hts hKs hT hb0 hH (As := [.int ((wI q22.2 604 o)), .int a_6]) (rest := []) (k_X12_has l E K H.size (wI q22.2 604 o) a_6 q22.2 hq27) m4_11 m3_188 m1_1 m3_189 hs_X12_has ⟨Nat.le_of_ble_eq_true rfl, Nat.le_of_ble_eq_true rfl, rfl, rfl⟩ hl.1 rfl rc0 rfl dX6_faultOf_146 ⟨Nat.zero_le _, Nat.zero_le _⟩ (fun H locs hH => ?_)
                  refine lv_if_eq (tgt := 155) hx hb dX6_faultOf_149 (by decide) (fun c28 => ?_) (fun c28 => ?_)
                  · replace hf := (if_pos c28).symm.trans hf
                    refine lv_iload hx hb dX6_faultOf_155 (lv_at hl 0 rfl) ?_
                    refine hl_aload_n hx hb dX6_faultOf_157 rfl (lv_at hl 2 rfl) ?_
                    refine g6_6 hx hb hts hown hKs hH rfl ho m2_154 dX6_faultOf_158 ?_
                    refine lv_iand hx hb dX6_faultOf_161 ?_
                    refine lv_if_eq (tgt := 168) hx hb dX6_faultOf_162 (by decide) (fun c29 => ?_) (fun c29 => ?_)
                    · replace hf := (if_pos c29).symm.trans hf
                      refine lv_iload hx hb dX6_faultOf_168 (lv_at hl 0 rfl) ?_
                      refine hl_aload_n hx hb dX6_faultOf_170 rfl (lv_at hl 2 rfl) ?_
                      refine g6_7 hx hb hts hown hKs hH rfl ho m2_155 dX6_faultOf_171 ?_
                      refine lv_iand hx hb dX6_faultOf_174 ?_
                      refine lv_if_eq (tgt := 183) hx hb dX6_faultOf_175 (by decide) (fun c30 => ?_) (fun c30 => ?_)
                      · replace hf := (if_pos c30).symm.trans hf
                        refine lv_iconst (v := 0) hx hb dX6_faultOf_183 (by decide) ?_
                        exact hw_iret hx hb hret hf hH hlocks dX6_faultOf_184
                      · replace hf := (if_neg c30).symm.trans hf
                        refine lv_bipush (v := 9) hx hb dX6_faultOf_178 (by decide) ?_
                        refine lv_goto (tgt := 184) hx hb dX6_faultOf_180 (by decide) ?_
                        exact hw_iret hx hb hret hf hH hlocks dX6_faultOf_184
                    · replace hf := (if_neg c29).symm.trans hf
                      refine lv_bipush (v := 8) hx hb dX6_faultOf_165 (by decide) ?_
                      exact hw_iret hx hb hret hf hH hlocks dX6_faultOf_167
                  · replace hf := (if_neg c28).symm.trans hf
                    refine lv_bipush (v := 7) hx hb dX6_faultOf_152 (by decide) ?_
                    exact hw_iret hx hb hret hf hH hlocks dX6_faultOf_154
                · replace hf := (if_neg c26).symm.trans hf
                  refine lv_bipush (v := 6) hx hb dX6_faultOf_137 (by decide) ?_
                  exact hw_iret hx hb hret hf hH hlocks dX6_faultOf_139
              · replace hf := (if_neg c23).symm.trans hf
                refine lv_iconst (v := 5) hx hb dX6_faultOf_122 (by decide) ?_
                exact hw_iret hx hb hret hf hH hlocks dX6_faultOf_123
            · replace hf := (if_neg c21).symm.trans hf
              refine lv_iconst (v := 4) hx hb dX6_faultOf_108 (by decide) ?_
              exact hw_iret hx hb hret hf hH hlocks dX6_faultOf_109
          · replace hf := (if_neg c18).symm.trans hf
            refine lv_iconst (v := 3) hx hb dX6_faultOf_93 (by decide) ?_
            exact hw_iret hx hb hret hf hH hlocks dX6_faultOf_94
        · replace hf := (if_neg c11).symm.trans hf
          refine lv_iconst (v := 2) hx hb dX6_faultOf_47 (by decide) ?_
          exact hw_iret hx hb hret hf hH hlocks dX6_faultOf_48
      · replace hf := (if_pos c9).symm.trans hf
        refine lv_iconst (v := 1) hx hb dX6_faultOf_36 (by decide) ?_
        exact hw_iret hx hb hret hf hH hlocks dX6_faultOf_37

theorem dX6_findOn_0 : decode cX6_findOn 0 = .ok (.aload_n 1, 1) := by decide +kernel
theorem dX6_findOn_1 : decode cX6_findOn 1 = .ok (.iload_n 3, 1) := by decide +kernel
theorem dX6_findOn_2 : decode cX6_findOn 2 = .ok (.invokevirtual 45, 3) := by decide +kernel
theorem dX6_findOn_5 : decode cX6_findOn 5 = .ok (.ifCond .ne 5, 3) := by decide +kernel
theorem dX6_findOn_8 : decode cX6_findOn 8 = .ok (.iconst 0, 1) := by decide +kernel
theorem dX6_findOn_9 : decode cX6_findOn 9 = .ok (.ireturn, 1) := by decide +kernel
theorem dX6_findOn_10 : decode cX6_findOn 10 = .ok (.aload_n 0, 1) := by decide +kernel
theorem dX6_findOn_11 : decode cX6_findOn 11 = .ok (.aload_n 1, 1) := by decide +kernel
theorem dX6_findOn_12 : decode cX6_findOn 12 = .ok (.iload_n 2, 1) := by decide +kernel
theorem dX6_findOn_13 : decode cX6_findOn 13 = .ok (.iload_n 3, 1) := by decide +kernel
theorem dX6_findOn_14 : decode cX6_findOn 14 = .ok (.iload 4, 2) := by decide +kernel
theorem dX6_findOn_16 : decode cX6_findOn 16 = .ok (.invokevirtual 57, 3) := by decide +kernel
theorem dX6_findOn_19 : decode cX6_findOn 19 = .ok (.aload_n 1, 1) := by decide +kernel
theorem dX6_findOn_20 : decode cX6_findOn 20 = .ok (.getfield 24, 3) := by decide +kernel
theorem dX6_findOn_23 : decode cX6_findOn 23 = .ok (.getfield 30, 3) := by decide +kernel
theorem dX6_findOn_26 : decode cX6_findOn 26 = .ok (.iload_n 2, 1) := by decide +kernel
theorem dX6_findOn_27 : decode cX6_findOn 27 = .ok (.aaload, 1) := by decide +kernel
theorem dX6_findOn_28 : decode cX6_findOn 28 = .ok (.getfield 61, 3) := by decide +kernel
theorem dX6_findOn_31 : decode cX6_findOn 31 = .ok (.istore 5, 2) := by decide +kernel
theorem dX6_findOn_33 : decode cX6_findOn 33 = .ok (.iconst 0, 1) := by decide +kernel
theorem dX6_findOn_34 : decode cX6_findOn 34 = .ok (.istore 6, 2) := by decide +kernel
theorem dX6_findOn_36 : decode cX6_findOn 36 = .ok (.iload 6, 2) := by decide +kernel
theorem dX6_findOn_38 : decode cX6_findOn 38 = .ok (.iload 5, 2) := by decide +kernel
theorem dX6_findOn_40 : decode cX6_findOn 40 = .ok (.iadd, 1) := by decide +kernel
theorem dX6_findOn_41 : decode cX6_findOn 41 = .ok (.bipush 8, 2) := by decide +kernel
theorem dX6_findOn_43 : decode cX6_findOn 43 = .ok (.if_icmp .gt 59, 3) := by decide +kernel
theorem dX6_findOn_46 : decode cX6_findOn 46 = .ok (.iload 6, 2) := by decide +kernel
theorem dX6_findOn_48 : decode cX6_findOn 48 = .ok (.iload 5, 2) := by decide +kernel
theorem dX6_findOn_50 : decode cX6_findOn 50 = .ok (.invokestatic 64, 3) := by decide +kernel
theorem dX6_findOn_53 : decode cX6_findOn 53 = .ok (.istore 7, 2) := by decide +kernel
theorem dX6_findOn_55 : decode cX6_findOn 55 = .ok (.iload 7, 2) := by decide +kernel
theorem dX6_findOn_57 : decode cX6_findOn 57 = .ok (.aload_n 0, 1) := by decide +kernel
theorem dX6_findOn_58 : decode cX6_findOn 58 = .ok (.getfield 81, 3) := by decide +kernel
theorem dX6_findOn_61 : decode cX6_findOn 61 = .ok (.aload_n 0, 1) := by decide +kernel
theorem dX6_findOn_62 : decode cX6_findOn 62 = .ok (.getfield 84, 3) := by decide +kernel
theorem dX6_findOn_65 : decode cX6_findOn 65 = .ok (.ior, 1) := by decide +kernel
theorem dX6_findOn_66 : decode cX6_findOn 66 = .ok (.iand, 1) := by decide +kernel
theorem dX6_findOn_67 : decode cX6_findOn 67 = .ok (.ifCond .ne 29, 3) := by decide +kernel
theorem dX6_findOn_70 : decode cX6_findOn 70 = .ok (.aload_n 0, 1) := by decide +kernel
theorem dX6_findOn_71 : decode cX6_findOn 71 = .ok (.aload_n 1, 1) := by decide +kernel
theorem dX6_findOn_72 : decode cX6_findOn 72 = .ok (.getfield 24, 3) := by decide +kernel
theorem dX6_findOn_75 : decode cX6_findOn 75 = .ok (.iload 7, 2) := by decide +kernel
theorem dX6_findOn_77 : decode cX6_findOn 77 = .ok (.invokevirtual 137, 3) := by decide +kernel
theorem dX6_findOn_80 : decode cX6_findOn 80 = .ok (.ifCond .eq 16, 3) := by decide +kernel
theorem dX6_findOn_83 : decode cX6_findOn 83 = .ok (.aload_n 0, 1) := by decide +kernel
theorem dX6_findOn_84 : decode cX6_findOn 84 = .ok (.iload_n 3, 1) := by decide +kernel
theorem dX6_findOn_85 : decode cX6_findOn 85 = .ok (.putfield 102, 3) := by decide +kernel
theorem dX6_findOn_88 : decode cX6_findOn 88 = .ok (.aload_n 0, 1) := by decide +kernel
theorem dX6_findOn_89 : decode cX6_findOn 89 = .ok (.iload 6, 2) := by decide +kernel
theorem dX6_findOn_91 : decode cX6_findOn 91 = .ok (.putfield 103, 3) := by decide +kernel
theorem dX6_findOn_94 : decode cX6_findOn 94 = .ok (.iconst 1, 1) := by decide +kernel
theorem dX6_findOn_95 : decode cX6_findOn 95 = .ok (.ireturn, 1) := by decide +kernel
theorem dX6_findOn_96 : decode cX6_findOn 96 = .ok (.iinc 6 1, 3) := by decide +kernel
theorem dX6_findOn_99 : decode cX6_findOn 99 = .ok (.goto (-63), 3) := by decide +kernel
theorem dX6_findOn_102 : decode cX6_findOn 102 = .ok (.iconst 0, 1) := by decide +kernel
theorem dX6_findOn_103 : decode cX6_findOn 103 = .ok (.ireturn, 1) := by decide +kernel
theorem hd_X6_findOn : yX6_findOn.cls = RX6 ∧ yX6_findOn.cls ≠ "java/lang/invoke/MethodHandle" ∧ yX6_findOn.cls ≠ "java/lang/invoke/VarHandle" ∧ (parseMethodDescriptor yX6_findOn.desc).map (fun d => d.parameters.length) = some 4 := by decide +kernel
theorem hs_X6_findOn : yX6_findOn.cls ≠ "java/lang/invoke/MethodHandle" ∧ yX6_findOn.cls ≠ "java/lang/invoke/VarHandle" ∧ (parseMethodDescriptor yX6_findOn.desc).map (fun d => d.parameters.length) = some 4 := by decide +kernel
set_option maxHeartbeats 4000000 in
set_option maxRecDepth 100000 in
theorem l_X6_findOn_L36 (C : CX p l e s m args meth c cX6_findOn 8 RX6 (Option.some Jvm.ClassFile.FieldType.boolean) E) {o : Nat} (ho : K o = some (5, 0)) {r : Bool} {w' : Wd} (k : Option Nat → Int32 → Int32 → Int32 → Int32 → Int32 → Wd → Option (Bool × Wd)) (hk : ∀ (v1_36 : Option Nat) (v2_36 : Int32) (v3_36 : Int32) (v4_36 : Int32) (v5_36 : Int32) (v6_36 : Int32) (w : Wd) (H : Heap) (locs : List Loc) (ls : Array Slot), HQ E K z w s H locs → lv_has ls 8 [(1, rv E v1_36), (2, .int v2_36), (3, .int v3_36), (4, .int v4_36), (5, .int v5_36), (6, .int v6_36), (0, rv E (some o))] → k v1_36 v2_36 v3_36 v4_36 v5_36 v6_36 w = some (r, w') → W p l e ({ frames := 3, cells := 0, slots := 0, locals := 76 } : Room) s m args below meth c H locs 0 0 (MQ below (QI E K z w' (b2i r)) args s 0 0 (hA E)) (F0 m 102 ls [])) : ∀ (n : Nat) (v1_36 : Option Nat) (v2_36 : Int32) (v3_36 : Int32) (v4_36 : Int32) (v5_36 : Int32) (v6_36 : Int32) (w : Wd) (H : Heap) (locs : List Loc) (ls : Array Slot), HQ E K z w s H locs → lv_has ls 8 [(1, rv E v1_36), (2, .int v2_36), (3, .int v3_36), (4, .int v4_36), (5, .int v5_36), (6, .int v6_36), (0, rv E (some o))] → f_X6_findOn_L36 K o k n v1_36 v2_36 v3_36 v4_36 v5_36 v6_36 w = some (r, w') → W p l e ({ frames := 3, cells := 0, slots := 0, locals := 76 } : Room) s m args below meth c H locs 0 0 (MQ below (QI E K z w' (b2i r)) args s 0 0 (hA E)) (F0 m 36 ls []) := by
  obtain ⟨hx, hb, hml, hown, hts, hKs, hT, hb0, hlocks, hret⟩ := id C
  intro n
  induction n with
  | zero =>
    intro v1_36 v2_36 v3_36 v4_36 v5_36 v6_36 w H locs ls hH hl hf
    cases hf
  | succ n ih =>
    intro v1_36 v2_36 v3_36 v4_36 v5_36 v6_36 w H locs ls hH hl hf
    rw [f_X6_findOn_L36] at hf
    refine lv_iload hx hb dX6_findOn_36 (lv_at hl 5 rfl) ?_
    refine lv_iload hx hb dX6_findOn_38 (lv_at hl 4 rfl) ?_
    refine lv_iadd hx hb dX6_findOn_40 ?_
    refine lv_bipush (v := 8) hx hb dX6_findOn_41 (by decide) ?_
    refine lv_icmp_gt (tgt := 102) hx hb dX6_findOn_43 (by decide) (fun c10 => ?_) (fun c10 => ?_)
    · replace hf := (if_pos c10).symm.trans hf
      exact hk v1_36 v2_36 v3_36 v4_36 v5_36 v6_36 _ _ _ _ hH (lv_sub hl [0, 1, 2, 3, 4, 5, 6] rfl) hf
    · replace hf := (if_neg c10).symm.trans hf
      refine lv_iload hx hb dX6_findOn_46 (lv_at hl 5 rfl) ?_
      refine lv_iload hx hb dX6_findOn_48 (lv_at hl 4 rfl) ?_
      obtain ⟨q11, hq11, hf⟩ := bnd hf
      refine hcM_i hx hb hml hown hts hKs hT hb0 hH (As := [.int v6_36, .int v5_36]) (rest := []) (k_X12_slotSet l E K H.size v6_36 v5_36 w hq11) m4_2 m3_229 m1_1 m3_230 hs_X12_slotSet ⟨Nat.le_of_ble_eq_true rfl, Nat.le_of_ble_eq_true rfl, rfl, rfl⟩ hl.1 rfl rc0 rfl dX6_findOn_50 ⟨Nat.zero_le _, Nat.zero_le _⟩ (fun H locs hH => ?_)
      refine lv_istore (i := 7) (lv' := [(7, .int (q11.1)), (1, rv E v1_36), (2, .int v2_36), (3, .int v3_36), (4, .int v4_36), (5, .int v5_36), (6, .int v6_36), (0, rv E (some o))]) hx hb dX6_findOn_53 hl (by decide) rfl (fun ls hl => ?_)
      refine lv_iload hx hb dX6_findOn_55 (lv_at hl 0 rfl) ?_
      refine hl_aload_n hx hb dX6_findOn_57 rfl (lv_at hl 7 rfl) ?_
      refine g6_6 hx hb hts hown hKs hH rfl ho m2_154 dX6_findOn_58 ?_
      refine hl_aload_n hx hb dX6_findOn_61 rfl (lv_at hl 7 rfl) ?_
      refine g6_7 hx hb hts hown hKs hH rfl ho m2_155 dX6_findOn_62 ?_
      refine lv_ior hx hb dX6_findOn_65 ?_
      refine lv_iand hx hb dX6_findOn_66 ?_
      refine lv_if_ne (tgt := 96) hx hb dX6_findOn_67 (by decide) (fun c12 => ?_) (fun c12 => ?_)
      · replace hf := (if_neg c12).symm.trans hf
        refine lv_iinc (v := (v6_36 + 1)) (lv' := [(6, .int ((v6_36 + 1))), (7, .int (q11.1)), (1, rv E v1_36), (2, .int v2_36), (3, .int v3_36), (4, .int v4_36), (5, .int v5_36), (0, rv E (some o))]) hx hb dX6_findOn_96 hl (k := 6) rfl rfl (by decide) rfl (fun ls hl => ?_)
        refine lv_goto (tgt := 36) hx hb dX6_findOn_99 (by decide) ?_
        exact ih v1_36 v2_36 v3_36 v4_36 v5_36 (v6_36 + 1) _ _ _ _ hH (lv_sub hl [2, 3, 4, 5, 6, 0, 7] rfl) hf
      · replace hf := (if_pos c12).symm.trans hf
        refine hl_aload_n hx hb dX6_findOn_70 rfl (lv_at hl 7 rfl) ?_
        refine hl_aload_n hx hb dX6_findOn_71 rfl (lv_at hl 1 rfl) ?_
        obtain ⟨a13, ha13, hf⟩ := bnd hf
        replace ha13 := chk_some ha13
        refine gn10_0 hx hb hts hown hKs hH ha13.1 ha13.2 m2_114 dX6_findOn_72 ?_
        refine lv_iload hx hb dX6_findOn_75 (lv_at hl 0 rfl) ?_
        obtain ⟨q14, hq14, hf⟩ := bnd hf
        refine hcV_i hx hb hml hown hts hKs hT hb0 hH (As := [rv E (wR q11.2 1000 a13), .int (q11.1)]) (rest := []) (k_X6_findIn l E K H.size o (wR q11.2 1000 a13) q11.1 q11.2 ho hq14) (gV m4_3 m4_5 ms_7 m1_14 m4_6) hd_X6_findIn ⟨Nat.le_of_ble_eq_true rfl, Nat.le_of_ble_eq_true rfl, rfl, rfl⟩ rfl ho rfl rfl rfl hl.1 rfl rc0 rfl dX6_findOn_77 ⟨Nat.zero_le _, Nat.zero_le _⟩ (fun H locs hH => ?_)
        refine lv_if_eq (tgt := 96) hx hb dX6_findOn_80 (by decide) (fun c15 => ?_) (fun c15 => ?_)
        · replace hf := (if_pos c15).symm.trans hf
          refine lv_iinc (v := (v6_36 + 1)) (lv' := [(6, .int ((v6_36 + 1))), (7, .int (q11.1)), (1, rv E v1_36), (2, .int v2_36), (3, .int v3_36), (4, .int v4_36), (5, .int v5_36), (0, rv E (some o))]) hx hb dX6_findOn_96 hl (k := 6) rfl rfl (by decide) rfl (fun ls hl => ?_)
          refine lv_goto (tgt := 36) hx hb dX6_findOn_99 (by decide) ?_
          exact ih v1_36 v2_36 v3_36 v4_36 v5_36 (v6_36 + 1) _ _ _ _ hH (lv_sub hl [2, 3, 4, 5, 6, 0, 7] rfl) hf
        · replace hf := (if_neg c15).symm.trans hf
          refine hl_aload_n hx hb dX6_findOn_83 rfl (lv_at hl 7 rfl) ?_
          refine lv_iload_n hx hb dX6_findOn_84 rfl (lv_at hl 3 rfl) ?_
          obtain ⟨w16, hw16, hf⟩ := bnd hf
          replace hw16 := Option.some.inj hw16
          refine p6_8 (v := v3_36) hx hb hts hown hKs hH rfl ho m2_156 dX6_findOn_85 (fun H locs hH => ?_)
          rw [hw16] at hH
          refine hl_aload_n hx hb dX6_findOn_88 rfl (lv_at hl 7 rfl) ?_
          refine lv_iload hx hb dX6_findOn_89 (lv_at hl 6 rfl) ?_
          obtain ⟨w17, hw17, hf⟩ := bnd hf
          replace hw17 := Option.some.inj hw17
          refine p6_9 (v := v6_36) hx hb hts hown hKs hH rfl ho m2_158 dX6_findOn_91 (fun H locs hH => ?_)
          rw [hw17] at hH
          refine lv_iconst (v := 1) hx hb dX6_findOn_94 (by decide) ?_
          exact hw_zret hx hb hret rfl hf hH hlocks dX6_findOn_95
set_option maxHeartbeats 4000000 in
set_option maxRecDepth 100000 in
theorem k_X6_findOn (l : Launch) (E : Ev) (K : Kd) (z : Nat) (o : Nat) (a_1 : Option Nat) (a_2 : Int32) (a_3 : Int32) (a_4 : Int32) (w : Wd) (ho : K o = some (5, 0)) {r : Bool} {w' : Wd} (hf : f_X6_findOn K o a_1 a_2 a_3 a_4 w = some (r, w')) : Met l yX6_findOn (Cond.code yX6_findOn cX6_findOn 8 (Option.some Jvm.ClassFile.FieldType.boolean) :: bt) ({ frames := 3, cells := 0, slots := 0, locals := 76 } : Room) (va_Pc [rv E (some o), rv E a_1, .int a_2, .int a_3, .int a_4] (HB E K w z)) (QI E K z w' (b2i r)) 0 0 (hA E) := by
  refine Met.ofW (cc := cX6_findOn) (maxL := 8) (ret := (Option.some Jvm.ClassFile.FieldType.boolean)) (by decide) rfl ?_
  intro p e s m args below meth c s₁ B hml hv
  obtain ⟨rfl, hz, hP, hKs, hT, hb0⟩ := hv
  have C : CX p l e s m _ meth c cX6_findOn 8 RX6 (Option.some Jvm.ClassFile.FieldType.boolean) E := ⟨B.exec, B.bytes, hml, findClass_of_methodNamed B.named, fun w h => atoms_spec (ws := Cond.code yX6_findOn cX6_findOn 8 (Option.some Jvm.ClassFile.FieldType.boolean) :: bt) B.pre w (List.mem_cons_of_mem _ h), hKs, hT, by rw [hz]; exact hb0, B.notSynchronized, B.returns⟩
  have hH : HQ E K z w s s.heap [] := ⟨hP, va_S.rf, hz⟩
  obtain ⟨hx, hb, hml, hown, hts, hKs, hT, hb0, hlocks, hret⟩ := id C
  have hl := lv_entry [rv E (some o), rv E a_1, .int a_2, .int a_3, .int a_4] (n := 8) (by simp [lg_len_nil, lg_len_i, lg_len_j, lg_len_q, lg_len_f, lg_len_d, lg_len_r])
  rw [lg_entry_eq]
  generalize (lg_sl [rv E (some o), rv E a_1, .int a_2, .int a_3, .int a_4] ++ List.replicate (8 - (lg_sl [rv E (some o), rv E a_1, .int a_2, .int a_3, .int a_4]).length) Slot.unset).toArray = ls at hl ⊢
  replace hl : lv_has ls 8 [(0, rv E (some o)), (1, rv E a_1), (2, .int a_2), (3, .int a_3), (4, .int a_4)] := by simpa only [lv_args, cat_q, cat_i, cat_j, reduceIte, Nat.reduceEqDiff, Nat.reduceAdd, Nat.zero_add] using hl
  generalize s.heap = H at hH ⊢
  unfold f_X6_findOn at hf
  refine hl_aload_n hx hb dX6_findOn_0 rfl (lv_at hl 1 rfl) ?_
  refine lv_iload_n hx hb dX6_findOn_1 rfl (lv_at hl 3 rfl) ?_
  obtain ⟨a1, ha1, hf⟩ := bnd hf
  replace ha1 := chk_some ha1
  obtain ⟨q2, hq2, hf⟩ := bnd hf
  refine hcV_i hx hb hml hown hts hKs hT hb0 hH (As := [.int a_3]) (rest := []) (k_X10_works l E K H.size a1 a_3 w ha1.2 hq2) (gV m3_210 m3_149 m3_150 m1_12 m3_151) hd_X10_works ⟨Nat.le_of_ble_eq_true rfl, Nat.le_of_ble_eq_true rfl, rfl, rfl⟩ ha1.1 ha1.2 rfl rfl rfl hl.1 rfl rc0 rfl dX6_findOn_2 ⟨Nat.zero_le _, Nat.zero_le _⟩ (fun H locs hH => ?_)
  refine lv_if_ne (tgt := 10) hx hb dX6_findOn_5 (by decide) (fun c3 => ?_) (fun c3 => ?_)
  · replace hf := (if_neg c3).symm.trans hf
    refine hl_aload_n hx hb dX6_findOn_10 rfl (lv_at hl 0 rfl) ?_
    refine hl_aload_n hx hb dX6_findOn_11 rfl (lv_at hl 1 rfl) ?_
    refine lv_iload_n hx hb dX6_findOn_12 rfl (lv_at hl 2 rfl) ?_
    refine lv_iload_n hx hb dX6_findOn_13 rfl (lv_at hl 3 rfl) ?_
    refine lv_iload hx hb dX6_findOn_14 (lv_at hl 4 rfl) ?_
    obtain ⟨q4, hq4, hf⟩ := bnd hf
    refine hcV_v hx hb hml hown hts hKs hT hb0 hH (As := [rv E a_1, .int a_2, .int a_3, .int a_4]) (rest := []) (k_X6_lookAtDay l E K H.size o a_1 a_2 a_3 a_4 q2.2 ho hq4) (gV m3_211 m3_213 ms_6 m1_14 m3_214) hd_X6_lookAtDay ⟨Nat.le_of_ble_eq_true rfl, Nat.le_of_ble_eq_true rfl, rfl, rfl⟩ rfl ho rfl rfl rfl hl.1 rfl rc0 rfl dX6_findOn_16 ⟨Nat.zero_le _, Nat.zero_le _⟩ (fun H locs hH => ?_)
    refine hl_aload_n hx hb dX6_findOn_19 rfl (lv_at hl 1 rfl) ?_
    refine gn10_0 hx hb hts hown hKs hH ha1.1 ha1.2 m2_114 dX6_findOn_20 ?_
    obtain ⟨a5, ha5, hf⟩ := bnd hf
    replace ha5 := chk_some ha5
    refine gn9_9 hx hb hts hown hKs hH ha5.1 ha5.2 m1_172 dX6_findOn_23 ?_
    refine lv_iload_n hx hb dX6_findOn_26 rfl (lv_at hl 2 rfl) ?_
    obtain ⟨a6, ha6, hf⟩ := bnd hf
    replace ha6 := cha_some ha6
    obtain ⟨j7, hj7, hf⟩ := bnd hf
    refine hw_aald25 hx hb hKs hH ha6.1 ha6.2 hj7 dX6_findOn_27 ?_
    obtain ⟨a8, ha8, hf⟩ := bnd hf
    replace ha8 := chk_some ha8
    refine gn3_1 hx hb hts hown hKs hH ha8.1 ha8.2 m1_96 dX6_findOn_28 ?_
    refine lv_istore (i := 5) (lv' := [(5, .int ((wI q4 301 a8))), (0, rv E (some o)), (1, rv E a_1), (2, .int a_2), (3, .int a_3), (4, .int a_4)]) hx hb dX6_findOn_31 hl (by decide) rfl (fun ls hl => ?_)
    refine lv_iconst (v := 0) hx hb dX6_findOn_33 (by decide) ?_
    refine lv_istore (i := 6) (lv' := [(6, .int 0), (5, .int ((wI q4 301 a8))), (0, rv E (some o)), (1, rv E a_1), (2, .int a_2), (3, .int a_3), (4, .int a_4)]) hx hb dX6_findOn_34 hl (by decide) rfl (fun ls hl => ?_)
    refine l_X6_findOn_L36  C ho _ (fun v1_36 v2_36 v3_36 v4_36 v5_36 v6_36 w9 H locs ls hH hl hf => ?_) fu a_1 a_2 a_3 a_4 (wI q4 301 a8) 0 q4 _ _ _ hH (lv_sub hl [3, 4, 5, 6, 1, 0, 2] rfl) hf
    refine lv_iconst (v := 0) hx hb dX6_findOn_102 (by decide) ?_
    exact hw_zret hx hb hret rfl hf hH hlocks dX6_findOn_103
  · replace hf := (if_pos c3).symm.trans hf
    refine lv_iconst (v := 0) hx hb dX6_findOn_8 (by decide) ?_
    exact hw_zret hx hb hret rfl hf hH hlocks dX6_findOn_9

theorem dX8_begin_0 : decode cX8_begin 0 = .ok (.aload_n 0, 1) := by decide +kernel
theorem dX8_begin_1 : decode cX8_begin 1 = .ok (.aload_n 1, 1) := by decide +kernel
theorem dX8_begin_2 : decode cX8_begin 2 = .ok (.putfield 9, 3) := by decide +kernel
theorem dX8_begin_5 : decode cX8_begin 5 = .ok (.aload_n 0, 1) := by decide +kernel
theorem dX8_begin_6 : decode cX8_begin 6 = .ok (.iload_n 2, 1) := by decide +kernel
theorem dX8_begin_7 : decode cX8_begin 7 = .ok (.aload_n 1, 1) := by decide +kernel
theorem dX8_begin_8 : decode cX8_begin 8 = .ok (.arraylength, 1) := by decide +kernel
theorem dX8_begin_9 : decode cX8_begin 9 = .ok (.invokestatic 24, 3) := by decide +kernel
theorem dX8_begin_12 : decode cX8_begin 12 = .ok (.putfield 30, 3) := by decide +kernel
theorem dX8_begin_15 : decode cX8_begin 15 = .ok (.aload_n 0, 1) := by decide +kernel
theorem dX8_begin_16 : decode cX8_begin 16 = .ok (.iconst 0, 1) := by decide +kernel
theorem dX8_begin_17 : decode cX8_begin 17 = .ok (.putfield 34, 3) := by decide +kernel
theorem dX8_begin_20 : decode cX8_begin 20 = .ok (.aload_n 0, 1) := by decide +kernel
theorem dX8_begin_21 : decode cX8_begin 21 = .ok (.invokevirtual 37, 3) := by decide +kernel
theorem dX8_begin_24 : decode cX8_begin 24 = .ok (.return_, 1) := by decide +kernel
theorem hd_X8_begin : yX8_begin.cls = RX8 ∧ yX8_begin.cls ≠ "java/lang/invoke/MethodHandle" ∧ yX8_begin.cls ≠ "java/lang/invoke/VarHandle" ∧ (parseMethodDescriptor yX8_begin.desc).map (fun d => d.parameters.length) = some 2 := by decide +kernel
theorem hs_X8_begin : yX8_begin.cls ≠ "java/lang/invoke/MethodHandle" ∧ yX8_begin.cls ≠ "java/lang/invoke/VarHandle" ∧ (parseMethodDescriptor yX8_begin.desc).map (fun d => d.parameters.length) = some 2 := by decide +kernel
set_option maxHeartbeats 4000000 in
set_option maxRecDepth 100000 in
theorem k_X8_begin (l : Launch) (E : Ev) (K : Kd) (z : Nat) (o : Nat) (a_1 : Option Nat) (a_2 : Int32) (w : Wd) (ho : K o = some (7, 0)) {w' : Wd} (hf : f_X8_begin K o a_1 a_2 w = some w') : Met l yX8_begin (Cond.code yX8_begin cX8_begin 3 (Option.none : Option Jvm.ClassFile.FieldType) :: bt) ({ frames := 2, cells := 0, slots := 0, locals := 42 } : Room) (va_Pc [rv E (some o), rv E a_1, .int a_2] (HB E K w z)) (QV E K z w') 0 0 (hA E) := by
  refine Met.ofW (cc := cX8_begin) (maxL := 3) (ret := (Option.none : Option Jvm.ClassFile.FieldType)) (by decide) rfl ?_
  intro p e s m args below meth c s₁ B hml hv
  obtain ⟨rfl, hz, hP, hKs, hT, hb0⟩ := hv
  have C : CX p l e s m _ meth c cX8_begin 3 RX8 (Option.none : Option Jvm.ClassFile.FieldType) E := ⟨B.exec, B.bytes, hml, findClass_of_methodNamed B.named, fun w h => atoms_spec (ws := Cond.code yX8_begin cX8_begin 3 (Option.none : Option Jvm.ClassFile.FieldType) :: bt) B.pre w (List.mem_cons_of_mem _ h), hKs, hT, by rw [hz]; exact hb0, B.notSynchronized, B.returns⟩
  have hH : HQ E K z w s s.heap [] := ⟨hP, va_S.rf, hz⟩
  obtain ⟨hx, hb, hml, hown, hts, hKs, hT, hb0, hlocks, hret⟩ := id C
  have hl := lv_entry [rv E (some o), rv E a_1, .int a_2] (n := 3) (by simp [lg_len_nil, lg_len_i, lg_len_j, lg_len_q, lg_len_f, lg_len_d, lg_len_r])
  rw [lg_entry_eq]
  generalize (lg_sl [rv E (some o), rv E a_1, .int a_2] ++ List.replicate (3 - (lg_sl [rv E (some o), rv E a_1, .int a_2]).length) Slot.unset).toArray = ls at hl ⊢
  replace hl : lv_has ls 3 [(0, rv E (some o)), (1, rv E a_1), (2, .int a_2)] := by simpa only [lv_args, cat_q, cat_i, cat_j, reduceIte, Nat.reduceEqDiff, Nat.reduceAdd, Nat.zero_add] using hl
  generalize s.heap = H at hH ⊢
  unfold f_X8_begin at hf
  refine hl_aload_n hx hb dX8_begin_0 rfl (lv_at hl 0 rfl) ?_
  refine hl_aload_n hx hb dX8_begin_1 rfl (lv_at hl 1 rfl) ?_
  obtain ⟨w1, hw1, hf⟩ := bnd hf
  replace hw1 := Option.some.inj hw1
  refine p8_0 (v := a_1) hx hb hts hown hKs hH rfl ho m1_235 dX8_begin_2 (fun H locs hH => ?_)
  rw [hw1] at hH
  refine hl_aload_n hx hb dX8_begin_5 rfl (lv_at hl 0 rfl) ?_
  refine lv_iload_n hx hb dX8_begin_6 rfl (lv_at hl 2 rfl) ?_
  refine hl_aload_n hx hb dX8_begin_7 rfl (lv_at hl 1 rfl) ?_
  obtain ⟨a2, ha2, hf⟩ := bnd hf
  replace ha2 := cha_some ha2
  refine hw_alen21 hx hb hKs hH ha2.1 ha2.2 dX8_begin_8 ?_
  refine va_mmin hx hb (hml.trans hl.1.symm) hown (hts _ m4_146) (hts _ m3_200) (hts _ m1_5) (hts _ m3_201) (Nat.le_of_ble_eq_true rfl) (Nat.le_trans (Nat.add_le_add_right (show rc 8 [rv E (some o)] from (rcV rc0)) 13) (Nat.le_of_ble_eq_true rfl)) (Nat.le_of_ble_eq_true rfl) (Nat.le_of_ble_eq_true rfl) dX8_begin_9 ?_
  obtain ⟨w3, hw3, hf⟩ := bnd hf
  replace hw3 := Option.some.inj hw3
  refine p8_1 (v := (imin a_2 (nI a2.2))) hx hb hts hown hKs hH rfl ho m1_236 dX8_begin_12 (fun H locs hH => ?_)
  rw [hw3] at hH
  refine hl_aload_n hx hb dX8_begin_15 rfl (lv_at hl 0 rfl) ?_
  refine lv_iconst (v := 0) hx hb dX8_begin_16 (by decide) ?_
  obtain ⟨w4, hw4, hf⟩ := bnd hf
  replace hw4 := Option.some.inj hw4
  refine p8_3 (v := 0) hx hb hts hown hKs hH rfl ho m1_239 dX8_begin_17 (fun H locs hH => ?_)
  rw [hw4] at hH
  refine hl_aload_n hx hb dX8_begin_20 rfl (lv_at hl 0 rfl) ?_
  obtain ⟨q5, hq5, hf⟩ := bnd hf
  refine hcV_v hx hb hml hown hts hKs hT hb0 hH (As := []) (rest := []) (k_X8_advance l E K H.size o w4 ho hq5) (gV m4_147 m4_148 m4_149 m1_9 m4_150) hd_X8_advance ⟨Nat.le_of_ble_eq_true rfl, Nat.le_of_ble_eq_true rfl, rfl, rfl⟩ rfl ho rfl rfl rfl hl.1 rfl rc0 rfl dX8_begin_21 ⟨Nat.zero_le _, Nat.zero_le _⟩ (fun H locs hH => ?_)
  exact hw_vret hx hb hret hf hH hlocks dX8_begin_24

theorem dX9_init_0 : decode cX9_init 0 = .ok (.aload_n 0, 1) := by decide +kernel
theorem dX9_init_1 : decode cX9_init 1 = .ok (.invokespecial 3, 3) := by decide +kernel
theorem dX9_init_4 : decode cX9_init 4 = .ok (.aload_n 0, 1) := by decide +kernel
theorem dX9_init_5 : decode cX9_init 5 = .ok (.iconst 4, 1) := by decide +kernel
theorem dX9_init_6 : decode cX9_init 6 = .ok (.anewarray 9, 3) := by decide +kernel
theorem dX9_init_9 : decode cX9_init 9 = .ok (.putfield 11, 3) := by decide +kernel
theorem dX9_init_12 : decode cX9_init 12 = .ok (.aload_n 0, 1) := by decide +kernel
theorem dX9_init_13 : decode cX9_init 13 = .ok (.iconst 3, 1) := by decide +kernel
theorem dX9_init_14 : decode cX9_init 14 = .ok (.newarray .int, 2) := by decide +kernel
theorem dX9_init_16 : decode cX9_init 16 = .ok (.putfield 17, 3) := by decide +kernel
theorem dX9_init_19 : decode cX9_init 19 = .ok (.aload_n 0, 1) := by decide +kernel
theorem dX9_init_20 : decode cX9_init 20 = .ok (.bipush 6, 2) := by decide +kernel
theorem dX9_init_22 : decode cX9_init 22 = .ok (.newarray .int, 2) := by decide +kernel
theorem dX9_init_24 : decode cX9_init 24 = .ok (.putfield 21, 3) := by decide +kernel
theorem dX9_init_27 : decode cX9_init 27 = .ok (.aload_n 0, 1) := by decide +kernel
theorem dX9_init_28 : decode cX9_init 28 = .ok (.bipush 18, 2) := by decide +kernel
theorem dX9_init_30 : decode cX9_init 30 = .ok (.newarray .int, 2) := by decide +kernel
theorem dX9_init_32 : decode cX9_init 32 = .ok (.putfield 24, 3) := by decide +kernel
theorem dX9_init_35 : decode cX9_init 35 = .ok (.aload_n 0, 1) := by decide +kernel
theorem dX9_init_36 : decode cX9_init 36 = .ok (.bipush 18, 2) := by decide +kernel
theorem dX9_init_38 : decode cX9_init 38 = .ok (.newarray .int, 2) := by decide +kernel
theorem dX9_init_40 : decode cX9_init 40 = .ok (.putfield 27, 3) := by decide +kernel
theorem dX9_init_43 : decode cX9_init 43 = .ok (.aload_n 0, 1) := by decide +kernel
theorem dX9_init_44 : decode cX9_init 44 = .ok (.bipush 12, 2) := by decide +kernel
theorem dX9_init_46 : decode cX9_init 46 = .ok (.newarray .int, 2) := by decide +kernel
theorem dX9_init_48 : decode cX9_init 48 = .ok (.putfield 30, 3) := by decide +kernel
theorem dX9_init_51 : decode cX9_init 51 = .ok (.aload_n 0, 1) := by decide +kernel
theorem dX9_init_52 : decode cX9_init 52 = .ok (.bipush 12, 2) := by decide +kernel
theorem dX9_init_54 : decode cX9_init 54 = .ok (.newarray .int, 2) := by decide +kernel
theorem dX9_init_56 : decode cX9_init 56 = .ok (.putfield 33, 3) := by decide +kernel
theorem dX9_init_59 : decode cX9_init 59 = .ok (.aload_n 0, 1) := by decide +kernel
theorem dX9_init_60 : decode cX9_init 60 = .ok (.bipush 12, 2) := by decide +kernel
theorem dX9_init_62 : decode cX9_init 62 = .ok (.newarray .int, 2) := by decide +kernel
theorem dX9_init_64 : decode cX9_init 64 = .ok (.putfield 36, 3) := by decide +kernel
theorem dX9_init_67 : decode cX9_init 67 = .ok (.aload_n 0, 1) := by decide +kernel
theorem dX9_init_68 : decode cX9_init 68 = .ok (.bipush 12, 2) := by decide +kernel
theorem dX9_init_70 : decode cX9_init 70 = .ok (.newarray .int, 2) := by decide +kernel
theorem dX9_init_72 : decode cX9_init 72 = .ok (.putfield 39, 3) := by decide +kernel
theorem dX9_init_75 : decode cX9_init 75 = .ok (.aload_n 0, 1) := by decide +kernel
theorem dX9_init_76 : decode cX9_init 76 = .ok (.bipush 12, 2) := by decide +kernel
theorem dX9_init_78 : decode cX9_init 78 = .ok (.anewarray 42, 3) := by decide +kernel
theorem dX9_init_81 : decode cX9_init 81 = .ok (.putfield 44, 3) := by decide +kernel
theorem dX9_init_84 : decode cX9_init 84 = .ok (.aload_n 0, 1) := by decide +kernel
theorem dX9_init_85 : decode cX9_init 85 = .ok (.new 48, 3) := by decide +kernel
theorem dX9_init_88 : decode cX9_init 88 = .ok (.dup, 1) := by decide +kernel
theorem dX9_init_89 : decode cX9_init 89 = .ok (.invokespecial 50, 3) := by decide +kernel
theorem dX9_init_92 : decode cX9_init 92 = .ok (.putfield 51, 3) := by decide +kernel
theorem dX9_init_95 : decode cX9_init 95 = .ok (.aload_n 0, 1) := by decide +kernel
theorem dX9_init_96 : decode cX9_init 96 = .ok (.iconst 4, 1) := by decide +kernel
theorem dX9_init_97 : decode cX9_init 97 = .ok (.newarray .int, 2) := by decide +kernel
theorem dX9_init_99 : decode cX9_init 99 = .ok (.putfield 55, 3) := by decide +kernel
theorem dX9_init_102 : decode cX9_init 102 = .ok (.aload_n 0, 1) := by decide +kernel
theorem dX9_init_103 : decode cX9_init 103 = .ok (.getfield 11, 3) := by decide +kernel
theorem dX9_init_106 : decode cX9_init 106 = .ok (.iconst 0, 1) := by decide +kernel
theorem dX9_init_107 : decode cX9_init 107 = .ok (.new 9, 3) := by decide +kernel
theorem dX9_init_110 : decode cX9_init 110 = .ok (.dup, 1) := by decide +kernel
theorem dX9_init_111 : decode cX9_init 111 = .ok (.iconst 3, 1) := by decide +kernel
theorem dX9_init_112 : decode cX9_init 112 = .ok (.invokespecial 58, 3) := by decide +kernel
theorem dX9_init_115 : decode cX9_init 115 = .ok (.aastore, 1) := by decide +kernel
theorem dX9_init_116 : decode cX9_init 116 = .ok (.aload_n 0, 1) := by decide +kernel
theorem dX9_init_117 : decode cX9_init 117 = .ok (.getfield 11, 3) := by decide +kernel
theorem dX9_init_120 : decode cX9_init 120 = .ok (.iconst 1, 1) := by decide +kernel
theorem dX9_init_121 : decode cX9_init 121 = .ok (.new 9, 3) := by decide +kernel
theorem dX9_init_124 : decode cX9_init 124 = .ok (.dup, 1) := by decide +kernel
theorem dX9_init_125 : decode cX9_init 125 = .ok (.bipush 6, 2) := by decide +kernel
theorem dX9_init_127 : decode cX9_init 127 = .ok (.invokespecial 58, 3) := by decide +kernel
theorem dX9_init_130 : decode cX9_init 130 = .ok (.aastore, 1) := by decide +kernel
theorem dX9_init_131 : decode cX9_init 131 = .ok (.aload_n 0, 1) := by decide +kernel
theorem dX9_init_132 : decode cX9_init 132 = .ok (.getfield 11, 3) := by decide +kernel
theorem dX9_init_135 : decode cX9_init 135 = .ok (.iconst 2, 1) := by decide +kernel
theorem dX9_init_136 : decode cX9_init 136 = .ok (.new 9, 3) := by decide +kernel
theorem dX9_init_139 : decode cX9_init 139 = .ok (.dup, 1) := by decide +kernel
theorem dX9_init_140 : decode cX9_init 140 = .ok (.bipush 12, 2) := by decide +kernel
theorem dX9_init_142 : decode cX9_init 142 = .ok (.invokespecial 58, 3) := by decide +kernel
theorem dX9_init_145 : decode cX9_init 145 = .ok (.aastore, 1) := by decide +kernel
theorem dX9_init_146 : decode cX9_init 146 = .ok (.aload_n 0, 1) := by decide +kernel
theorem dX9_init_147 : decode cX9_init 147 = .ok (.getfield 11, 3) := by decide +kernel
theorem dX9_init_150 : decode cX9_init 150 = .ok (.iconst 3, 1) := by decide +kernel
theorem dX9_init_151 : decode cX9_init 151 = .ok (.new 9, 3) := by decide +kernel
theorem dX9_init_154 : decode cX9_init 154 = .ok (.dup, 1) := by decide +kernel
theorem dX9_init_155 : decode cX9_init 155 = .ok (.bipush 12, 2) := by decide +kernel
theorem dX9_init_157 : decode cX9_init 157 = .ok (.invokespecial 58, 3) := by decide +kernel
theorem dX9_init_160 : decode cX9_init 160 = .ok (.aastore, 1) := by decide +kernel
theorem dX9_init_161 : decode cX9_init 161 = .ok (.iconst 0, 1) := by decide +kernel
theorem dX9_init_162 : decode cX9_init 162 = .ok (.istore_n 1, 1) := by decide +kernel
theorem dX9_init_163 : decode cX9_init 163 = .ok (.iload_n 1, 1) := by decide +kernel
theorem dX9_init_164 : decode cX9_init 164 = .ok (.bipush 12, 2) := by decide +kernel
theorem dX9_init_166 : decode cX9_init 166 = .ok (.if_icmp .ge 22, 3) := by decide +kernel
theorem dX9_init_169 : decode cX9_init 169 = .ok (.aload_n 0, 1) := by decide +kernel
theorem dX9_init_170 : decode cX9_init 170 = .ok (.getfield 44, 3) := by decide +kernel
theorem dX9_init_173 : decode cX9_init 173 = .ok (.iload_n 1, 1) := by decide +kernel
theorem dX9_init_174 : decode cX9_init 174 = .ok (.new 42, 3) := by decide +kernel
theorem dX9_init_177 : decode cX9_init 177 = .ok (.dup, 1) := by decide +kernel
theorem dX9_init_178 : decode cX9_init 178 = .ok (.invokespecial 61, 3) := by decide +kernel
theorem dX9_init_181 : decode cX9_init 181 = .ok (.aastore, 1) := by decide +kernel
theorem dX9_init_182 : decode cX9_init 182 = .ok (.iinc 1 1, 3) := by decide +kernel
theorem dX9_init_185 : decode cX9_init 185 = .ok (.goto (-22), 3) := by decide +kernel
theorem dX9_init_188 : decode cX9_init 188 = .ok (.aload_n 0, 1) := by decide +kernel
theorem dX9_init_189 : decode cX9_init 189 = .ok (.invokevirtual 62, 3) := by decide +kernel
theorem dX9_init_192 : decode cX9_init 192 = .ok (.return_, 1) := by decide +kernel
theorem hd_X9_init : yX9_init.cls = RX9 ∧ yX9_init.cls ≠ "java/lang/invoke/MethodHandle" ∧ yX9_init.cls ≠ "java/lang/invoke/VarHandle" ∧ (parseMethodDescriptor yX9_init.desc).map (fun d => d.parameters.length) = some 0 := by decide +kernel
theorem hs_X9_init : yX9_init.cls ≠ "java/lang/invoke/MethodHandle" ∧ yX9_init.cls ≠ "java/lang/invoke/VarHandle" ∧ (parseMethodDescriptor yX9_init.desc).map (fun d => d.parameters.length) = some 0 := by decide +kernel
set_option maxHeartbeats 4000000 in
set_option maxRecDepth 100000 in
theorem k_X9_init (l : Launch) (E : Ev) (K : Kd) (n : Nat) (o : Nat) (w : Wd) {K' : Kd} {n' : Nat} {w' : Wd} (hf : f_X9_init K n o w = some (K', n', w')) : Met l yX9_init (Cond.code yX9_init cX9_init 2 (Option.none : Option Jvm.ClassFile.FieldType) :: bt) ({ frames := 3, cells := 33, slots := 274, locals := 64 } : Room) (va_Pc [rv E (some o)] (HB E K w (E.2.1 + n))) (QV E K' (E.2.1 + n') w') 33 274 (hA E) := by
  refine Met.ofW (cc := cX9_init) (maxL := 2) (ret := (Option.none : Option Jvm.ClassFile.FieldType)) (by decide) rfl ?_
  intro p e s m args below meth c s₁ B hml hv
  have hn2 : meth.name = "<init>" := (name_of_methodNamed B.named B.method).1
  obtain ⟨rfl, hz, hP, hKs, hT, hb0⟩ := hv
  have C : CX p l e s m _ meth c cX9_init 2 RX9 (Option.none : Option Jvm.ClassFile.FieldType) E := ⟨B.exec, B.bytes, hml, findClass_of_methodNamed B.named, fun w h => atoms_spec (ws := Cond.code yX9_init cX9_init 2 (Option.none : Option Jvm.ClassFile.FieldType) :: bt) B.pre w (List.mem_cons_of_mem _ h), hKs, hT, by rw [hz]; exact hb0, B.notSynchronized, B.returns⟩
  have hH : HQ E K (E.2.1 + n) w s s.heap [] := ⟨hP, va_S.rf, hz⟩
  obtain ⟨hx, hb, hml, hown, hts, hKs, hT, hb0, hlocks, hret⟩ := id C
  have hl := lv_entry [rv E (some o)] (n := 2) (by simp [lg_len_nil, lg_len_i, lg_len_j, lg_len_q, lg_len_f, lg_len_d, lg_len_r])
  rw [lg_entry_eq]
  generalize (lg_sl [rv E (some o)] ++ List.replicate (2 - (lg_sl [rv E (some o)]).length) Slot.unset).toArray = ls at hl ⊢
  replace hl : lv_has ls 2 [(0, rv E (some o))] := by simpa only [lv_args, cat_q, cat_i, cat_j, reduceIte, Nat.reduceEqDiff, Nat.reduceAdd, Nat.zero_add] using hl
  generalize s.heap = H at hH ⊢
  unfold f_X9_init at hf
  refine hl_aload_n hx hb dX9_init_0 rfl (lv_at hl 0 rfl) ?_
  refine hw_obj hx hb hml hl.1 hown hts m1_47 m1_40 m1_41 dX9_init_1 (Nat.le_of_ble_eq_true rfl) (Nat.le_of_ble_eq_true rfl) ?_
  refine hl_aload_n hx hb dX9_init_4 rfl (lv_at hl 0 rfl) ?_
  refine lv_iconst (v := 4) hx hb dX9_init_5 (by decide) ?_
  refine hw_newq26 (N := 4) hx hb hts hown m1_48 (va_AO.use (hKs.2.2.2.2.2 _ (by decide))) hKs hH (by decide) (by decide) (Nat.le_of_ble_eq_true rfl) (Nat.le_of_ble_eq_true rfl) (Nat.le_of_ble_eq_true rfl) dX9_init_6 (fun H hH => ?_)
  obtain ⟨K1, hK1, hf⟩ := bnd hf
  replace hK1 := Option.some.inj hK1
  obtain ⟨w2, hw2, hf⟩ := bnd hf
  replace hw2 := Option.some.inj hw2
  rw [hK1, hw2] at hH
  obtain ⟨a3, ha3, hf⟩ := bnd hf
  replace ha3 := chk_some ha3
  obtain ⟨w4, hw4, hf⟩ := bnd hf
  replace hw4 := Option.some.inj hw4
  refine pf9_0 (v := (some n)) hx hb hts hown hKs hH ha3.1 ha3.2 hn2 m1_151 dX9_init_9 (fun H locs hH => ?_)
  rw [hw4] at hH
  refine hl_aload_n hx hb dX9_init_12 rfl (lv_at hl 0 rfl) ?_
  refine lv_iconst (v := 3) hx hb dX9_init_13 (by decide) ?_
  refine hw_newa20 (N := 3) hx hb hts m1_67 hKs hH (by decide) (by decide) (Nat.le_of_ble_eq_true rfl) (Nat.le_of_ble_eq_true rfl) (Nat.le_of_ble_eq_true rfl) dX9_init_14 (fun H hH => ?_)
  obtain ⟨K5, hK5, hf⟩ := bnd hf
  replace hK5 := Option.some.inj hK5
  obtain ⟨w6, hw6, hf⟩ := bnd hf
  replace hw6 := Option.some.inj hw6
  rw [hK5, hw6] at hH
  obtain ⟨a7, ha7, hf⟩ := bnd hf
  replace ha7 := chk_some ha7
  obtain ⟨w8, hw8, hf⟩ := bnd hf
  replace hw8 := Option.some.inj hw8
  refine pf9_1 (v := (some (n + 1))) hx hb hts hown hKs hH ha7.1 ha7.2 hn2 m1_153 dX9_init_16 (fun H locs hH => ?_)
  rw [hw8] at hH
  refine hl_aload_n hx hb dX9_init_19 rfl (lv_at hl 0 rfl) ?_
  refine lv_bipush (v := 6) hx hb dX9_init_20 (by decide) ?_
  refine hw_newa20 (N := 6) hx hb hts m1_67 hKs hH (by decide) (by decide) (Nat.le_of_ble_eq_true rfl) (Nat.le_of_ble_eq_true rfl) (Nat.le_of_ble_eq_true rfl) dX9_init_22 (fun H hH => ?_)
  obtain ⟨K9, hK9, hf⟩ := bnd hf
  replace hK9 := Option.some.inj hK9
  obtain ⟨w10, hw10, hf⟩ := bnd hf
  replace hw10 := Option.some.inj hw10
  rw [hK9, hw10] at hH
  obtain ⟨a11, ha11, hf⟩ := bnd hf
  replace ha11 := chk_some ha11
  obtain ⟨w12, hw12, hf⟩ := bnd hf
  replace hw12 := Option.some.inj hw12
  refine pf9_2 (v := (some ((n + 1) + 1))) hx hb hts hown hKs hH ha11.1 ha11.2 hn2 m1_156 dX9_init_24 (fun H locs hH => ?_)
  rw [hw12] at hH
  refine hl_aload_n hx hb dX9_init_27 rfl (lv_at hl 0 rfl) ?_
  refine lv_bipush (v := 18) hx hb dX9_init_28 (by decide) ?_
  refine hw_newa20 (N := 18) hx hb hts m1_67 hKs hH (by decide) (by decide) (Nat.le_of_ble_eq_true rfl) (Nat.le_of_ble_eq_true rfl) (Nat.le_of_ble_eq_true rfl) dX9_init_30 (fun H hH => ?_)
  obtain ⟨K13, hK13, hf⟩ := bnd hf
  replace hK13 := Option.some.inj hK13
  obtain ⟨w14, hw14, hf⟩ := bnd hf
  replace hw14 := Option.some.inj hw14
  rw [hK13, hw14] at hH
  obtain ⟨a15, ha15, hf⟩ := bnd hf
  replace ha15 := chk_some ha15
  obtain ⟨w16, hw16, hf⟩ := bnd hf
  replace hw16 := Option.some.inj hw16
  refine pf9_3 (v := (some (((n + 1) + 1) + 1))) hx hb hts hown hKs hH ha15.1 ha15.2 hn2 m1_157 dX9_init_32 (fun H locs hH => ?_)
  rw [hw16] at hH
  refine hl_aload_n hx hb dX9_init_35 rfl (lv_at hl 0 rfl) ?_
  refine lv_bipush (v := 18) hx hb dX9_init_36 (by decide) ?_
  refine hw_newa20 (N := 18) hx hb hts m1_67 hKs hH (by decide) (by decide) (Nat.le_of_ble_eq_true rfl) (Nat.le_of_ble_eq_true rfl) (Nat.le_of_ble_eq_true rfl) dX9_init_38 (fun H hH => ?_)
  obtain ⟨K17, hK17, hf⟩ := bnd hf
  replace hK17 := Option.some.inj hK17
  obtain ⟨w18, hw18, hf⟩ := bnd hf
  replace hw18 := Option.some.inj hw18
  rw [hK17, hw18] at hH
  obtain ⟨a19, ha19, hf⟩ := bnd hf
  replace ha19 := chk_some ha19
  obtain ⟨w20, hw20, hf⟩ := bnd hf
  replace hw20 := Option.some.inj hw20
  refine pf9_4 (v := (some ((((n + 1) + 1) + 1) + 1))) hx hb hts hown hKs hH ha19.1 ha19.2 hn2 m1_158 dX9_init_40 (fun H locs hH => ?_)
  rw [hw20] at hH
  refine hl_aload_n hx hb dX9_init_43 rfl (lv_at hl 0 rfl) ?_
  refine lv_bipush (v := 12) hx hb dX9_init_44 (by decide) ?_
  refine hw_newa20 (N := 12) hx hb hts m1_67 hKs hH (by decide) (by decide) (Nat.le_of_ble_eq_true rfl) (Nat.le_of_ble_eq_true rfl) (Nat.le_of_ble_eq_true rfl) dX9_init_46 (fun H hH => ?_)
  obtain ⟨K21, hK21, hf⟩ := bnd hf
  replace hK21 := Option.some.inj hK21
  obtain ⟨w22, hw22, hf⟩ := bnd hf
  replace hw22 := Option.some.inj hw22
  rw [hK21, hw22] at hH
  obtain ⟨a23, ha23, hf⟩ := bnd hf
  replace ha23 := chk_some ha23
  obtain ⟨w24, hw24, hf⟩ := bnd hf
  replace hw24 := Option.some.inj hw24
  refine pf9_5 (v := (some (((((n + 1) + 1) + 1) + 1) + 1))) hx hb hts hown hKs hH ha23.1 ha23.2 hn2 m1_159 dX9_init_48 (fun H locs hH => ?_)
  rw [hw24] at hH
  refine hl_aload_n hx hb dX9_init_51 rfl (lv_at hl 0 rfl) ?_
  refine lv_bipush (v := 12) hx hb dX9_init_52 (by decide) ?_
  refine hw_newa20 (N := 12) hx hb hts m1_67 hKs hH (by decide) (by decide) (Nat.le_of_ble_eq_true rfl) (Nat.le_of_ble_eq_true rfl) (Nat.le_of_ble_eq_true rfl) dX9_init_54 (fun H hH => ?_)
  obtain ⟨K25, hK25, hf⟩ := bnd hf
  replace hK25 := Option.some.inj hK25
  obtain ⟨w26, hw26, hf⟩ := bnd hf
  replace hw26 := Option.some.inj hw26
  rw [hK25, hw26] at hH
  obtain ⟨a27, ha27, hf⟩ := bnd hf
  replace ha27 := chk_some ha27
  obtain ⟨w28, hw28, hf⟩ := bnd hf
  replace hw28 := Option.some.inj hw28
  refine pf9_6 (v := (some ((((((n + 1) + 1) + 1) + 1) + 1) + 1))) hx hb hts hown hKs hH ha27.1 ha27.2 hn2 m1_162 dX9_init_56 (fun H locs hH => ?_)
  rw [hw28] at hH
  refine hl_aload_n hx hb dX9_init_59 rfl (lv_at hl 0 rfl) ?_
  refine lv_bipush (v := 12) hx hb dX9_init_60 (by decide) ?_
  refine hw_newa20 (N := 12) hx hb hts m1_67 hKs hH (by decide) (by decide) (Nat.le_of_ble_eq_true rfl) (Nat.le_of_ble_eq_true rfl) (Nat.le_of_ble_eq_true rfl) dX9_init_62 (fun H hH => ?_)
  obtain ⟨K29, hK29, hf⟩ := bnd hf
  replace hK29 := Option.some.inj hK29
  obtain ⟨w30, hw30, hf⟩ := bnd hf
  replace hw30 := Option.some.inj hw30
  rw [hK29, hw30] at hH
  obtain ⟨a31, ha31, hf⟩ := bnd hf
  replace ha31 := chk_some ha31
  obtain ⟨w32, hw32, hf⟩ := bnd hf
  replace hw32 := Option.some.inj hw32
  refine pf9_7 (v := (some (((((((n + 1) + 1) + 1) + 1) + 1) + 1) + 1))) hx hb hts hown hKs hH ha31.1 ha31.2 hn2 m1_165 dX9_init_64 (fun H locs hH => ?_)
  rw [hw32] at hH
  refine hl_aload_n hx hb dX9_init_67 rfl (lv_at hl 0 rfl) ?_
  refine lv_bipush (v := 12) hx hb dX9_init_68 (by decide) ?_
  refine hw_newa20 (N := 12) hx hb hts m1_67 hKs hH (by decide) (by decide) (Nat.le_of_ble_eq_true rfl) (Nat.le_of_ble_eq_true rfl) (Nat.le_of_ble_eq_true rfl) dX9_init_70 (fun H hH => ?_)
  obtain ⟨K33, hK33, hf⟩ := bnd hf
  replace hK33 := Option.some.inj hK33
  obtain ⟨w34, hw34, hf⟩ := bnd hf
  replace hw34 := Option.some.inj hw34
  rw [hK33, hw34] at hH
  obtain ⟨a35, ha35, hf⟩ := bnd hf
  replace ha35 := chk_some ha35
  obtain ⟨w36, hw36, hf⟩ := bnd hf
  replace hw36 := Option.some.inj hw36
  refine pf9_8 (v := (some ((((((((n + 1) + 1) + 1) + 1) + 1) + 1) + 1) + 1))) hx hb hts hown hKs hH ha35.1 ha35.2 hn2 m1_168 dX9_init_72 (fun H locs hH => ?_)
  rw [hw36] at hH
  refine hl_aload_n hx hb dX9_init_75 rfl (lv_at hl 0 rfl) ?_
  refine lv_bipush (v := 12) hx hb dX9_init_76 (by decide) ?_
  refine hw_newq25 (N := 12) hx hb hts hown m1_50 (va_AO.use (hKs.2.2.2.2.2 _ (by decide))) hKs hH (by decide) (by decide) (Nat.le_of_ble_eq_true rfl) (Nat.le_of_ble_eq_true rfl) (Nat.le_of_ble_eq_true rfl) dX9_init_78 (fun H hH => ?_)
  obtain ⟨K37, hK37, hf⟩ := bnd hf
  replace hK37 := Option.some.inj hK37
  obtain ⟨w38, hw38, hf⟩ := bnd hf
  replace hw38 := Option.some.inj hw38
  rw [hK37, hw38] at hH
  obtain ⟨a39, ha39, hf⟩ := bnd hf
  replace ha39 := chk_some ha39
  obtain ⟨w40, hw40, hf⟩ := bnd hf
  replace hw40 := Option.some.inj hw40
  refine pf9_9 (v := (some (((((((((n + 1) + 1) + 1) + 1) + 1) + 1) + 1) + 1) + 1))) hx hb hts hown hKs hH ha39.1 ha39.2 hn2 m1_171 dX9_init_81 (fun H locs hH => ?_)
  rw [hw40] at hH
  refine hl_aload_n hx hb dX9_init_84 rfl (lv_at hl 0 rfl) ?_
  refine hw_new (ci := 1) (C := RX2) (T := TX2) (N := 2) hx hb hts iX2 tyX2 tyX2_ok hown m1_52 (hts _ m1_53) m1_3 hKs hb0 hH rfl rfl (fun j hj => dfX2 j hj) (Nat.le_of_ble_eq_true rfl) (Nat.le_of_ble_eq_true rfl) dX9_init_85 (fun H hH => ?_)
  obtain ⟨K41, hK41, hf⟩ := bnd hf
  replace hK41 := Option.some.inj hK41
  obtain ⟨w42, hw42, hf⟩ := bnd hf
  replace hw42 := Option.some.inj hw42
  rw [hK41, hw42] at hH
  refine lv_dup hx hb dX9_init_88 rv_cat ?_
  obtain ⟨q43, hq43, hf⟩ := bnd hf
  refine hcA hH (va_runIN (As := []) (rest := [rv E (some ((((((((((n + 1) + 1) + 1) + 1) + 1) + 1) + 1) + 1) + 1) + 1)), rv E (some o)]) ⟨hx, hb, hml, hown, hts⟩ (k_X2_init l E K41 (((((((((((n + 1) + 1) + 1) + 1) + 1) + 1) + 1) + 1) + 1) + 1) + 1) ((((((((((n + 1) + 1) + 1) + 1) + 1) + 1) + 1) + 1) + 1) + 1) w42 hq43) ⟨va_cnB _ hts (gC m1_56) rfl rfl rfl (hKs.2.1 _ m1_54) (hts _ m1_3) hs_X2_init ⟨Nat.le_of_ble_eq_true rfl, Nat.le_of_ble_eq_true rfl⟩, rfl, hts _ m1_55⟩ ⟨HB.blind, HB.preN hKs hT hb0 hH⟩ rfl rfl hl.1 rfl (lv_room (rcV (rcV rc0))) dX9_init_89 ⟨Nat.le_of_ble_eq_true rfl, Nat.le_of_ble_eq_true rfl⟩) (fun H locs hH => ?_)
  obtain ⟨a44, ha44, hf⟩ := bnd hf
  replace ha44 := chk_some ha44
  obtain ⟨w45, hw45, hf⟩ := bnd hf
  replace hw45 := Option.some.inj hw45
  refine pf9_10 (v := (some ((((((((((n + 1) + 1) + 1) + 1) + 1) + 1) + 1) + 1) + 1) + 1))) hx hb hts hown hKs hH ha44.1 ha44.2 hn2 m1_176 dX9_init_92 (fun H locs hH => ?_)
  rw [hw45] at hH
  refine hl_aload_n hx hb dX9_init_95 rfl (lv_at hl 0 rfl) ?_
  refine lv_iconst (v := 4) hx hb dX9_init_96 (by decide) ?_
  refine hw_newa20 (N := 4) hx hb hts m1_67 hKs hH (by decide) (by decide) (Nat.le_of_ble_eq_true rfl) (Nat.le_of_ble_eq_true rfl) (Nat.le_of_ble_eq_true rfl) dX9_init_97 (fun H hH => ?_)
  obtain ⟨K46, hK46, hf⟩ := bnd hf
  replace hK46 := Option.some.inj hK46
  obtain ⟨w47, hw47, hf⟩ := bnd hf
  replace hw47 := Option.some.inj hw47
  rw [hK46, hw47] at hH
  obtain ⟨a48, ha48, hf⟩ := bnd hf
  replace ha48 := chk_some ha48
  obtain ⟨w49, hw49, hf⟩ := bnd hf
  replace hw49 := Option.some.inj hw49
  refine pf9_11 (v := (some q43.2.1)) hx hb hts hown hKs hH ha48.1 ha48.2 hn2 m1_179 dX9_init_99 (fun H locs hH => ?_)
  rw [hw49] at hH
  refine hl_aload_n hx hb dX9_init_102 rfl (lv_at hl 0 rfl) ?_
  refine g9_0 hx hb hts hown hKs hH ha48.1 ha48.2 m1_151 dX9_init_103 ?_
  refine lv_iconst (v := 0) hx hb dX9_init_106 (by decide) ?_
  refine hw_new (ci := 3) (C := RX4) (T := TX4) (N := 2) hx hb hts iX4 tyX4 tyX4_ok hown m1_48 (hts _ m1_68) m1_4 hKs hb0 hH rfl rfl (fun j hj => dfX4 j hj) (Nat.le_of_ble_eq_true rfl) (Nat.le_of_ble_eq_true rfl) dX9_init_107 (fun H hH => ?_)
  obtain ⟨K50, hK50, hf⟩ := bnd hf
  replace hK50 := Option.some.inj hK50
  obtain ⟨w51, hw51, hf⟩ := bnd hf
  replace hw51 := Option.some.inj hw51
  rw [hK50, hw51] at hH
  refine lv_dup hx hb dX9_init_110 rv_cat ?_
  refine lv_iconst (v := 3) hx hb dX9_init_111 (by decide) ?_
  obtain ⟨q52, hq52, hf⟩ := bnd hf
  refine hcA hH (va_runI (As := [.int 3]) (rest := [rv E (some (q43.2.1 + 1)), .int 0, rv E (wR w49 900 a48)]) ⟨hx, hb, hml, hown, hts⟩ (k_X4_init l E K50 ((q43.2.1 + 1) + 1) (q43.2.1 + 1) 3 w51 hq52) (cwI _ hts (gC m1_71) rfl rfl rfl (hts _ m1_4) (hts _ m1_69) (hts _ m1_70) rfl hs_X4_init ⟨Nat.le_of_ble_eq_true rfl, Nat.le_of_ble_eq_true rfl⟩) ⟨HB.blind, HB.preN hKs hT hb0 hH⟩ rfl rfl hl.1 rfl (lv_room (rcV (rcI (rcV rc0)))) dX9_init_112 ⟨Nat.le_of_ble_eq_true rfl, Nat.le_of_ble_eq_true rfl⟩) (fun H locs hH => ?_)
  obtain ⟨a53, ha53, hf⟩ := bnd hf
  replace ha53 := cha_some ha53
  obtain ⟨j54, hj54, hf⟩ := bnd hf
  obtain ⟨a55, ha55, hf⟩ := bnd hf
  replace ha55 := chk_some ha55
  obtain ⟨w56, hw56, hf⟩ := bnd hf
  replace hw56 := Option.some.inj hw56
  refine hw_aast26 hx hb hKs hH ha53.1 ha53.2 ha55.1 ha55.2 hj54 dX9_init_115 (fun H locs hH => ?_)
  rw [hw56] at hH
  refine hl_aload_n hx hb dX9_init_116 rfl (lv_at hl 0 rfl) ?_
  obtain ⟨a57, ha57, hf⟩ := bnd hf
  replace ha57 := chk_some ha57
  refine g9_0 hx hb hts hown hKs hH ha57.1 ha57.2 m1_151 dX9_init_117 ?_
  refine lv_iconst (v := 1) hx hb dX9_init_120 (by decide) ?_
  refine hw_new (ci := 3) (C := RX4) (T := TX4) (N := 2) hx hb hts iX4 tyX4 tyX4_ok hown m1_48 (hts _ m1_68) m1_4 hKs hb0 hH rfl rfl (fun j hj => dfX4 j hj) (Nat.le_of_ble_eq_true rfl) (Nat.le_of_ble_eq_true rfl) dX9_init_121 (fun H hH => ?_)
  obtain ⟨K58, hK58, hf⟩ := bnd hf
  replace hK58 := Option.some.inj hK58
  obtain ⟨w59, hw59, hf⟩ := bnd hf
  replace hw59 := Option.some.inj hw59
  rw [hK58, hw59] at hH
  refine lv_dup hx hb dX9_init_124 rv_cat ?_
  refine lv_bipush (v := 6) hx hb dX9_init_125 (by decide) ?_
  obtain ⟨q60, hq60, hf⟩ := bnd hf
  refine hcA hH (va_runI (As := [.int 6]) (rest := [rv E (some q52.2.1), .int 1, rv E (wR w56 900 a57)]) ⟨hx, hb, hml, hown, hts⟩ (k_X4_init l E K58 (q52.2.1 + 1) q52.2.1 6 w59 hq60) (cwI _ hts (gC m1_71) rfl rfl rfl (hts _ m1_4) (hts _ m1_69) (hts _ m1_70) rfl hs_X4_init ⟨Nat.le_of_ble_eq_true rfl, Nat.le_of_ble_eq_true rfl⟩) ⟨HB.blind, HB.preN hKs hT hb0 hH⟩ rfl rfl hl.1 rfl (lv_room (rcV (rcI (rcV rc0)))) dX9_init_127 ⟨Nat.le_of_ble_eq_true rfl, Nat.le_of_ble_eq_true rfl⟩) (fun H locs hH => ?_)
  obtain ⟨a61, ha61, hf⟩ := bnd hf
  replace ha61 := cha_some ha61
  obtain ⟨j62, hj62, hf⟩ := bnd hf
  obtain ⟨a63, ha63, hf⟩ := bnd hf
  replace ha63 := chk_some ha63
  obtain ⟨w64, hw64, hf⟩ := bnd hf
  replace hw64 := Option.some.inj hw64
  refine hw_aast26 hx hb hKs hH ha61.1 ha61.2 ha63.1 ha63.2 hj62 dX9_init_130 (fun H locs hH => ?_)
  rw [hw64] at hH
  refine hl_aload_n hx hb dX9_init_131 rfl (lv_at hl 0 rfl) ?_
  obtain ⟨a65, ha65, hf⟩ := bnd hf
  replace ha65 := chk_some ha65
  refine g9_0 hx hb hts hown hKs hH ha65.1 ha65.2 m1_151 dX9_init_132 ?_
  refine lv_iconst (v := 2) hx hb dX9_init_135 (by decide) ?_
  refine hw_new (ci := 3) (C := RX4) (T := TX4) (N := 2) hx hb hts iX4 tyX4 tyX4_ok hown m1_48 (hts _ m1_68) m1_4 hKs hb0 hH rfl rfl (fun j hj => dfX4 j hj) (Nat.le_of_ble_eq_true rfl) (Nat.le_of_ble_eq_true rfl) dX9_init_136 (fun H hH => ?_)
  obtain ⟨K66, hK66, hf⟩ := bnd hf
  replace hK66 := Option.some.inj hK66
  obtain ⟨w67, hw67, hf⟩ := bnd hf
  replace hw67 := Option.some.inj hw67
  rw [hK66, hw67] at hH
  refine lv_dup hx hb dX9_init_139 rv_cat ?_
  refine lv_bipush (v := 12) hx hb dX9_init_140 (by decide) ?_
  obtain ⟨q68, hq68, hf⟩ := bnd hf
  refine hcA hH (va_runI (As := [.int 12]) (rest := [rv E (some q60.2.1), .int 2, rv E (wR w64 900 a65)]) ⟨hx, hb, hml, hown, hts⟩ (k_X4_init l E K66 (q60.2.1 + 1) q60.2.1 12 w67 hq68) (cwI _ hts (gC m1_71) rfl rfl rfl (hts _ m1_4) (hts _ m1_69) (hts _ m1_70) rfl hs_X4_init ⟨Nat.le_of_ble_eq_true rfl, Nat.le_of_ble_eq_true rfl⟩) ⟨HB.blind, HB.preN hKs hT hb0 hH⟩ rfl rfl hl.1 rfl (lv_room (rcV (rcI (rcV rc0)))) dX9_init_142 ⟨Nat.le_of_ble_eq_true rfl, Nat.le_of_ble_eq_true rfl⟩) (fun H locs hH => ?_)
  obtain ⟨a69, ha69, hf⟩ := bnd hf
  replace ha69 := cha_some ha69
  obtain ⟨j70, hj70, hf⟩ := bnd hf
  obtain ⟨a71, ha71, hf⟩ := bnd hf
  replace ha71 := chk_some ha71
  obtain ⟨w72, hw72, hf⟩ := bnd hf
  replace hw72 := Option.some.inj hw72
  refine hw_aast26 hx hb hKs hH ha69.1 ha69.2 ha71.1 ha71.2 hj70 dX9_init_145 (fun H locs hH => ?_)
  rw [hw72] at hH
  refine hl_aload_n hx hb dX9_init_146 rfl (lv_at hl 0 rfl) ?_
  obtain ⟨a73, ha73, hf⟩ := bnd hf
  replace ha73 := chk_some ha73
  refine g9_0 hx hb hts hown hKs hH ha73.1 ha73.2 m1_151 dX9_init_147 ?_
  refine lv_iconst (v := 3) hx hb dX9_init_150 (by decide) ?_
  refine hw_new (ci := 3) (C := RX4) (T := TX4) (N := 2) hx hb hts iX4 tyX4 tyX4_ok hown m1_48 (hts _ m1_68) m1_4 hKs hb0 hH rfl rfl (fun j hj => dfX4 j hj) (Nat.le_of_ble_eq_true rfl) (Nat.le_of_ble_eq_true rfl) dX9_init_151 (fun H hH => ?_)
  obtain ⟨K74, hK74, hf⟩ := bnd hf
  replace hK74 := Option.some.inj hK74
  obtain ⟨w75, hw75, hf⟩ := bnd hf
  replace hw75 := Option.some.inj hw75
  rw [hK74, hw75] at hH
  refine lv_dup hx hb dX9_init_154 rv_cat ?_
  refine lv_bipush (v := 12) hx hb dX9_init_155 (by decide) ?_
  obtain ⟨q76, hq76, hf⟩ := bnd hf
  refine hcA hH (va_runI (As := [.int 12]) (rest := [rv E (some q68.2.1), .int 3, rv E (wR w72 900 a73)]) ⟨hx, hb, hml, hown, hts⟩ (k_X4_init l E K74 (q68.2.1 + 1) q68.2.1 12 w75 hq76) (cwI _ hts (gC m1_71) rfl rfl rfl (hts _ m1_4) (hts _ m1_69) (hts _ m1_70) rfl hs_X4_init ⟨Nat.le_of_ble_eq_true rfl, Nat.le_of_ble_eq_true rfl⟩) ⟨HB.blind, HB.preN hKs hT hb0 hH⟩ rfl rfl hl.1 rfl (lv_room (rcV (rcI (rcV rc0)))) dX9_init_157 ⟨Nat.le_of_ble_eq_true rfl, Nat.le_of_ble_eq_true rfl⟩) (fun H locs hH => ?_)
  obtain ⟨a77, ha77, hf⟩ := bnd hf
  replace ha77 := cha_some ha77
  obtain ⟨j78, hj78, hf⟩ := bnd hf
  obtain ⟨a79, ha79, hf⟩ := bnd hf
  replace ha79 := chk_some ha79
  obtain ⟨w80, hw80, hf⟩ := bnd hf
  replace hw80 := Option.some.inj hw80
  refine hw_aast26 hx hb hKs hH ha77.1 ha77.2 ha79.1 ha79.2 hj78 dX9_init_160 (fun H locs hH => ?_)
  rw [hw80] at hH
  refine lv_iconst (v := 0) hx hb dX9_init_161 (by decide) ?_
  refine lv_istore_n (i := 1) (lv' := [(1, .int 0), (0, rv E (some o))]) hx hb dX9_init_162 rfl hl (by decide) rfl (fun ls hl => ?_)
  refine lv_iload_n hx hb dX9_init_163 rfl (lv_at hl 0 rfl) ?_
  refine lv_bipush (v := 12) hx hb dX9_init_164 (by decide) ?_
  refine lv_icmp_ge (tgt := 188) hx hb dX9_init_166 (by decide) (fun c81 => ?_) (fun c81 => ?_)
  · exact (by revert c81; decide : False).elim
  · skip
    refine hl_aload_n hx hb dX9_init_169 rfl (lv_at hl 1 rfl) ?_
    obtain ⟨a82, ha82, hf⟩ := bnd hf
    replace ha82 := chk_some ha82
    refine g9_9 hx hb hts hown hKs hH ha82.1 ha82.2 m1_171 dX9_init_170 ?_
    refine lv_iload_n hx hb dX9_init_173 rfl (lv_at hl 0 rfl) ?_
    refine hw_new (ci := 2) (C := RX3) (T := TX3) (N := 7) hx hb hts iX3 tyX3 tyX3_ok hown m1_50 (hts _ m1_85) m1_6 hKs hb0 hH rfl rfl (fun j hj => dfX3 j hj) (Nat.le_of_ble_eq_true rfl) (Nat.le_of_ble_eq_true rfl) dX9_init_174 (fun H hH => ?_)
    obtain ⟨K83, hK83, hf⟩ := bnd hf
    replace hK83 := Option.some.inj hK83
    obtain ⟨w84, hw84, hf⟩ := bnd hf
    replace hw84 := Option.some.inj hw84
    rw [hK83, hw84] at hH
    refine lv_dup hx hb dX9_init_177 rv_cat ?_
    obtain ⟨q85, hq85, hf⟩ := bnd hf
    refine hcA hH (va_runIN (As := []) (rest := [rv E (some q76.2.1), .int 0, rv E (wR w80 909 a82)]) ⟨hx, hb, hml, hown, hts⟩ (k_X3_init l E K83 (q76.2.1 + 1) q76.2.1 w84 hq85) ⟨va_cnB _ hts (gC m1_88) rfl rfl rfl (hKs.2.1 _ m1_86) (hts _ m1_6) hs_X3_init ⟨Nat.le_of_ble_eq_true rfl, Nat.le_of_ble_eq_true rfl⟩, rfl, hts _ m1_87⟩ ⟨HB.blind, HB.preN hKs hT hb0 hH⟩ rfl rfl hl.1 rfl (lv_room (rcV (rcI (rcV rc0)))) dX9_init_178 ⟨Nat.le_of_ble_eq_true rfl, Nat.le_of_ble_eq_true rfl⟩) (fun H locs hH => ?_)
    obtain ⟨a86, ha86, hf⟩ := bnd hf
    replace ha86 := cha_some ha86
    obtain ⟨j87, hj87, hf⟩ := bnd hf
    obtain ⟨a88, ha88, hf⟩ := bnd hf
    replace ha88 := chk_some ha88
    obtain ⟨w89, hw89, hf⟩ := bnd hf
    replace hw89 := Option.some.inj hw89
    refine hw_aast25 hx hb hKs hH ha86.1 ha86.2 ha88.1 ha88.2 hj87 dX9_init_181 (fun H locs hH => ?_)
    rw [hw89] at hH
    refine lv_iinc (v := 1) (lv' := [(1, .int 1), (0, rv E (some o))]) hx hb dX9_init_182 hl (k := 0) rfl rfl (by decide) rfl (fun ls hl => ?_)
    refine lv_goto (tgt := 163) hx hb dX9_init_185 (by decide) ?_
    refine lv_iload_n hx hb dX9_init_163 rfl (lv_at hl 0 rfl) ?_
    refine lv_bipush (v := 12) hx hb dX9_init_164 (by decide) ?_
    refine lv_icmp_ge (tgt := 188) hx hb dX9_init_166 (by decide) (fun c90 => ?_) (fun c90 => ?_)
    · exact (by revert c90; decide : False).elim
    · skip
      refine hl_aload_n hx hb dX9_init_169 rfl (lv_at hl 1 rfl) ?_
      obtain ⟨a91, ha91, hf⟩ := bnd hf
      replace ha91 := chk_some ha91
      refine g9_9 hx hb hts hown hKs hH ha91.1 ha91.2 m1_171 dX9_init_170 ?_
      refine lv_iload_n hx hb dX9_init_173 rfl (lv_at hl 0 rfl) ?_
      refine hw_new (ci := 2) (C := RX3) (T := TX3) (N := 7) hx hb hts iX3 tyX3 tyX3_ok hown m1_50 (hts _ m1_85) m1_6 hKs hb0 hH rfl rfl (fun j hj => dfX3 j hj) (Nat.le_of_ble_eq_true rfl) (Nat.le_of_ble_eq_true rfl) dX9_init_174 (fun H hH => ?_)
      obtain ⟨K92, hK92, hf⟩ := bnd hf
      replace hK92 := Option.some.inj hK92
      obtain ⟨w93, hw93, hf⟩ := bnd hf
      replace hw93 := Option.some.inj hw93
      rw [hK92, hw93] at hH
      refine lv_dup hx hb dX9_init_177 rv_cat ?_
      obtain ⟨q94, hq94, hf⟩ := bnd hf
      refine hcA hH (va_runIN (As := []) (rest := [rv E (some q85.2.1), .int 1, rv E (wR w89 909 a91)]) ⟨hx, hb, hml, hown, hts⟩ (k_X3_init l E K92 (q85.2.1 + 1) q85.2.1 w93 hq94) ⟨va_cnB _ hts (gC m1_88) rfl rfl rfl (hKs.2.1 _ m1_86) (hts _ m1_6) hs_X3_init ⟨Nat.le_of_ble_eq_true rfl, Nat.le_of_ble_eq_true rfl⟩, rfl, hts _ m1_87⟩ ⟨HB.blind, HB.preN hKs hT hb0 hH⟩ rfl rfl hl.1 rfl (lv_room (rcV (rcI (rcV rc0)))) dX9_init_178 ⟨Nat.le_of_ble_eq_true rfl, Nat.le_of_ble_eq_true rfl⟩) (fun H locs hH => ?_)
      obtain ⟨a95, ha95, hf⟩ := bnd hf
      replace ha95 := cha_some ha95
      obtain ⟨j96, hj96, hf⟩ := bnd hf
      obtain ⟨a97, ha97, hf⟩ := bnd hf
      replace ha97 := chk_some ha97
      obtain ⟨w98, hw98, hf⟩ := bnd hf
      replace hw98 := Option.some.inj hw98
      refine hw_aast25 hx hb hKs hH ha95.1 ha95.2 ha97.1 ha97.2 hj96 dX9_init_181 (fun H locs hH => ?_)
      rw [hw98] at hH
      refine lv_iinc (v := 2) (lv' := [(1, .int 2), (0, rv E (some o))]) hx hb dX9_init_182 hl (k := 0) rfl rfl (by decide) rfl (fun ls hl => ?_)
      refine lv_goto (tgt := 163) hx hb dX9_init_185 (by decide) ?_
      refine lv_iload_n hx hb dX9_init_163 rfl (lv_at hl 0 rfl) ?_
      refine lv_bipush (v := 12) hx hb dX9_init_164 (by decide) ?_
      refine lv_icmp_ge (tgt := 188) hx hb dX9_init_166 (by decide) (fun c99 => ?_) (fun c99 => ?_)
      · exact (by revert c99; decide : False).elim
      · skip
        refine hl_aload_n hx hb dX9_init_169 rfl (lv_at hl 1 rfl) ?_
        obtain ⟨a100, ha100, hf⟩ := bnd hf
        replace ha100 := chk_some ha100
        refine g9_9 hx hb hts hown hKs hH ha100.1 ha100.2 m1_171 dX9_init_170 ?_
        refine lv_iload_n hx hb dX9_init_173 rfl (lv_at hl 0 rfl) ?_
        refine hw_new (ci := 2) (C := RX3) (T := TX3) (N := 7) hx hb hts iX3 tyX3 tyX3_ok hown m1_50 (hts _ m1_85) m1_6 hKs hb0 hH rfl rfl (fun j hj => dfX3 j hj) (Nat.le_of_ble_eq_true rfl) (Nat.le_of_ble_eq_true rfl) dX9_init_174 (fun H hH => ?_)
        obtain ⟨K101, hK101, hf⟩ := bnd hf
        replace hK101 := Option.some.inj hK101
        obtain ⟨w102, hw102, hf⟩ := bnd hf
        replace hw102 := Option.some.inj hw102
        rw [hK101, hw102] at hH
        refine lv_dup hx hb dX9_init_177 rv_cat ?_
        obtain ⟨q103, hq103, hf⟩ := bnd hf
        refine hcA hH (va_runIN (As := []) (rest := [rv E (some q94.2.1), .int 2, rv E (wR w98 909 a100)]) ⟨hx, hb, hml, hown, hts⟩ (k_X3_init l E K101 (q94.2.1 + 1) q94.2.1 w102 hq103) ⟨va_cnB _ hts (gC m1_88) rfl rfl rfl (hKs.2.1 _ m1_86) (hts _ m1_6) hs_X3_init ⟨Nat.le_of_ble_eq_true rfl, Nat.le_of_ble_eq_true rfl⟩, rfl, hts _ m1_87⟩ ⟨HB.blind, HB.preN hKs hT hb0 hH⟩ rfl rfl hl.1 rfl (lv_room (rcV (rcI (rcV rc0)))) dX9_init_178 ⟨Nat.le_of_ble_eq_true rfl, Nat.le_of_ble_eq_true rfl⟩) (fun H locs hH => ?_)
        obtain ⟨a104, ha104, hf⟩ := bnd hf
        replace ha104 := cha_some ha104
        obtain ⟨j105, hj105, hf⟩ := bnd hf
        obtain ⟨a106, ha106, hf⟩ := bnd hf
        replace ha106 := chk_some ha106
        obtain ⟨w107, hw107, hf⟩ := bnd hf
        replace hw107 := Option.some.inj hw107
        refine hw_aast25 hx hb hKs hH ha104.1 ha104.2 ha106.1 ha106.2 hj105 dX9_init_181 (fun H locs hH => ?_)
        rw [hw107] at hH
        refine lv_iinc (v := 3) (lv' := [(1, .int 3), (0, rv E (some o))]) hx hb dX9_init_182 hl (k := 0) rfl rfl (by decide) rfl (fun ls hl => ?_)
        refine lv_goto (tgt := 163) hx hb dX9_init_185 (by decide) ?_
        refine lv_iload_n hx hb dX9_init_163 rfl (lv_at hl 0 rfl) ?_
        refine lv_bipush (v := 12) hx hb dX9_init_164 (by decide) ?_
        refine lv_icmp_ge (tgt := 188) hx hb dX9_init_166 (by decide) (fun c108 => ?_) (fun c108 => ?_)
        · exact (by revert c108; decide : False).elim
        · skip
          refine hl_aload_n hx hb dX9_init_169 rfl (lv_at hl 1 rfl) ?_
          obtain ⟨a109, ha109, hf⟩ := bnd hf
          replace ha109 := chk_some ha109
          refine g9_9 hx hb hts hown hKs hH ha109.1 ha109.2 m1_171 dX9_init_170 ?_
          refine lv_iload_n hx hb dX9_init_173 rfl (lv_at hl 0 rfl) ?_
          refine hw_new (ci := 2) (C := RX3) (T := TX3) (N := 7) hx hb hts iX3 tyX3 tyX3_ok hown m1_50 (hts _ m1_85) m1_6 hKs hb0 hH rfl rfl (fun j hj => dfX3 j hj) (Nat.le_of_ble_eq_true rfl) (Nat.le_of_ble_eq_true rfl) dX9_init_174 (fun H hH => ?_)
          obtain ⟨K110, hK110, hf⟩ := bnd hf
          replace hK110 := Option.some.inj hK110
          obtain ⟨w111, hw111, hf⟩ := bnd hf
          replace hw111 := Option.some.inj hw111
          rw [hK110, hw111] at hH
          refine lv_dup hx hb dX9_init_177 rv_cat ?_
          obtain ⟨q112, hq112, hf⟩ := bnd hf
          refine hcA hH (va_runIN (As := []) (rest := [rv E (some q103.2.1), .int 3, rv E (wR w107 909 a109)]) ⟨hx, hb, hml, hown, hts⟩ (k_X3_init l E K110 (q103.2.1 + 1) q103.2.1 w111 hq112) ⟨va_cnB _ hts (gC m1_88) rfl rfl rfl (hKs.2.1 _ m1_86) (hts _ m1_6) hs_X3_init ⟨Nat.le_of_ble_eq_true rfl, Nat.le_of_ble_eq_true rfl⟩, rfl, hts _ m1_87⟩ ⟨HB.blind, HB.preN hKs hT hb0 hH⟩ rfl rfl hl.1 rfl (lv_room (rcV (rcI (rcV rc0)))) dX9_init_178 ⟨Nat.le_of_ble_eq_true rfl, Nat.le_of_ble_eq_true rfl⟩) (fun H locs hH => ?_)
          obtain ⟨a113, ha113, hf⟩ := bnd hf
          replace ha113 := cha_some ha113
          obtain ⟨j114, hj114, hf⟩ := bnd hf
          obtain ⟨a115, ha115, hf⟩ := bnd hf
          replace ha115 := chk_some ha115
          obtain ⟨w116, hw116, hf⟩ := bnd hf
          replace hw116 := Option.some.inj hw116
          refine hw_aast25 hx hb hKs hH ha113.1 ha113.2 ha115.1 ha115.2 hj114 dX9_init_181 (fun H locs hH => ?_)
          rw [hw116] at hH
          refine lv_iinc (v := 4) (lv' := [(1, .int 4), (0, rv E (some o))]) hx hb dX9_init_182 hl (k := 0) rfl rfl (by decide) rfl (fun ls hl => ?_)
          refine lv_goto (tgt := 163) hx hb dX9_init_185 (by decide) ?_
          refine lv_iload_n hx hb dX9_init_163 rfl (lv_at hl 0 rfl) ?_
          refine lv_bipush (v := 12) hx hb dX9_init_164 (by decide) ?_
          refine lv_icmp_ge (tgt := 188) hx hb dX9_init_166 (by decide) (fun c117 => ?_) (fun c117 => ?_)
          · exact (by revert c117; decide : False).elim
          · skip
            refine hl_aload_n hx hb dX9_init_169 rfl (lv_at hl 1 rfl) ?_
            obtain ⟨a118, ha118, hf⟩ := bnd hf
            replace ha118 := chk_some ha118
            refine g9_9 hx hb hts hown hKs hH ha118.1 ha118.2 m1_171 dX9_init_170 ?_
            refine lv_iload_n hx hb dX9_init_173 rfl (lv_at hl 0 rfl) ?_
            refine hw_new (ci := 2) (C := RX3) (T := TX3) (N := 7) hx hb hts iX3 tyX3 tyX3_ok hown m1_50 (hts _ m1_85) m1_6 hKs hb0 hH rfl rfl (fun j hj => dfX3 j hj) (Nat.le_of_ble_eq_true rfl) (Nat.le_of_ble_eq_true rfl) dX9_init_174 (fun H hH => ?_)
            obtain ⟨K119, hK119, hf⟩ := bnd hf
            replace hK119 := Option.some.inj hK119
            obtain ⟨w120, hw120, hf⟩ := bnd hf
            replace hw120 := Option.some.inj hw120
            rw [hK119, hw120] at hH
            refine lv_dup hx hb dX9_init_177 rv_cat ?_
            obtain ⟨q121, hq121, hf⟩ := bnd hf
            refine hcA hH (va_runIN (As := []) (rest := [rv E (some q112.2.1), .int 4, rv E (wR w116 909 a118)]) ⟨hx, hb, hml, hown, hts⟩ (k_X3_init l E K119 (q112.2.1 + 1) q112.2.1 w120 hq121) ⟨va_cnB _ hts (gC m1_88) rfl rfl rfl (hKs.2.1 _ m1_86) (hts _ m1_6) hs_X3_init ⟨Nat.le_of_ble_eq_true rfl, Nat.le_of_ble_eq_true rfl⟩, rfl, hts _ m1_87⟩ ⟨HB.blind, HB.preN hKs hT hb0 hH⟩ rfl rfl hl.1 rfl (lv_room (rcV (rcI (rcV rc0)))) dX9_init_178 ⟨Nat.le_of_ble_eq_true rfl, Nat.le_of_ble_eq_true rfl⟩) (fun H locs hH => ?_)
            obtain ⟨a122, ha122, hf⟩ := bnd hf
            replace ha122 := cha_some ha122
            obtain ⟨j123, hj123, hf⟩ := bnd hf
            obtain ⟨a124, ha124, hf⟩ := bnd hf
            replace ha124 := chk_some ha124
            obtain ⟨w125, hw125, hf⟩ := bnd hf
            replace hw125 := Option.some.inj hw125
            refine hw_aast25 hx hb hKs hH ha122.1 ha122.2 ha124.1 ha124.2 hj123 dX9_init_181 (fun H locs hH => ?_)
            rw [hw125] at hH
            refine lv_iinc (v := 5) (lv' := [(1, .int 5), (0, rv E (some o))]) hx hb dX9_init_182 hl (k := 0) rfl rfl (by decide) rfl (fun ls hl => ?_)
            refine lv_goto (tgt := 163) hx hb dX9_init_185 (by decide) ?_
            refine lv_iload_n hx hb dX9_init_163 rfl (lv_at hl 0 rfl) ?_
            refine lv_bipush (v := 12) hx hb dX9_init_164 (by decide) ?_
            refine lv_icmp_ge (tgt := 188) hx hb dX9_init_166 (by decide) (fun c126 => ?_) (fun c126 => ?_)
            · exact (by revert c126; decide : False).elim
            · skip
              refine hl_aload_n hx hb dX9_init_169 rfl (lv_at hl 1 rfl) ?_
              obtain ⟨a127, ha127, hf⟩ := bnd hf
              replace ha127 := chk_some ha127
              refine g9_9 hx hb hts hown hKs hH ha127.1 ha127.2 m1_171 dX9_init_170 ?_
              refine lv_iload_n hx hb dX9_init_173 rfl (lv_at hl 0 rfl) ?_
              refine hw_new (ci := 2) (C := RX3) (T := TX3) (N := 7) hx hb hts iX3 tyX3 tyX3_ok hown m1_50 (hts _ m1_85) m1_6 hKs hb0 hH rfl rfl (fun j hj => dfX3 j hj) (Nat.le_of_ble_eq_true rfl) (Nat.le_of_ble_eq_true rfl) dX9_init_174 (fun H hH => ?_)
              obtain ⟨K128, hK128, hf⟩ := bnd hf
              replace hK128 := Option.some.inj hK128
              obtain ⟨w129, hw129, hf⟩ := bnd hf
              replace hw129 := Option.some.inj hw129
              rw [hK128, hw129] at hH
              refine lv_dup hx hb dX9_init_177 rv_cat ?_
              obtain ⟨q130, hq130, hf⟩ := bnd hf
              refine hcA hH (va_runIN (As := []) (rest := [rv E (some q121.2.1), .int 5, rv E (wR w125 909 a127)]) ⟨hx, hb, hml, hown, hts⟩ (k_X3_init l E K128 (q121.2.1 + 1) q121.2.1 w129 hq130) ⟨va_cnB _ hts (gC m1_88) rfl rfl rfl (hKs.2.1 _ m1_86) (hts _ m1_6) hs_X3_init ⟨Nat.le_of_ble_eq_true rfl, Nat.le_of_ble_eq_true rfl⟩, rfl, hts _ m1_87⟩ ⟨HB.blind, HB.preN hKs hT hb0 hH⟩ rfl rfl hl.1 rfl (lv_room (rcV (rcI (rcV rc0)))) dX9_init_178 ⟨Nat.le_of_ble_eq_true rfl, Nat.le_of_ble_eq_true rfl⟩) (fun H locs hH => ?_)
              obtain ⟨a131, ha131, hf⟩ := bnd hf
              replace ha131 := cha_some ha131
              obtain ⟨j132, hj132, hf⟩ := bnd hf
              obtain ⟨a133, ha133, hf⟩ := bnd hf
              replace ha133 := chk_some ha133
              obtain ⟨w134, hw134, hf⟩ := bnd hf
              replace hw134 := Option.some.inj hw134
              refine hw_aast25 hx hb hKs hH ha131.1 ha131.2 ha133.1 ha133.2 hj132 dX9_init_181 (fun H locs hH => ?_)
              rw [hw134] at hH
              refine lv_iinc (v := 6) (lv' := [(1, .int 6), (0, rv E (some o))]) hx hb dX9_init_182 hl (k := 0) rfl rfl (by decide) rfl (fun ls hl => ?_)
              refine lv_goto (tgt := 163) hx hb dX9_init_185 (by decide) ?_
              refine lv_iload_n hx hb dX9_init_163 rfl (lv_at hl 0 rfl) ?_
              refine lv_bipush (v := 12) hx hb dX9_init_164 (by decide) ?_
              refine lv_icmp_ge (tgt := 188) hx hb dX9_init_166 (by decide) (fun c135 => ?_) (fun c135 => ?_)
              · exact (by revert c135; decide : False).elim
              · skip
                refine hl_aload_n hx hb dX9_init_169 rfl (lv_at hl 1 rfl) ?_
                obtain ⟨a136, ha136, hf⟩ := bnd hf
                replace ha136 := chk_some ha136
                refine g9_9 hx hb hts hown hKs hH ha136.1 ha136.2 m1_171 dX9_init_170 ?_
                refine lv_iload_n hx hb dX9_init_173 rfl (lv_at hl 0 rfl) ?_
                refine hw_new (ci := 2) (C := RX3) (T := TX3) (N := 7) hx hb hts iX3 tyX3 tyX3_ok hown m1_50 (hts _ m1_85) m1_6 hKs hb0 hH rfl rfl (fun j hj => dfX3 j hj) (Nat.le_of_ble_eq_true rfl) (Nat.le_of_ble_eq_true rfl) dX9_init_174 (fun H hH => ?_)
                obtain ⟨K137, hK137, hf⟩ := bnd hf
                replace hK137 := Option.some.inj hK137
                obtain ⟨w138, hw138, hf⟩ := bnd hf
                replace hw138 := Option.some.inj hw138
                rw [hK137, hw138] at hH
                refine lv_dup hx hb dX9_init_177 rv_cat ?_
                obtain ⟨q139, hq139, hf⟩ := bnd hf
                refine hcA hH (va_runIN (As := []) (rest := [rv E (some q130.2.1), .int 6, rv E (wR w134 909 a136)]) ⟨hx, hb, hml, hown, hts⟩ (k_X3_init l E K137 (q130.2.1 + 1) q130.2.1 w138 hq139) ⟨va_cnB _ hts (gC m1_88) rfl rfl rfl (hKs.2.1 _ m1_86) (hts _ m1_6) hs_X3_init ⟨Nat.le_of_ble_eq_true rfl, Nat.le_of_ble_eq_true rfl⟩, rfl, hts _ m1_87⟩ ⟨HB.blind, HB.preN hKs hT hb0 hH⟩ rfl rfl hl.1 rfl (lv_room (rcV (rcI (rcV rc0)))) dX9_init_178 ⟨Nat.le_of_ble_eq_true rfl, Nat.le_of_ble_eq_true rfl⟩) (fun H locs hH => ?_)
                obtain ⟨a140, ha140, hf⟩ := bnd hf
                replace ha140 := cha_some ha140
                obtain ⟨j141, hj141, hf⟩ := bnd hf
                obtain ⟨a142, ha142, hf⟩ := bnd hf
                replace ha142 := chk_some ha142
                obtain ⟨w143, hw143, hf⟩ := bnd hf
                replace hw143 := Option.some.inj hw143
                refine hw_aast25 hx hb hKs hH ha140.1 ha140.2 ha142.1 ha142.2 hj141 dX9_init_181 (fun H locs hH => ?_)
                rw [hw143] at hH
                refine lv_iinc (v := 7) (lv' := [(1, .int 7), (0, rv E (some o))]) hx hb dX9_init_182 hl (k := 0) rfl rfl (by decide) rfl (fun ls hl => ?_)
                refine lv_goto (tgt := 163) hx hb dX9_init_185 (by decide) ?_
                refine lv_iload_n hx hb dX9_init_163 rfl (lv_at hl 0 rfl) ?_
                refine lv_bipush (v := 12) hx hb dX9_init_164 (by decide) ?_
                refine lv_icmp_ge (tgt := 188) hx hb dX9_init_166 (by decide) (fun c144 => ?_) (fun c144 => ?_)
                · exact (by revert c144; decide : False).elim
                · skip
                  refine hl_aload_n hx hb dX9_init_169 rfl (lv_at hl 1 rfl) ?_
                  obtain ⟨a145, ha145, hf⟩ := bnd hf
                  replace ha145 := chk_some ha145
                  refine g9_9 hx hb hts hown hKs hH ha145.1 ha145.2 m1_171 dX9_init_170 ?_
                  refine lv_iload_n hx hb dX9_init_173 rfl (lv_at hl 0 rfl) ?_
                  refine hw_new (ci := 2) (C := RX3) (T := TX3) (N := 7) hx hb hts iX3 tyX3 tyX3_ok hown m1_50 (hts _ m1_85) m1_6 hKs hb0 hH rfl rfl (fun j hj => dfX3 j hj) (Nat.le_of_ble_eq_true rfl) (Nat.le_of_ble_eq_true rfl) dX9_init_174 (fun H hH => ?_)
                  obtain ⟨K146, hK146, hf⟩ := bnd hf
                  replace hK146 := Option.some.inj hK146
                  obtain ⟨w147, hw147, hf⟩ := bnd hf
                  replace hw147 := Option.some.inj hw147
                  rw [hK146, hw147] at hH
                  refine lv_dup hx hb dX9_init_177 rv_cat ?_
                  obtain ⟨q148, hq148, hf⟩ := bnd hf
                  refine hcA hH (va_runIN (As := []) (rest := [rv E (some q139.2.1), .int 7, rv E (wR w143 909 a145)]) ⟨hx, hb, hml, hown, hts⟩ (k_X3_init l E K146 (q139.2.1 + 1) q139.2.1 w147 hq148) ⟨va_cnB _ hts (gC m1_88) rfl rfl rfl (hKs.2.1 _ m1_86) (hts _ m1_6) hs_X3_init ⟨Nat.le_of_ble_eq_true rfl, Nat.le_of_ble_eq_true rfl⟩, rfl, hts _ m1_87⟩ ⟨HB.blind, HB.preN hKs hT hb0 hH⟩ rfl rfl hl.1 rfl (lv_room (rcV (rcI (rcV rc0)))) dX9_init_178 ⟨Nat.le_of_ble_eq_true rfl, Nat.le_of_ble_eq_true rfl⟩) (fun H locs hH => ?_)
                  obtain ⟨a149, ha149, hf⟩ := bnd hf
                  replace ha149 := cha_some ha149
                  obtain ⟨j150, hj150, hf⟩ := bnd hf
                  obtain ⟨a151, ha151, hf⟩ := bnd hf
                  replace ha151 := chk_some ha151
                  obtain ⟨w152, hw152, hf⟩ := bnd hf
                  replace hw152 := Option.some.inj hw152
                  refine hw_aast25 hx hb hKs hH ha149.1 ha149.2 ha151.1 ha151.2 hj150 dX9_init_181 (fun H locs hH => ?_)
                  rw [hw152] at hH
                  refine lv_iinc (v := 8) (lv' := [(1, .int 8), (0, rv E (some o))]) hx hb dX9_init_182 hl (k := 0) rfl rfl (by decide) rfl (fun ls hl => ?_)
                  refine lv_goto (tgt := 163) hx hb dX9_init_185 (by decide) ?_
                  refine lv_iload_n hx hb dX9_init_163 rfl (lv_at hl 0 rfl) ?_
                  refine lv_bipush (v := 12) hx hb dX9_init_164 (by decide) ?_
                  refine lv_icmp_ge (tgt := 188) hx hb dX9_init_166 (by decide) (fun c153 => ?_) (fun c153 => ?_)
                  · exact (by revert c153; decide : False).elim
                  · skip
                    refine hl_aload_n hx hb dX9_init_169 rfl (lv_at hl 1 rfl) ?_
                    obtain ⟨a154, ha154, hf⟩ := bnd hf
                    replace ha154 := chk_some ha154
                    refine g9_9 hx hb hts hown hKs hH ha154.1 ha154.2 m1_171 dX9_init_170 ?_
                    refine lv_iload_n hx hb dX9_init_173 rfl (lv_at hl 0 rfl) ?_
                    refine hw_new (ci := 2) (C := RX3) (T := TX3) (N := 7) hx hb hts iX3 tyX3 tyX3_ok hown m1_50 (hts _ m1_85) m1_6 hKs hb0 hH rfl rfl (fun j hj => dfX3 j hj) (Nat.le_of_ble_eq_true rfl) (Nat.le_of_ble_eq_true rfl) dX9_init_174 (fun H hH => ?_)
                    obtain ⟨K155, hK155, hf⟩ := bnd hf
                    replace hK155 := Option.some.inj hK155
                    obtain ⟨w156, hw156, hf⟩ := bnd hf
                    replace hw156 := Option.some.inj hw156
                    rw [hK155, hw156] at hH
                    refine lv_dup hx hb dX9_init_177 rv_cat ?_
                    obtain ⟨q157, hq157, hf⟩ := bnd hf
                    refine hcA hH (va_runIN (As := []) (rest := [rv E (some q148.2.1), .int 8, rv E (wR w152 909 a154)]) ⟨hx, hb, hml, hown, hts⟩ (k_X3_init l E K155 (q148.2.1 + 1) q148.2.1 w156 hq157) ⟨va_cnB _ hts (gC m1_88) rfl rfl rfl (hKs.2.1 _ m1_86) (hts _ m1_6) hs_X3_init ⟨Nat.le_of_ble_eq_true rfl, Nat.le_of_ble_eq_true rfl⟩, rfl, hts _ m1_87⟩ ⟨HB.blind, HB.preN hKs hT hb0 hH⟩ rfl rfl hl.1 rfl (lv_room (rcV (rcI (rcV rc0)))) dX9_init_178 ⟨Nat.le_of_ble_eq_true rfl, Nat.le_of_ble_eq_true rfl⟩) (fun H locs hH => ?_)
                    obtain ⟨a158, ha158, hf⟩ := bnd hf
                    replace ha158 := cha_some ha158
                    obtain ⟨j159, hj159, hf⟩ := bnd hf
                    obtain ⟨a160, ha160, hf⟩ := bnd hf
                    replace ha160 := chk_some ha160
                    obtain ⟨w161, hw161, hf⟩ := bnd hf
                    replace hw161 := Option.some.inj hw161
                    refine hw_aast25 hx hb hKs hH ha158.1 ha158.2 ha160.1 ha160.2 hj159 dX9_init_181 (fun H locs hH => ?_)
                    rw [hw161] at hH
                    refine lv_iinc (v := 9) (lv' := [(1, .int 9), (0, rv E (some o))]) hx hb dX9_init_182 hl (k := 0) rfl rfl (by decide) rfl (fun ls hl => ?_)
                    refine lv_goto (tgt := 163) hx hb dX9_init_185 (by decide) ?_
                    refine lv_iload_n hx hb dX9_init_163 rfl (lv_at hl 0 rfl) ?_
                    refine lv_bipush (v := 12) hx hb dX9_init_164 (by decide) ?_
                    refine lv_icmp_ge (tgt := 188) hx hb dX9_init_166 (by decide) (fun c162 => ?_) (fun c162 => ?_)
                    · exact (by revert c162; decide : False).elim
                    · skip
                      refine hl_aload_n hx hb dX9_init_169 rfl (lv_at hl 1 rfl) ?_
                      obtain ⟨a163, ha163, hf⟩ := bnd hf
                      replace ha163 := chk_some ha163
                      refine g9_9 hx hb hts hown hKs hH ha163.1 ha163.2 m1_171 dX9_init_170 ?_
                      refine lv_iload_n hx hb dX9_init_173 rfl (lv_at hl 0 rfl) ?_
                      refine hw_new (ci := 2) (C := RX3) (T := TX3) (N := 7) hx hb hts iX3 tyX3 tyX3_ok hown m1_50 (hts _ m1_85) m1_6 hKs hb0 hH rfl rfl (fun j hj => dfX3 j hj) (Nat.le_of_ble_eq_true rfl) (Nat.le_of_ble_eq_true rfl) dX9_init_174 (fun H hH => ?_)
                      obtain ⟨K164, hK164, hf⟩ := bnd hf
                      replace hK164 := Option.some.inj hK164
                      obtain ⟨w165, hw165, hf⟩ := bnd hf
                      replace hw165 := Option.some.inj hw165
                      rw [hK164, hw165] at hH
                      refine lv_dup hx hb dX9_init_177 rv_cat ?_
                      obtain ⟨q166, hq166, hf⟩ := bnd hf
                      refine hcA hH (va_runIN (As := []) (rest := [rv E (some q157.2.1), .int 9, rv E (wR w161 909 a163)]) ⟨hx, hb, hml, hown, hts⟩ (k_X3_init l E K164 (q157.2.1 + 1) q157.2.1 w165 hq166) ⟨va_cnB _ hts (gC m1_88) rfl rfl rfl (hKs.2.1 _ m1_86) (hts _ m1_6) hs_X3_init ⟨Nat.le_of_ble_eq_true rfl, Nat.le_of_ble_eq_true rfl⟩, rfl, hts _ m1_87⟩ ⟨HB.blind, HB.preN hKs hT hb0 hH⟩ rfl rfl hl.1 rfl (lv_room (rcV (rcI (rcV rc0)))) dX9_init_178 ⟨Nat.le_of_ble_eq_true rfl, Nat.le_of_ble_eq_true rfl⟩) (fun H locs hH => ?_)
                      obtain ⟨a167, ha167, hf⟩ := bnd hf
                      replace ha167 := cha_some ha167
                      obtain ⟨j168, hj168, hf⟩ := bnd hf
                      obtain ⟨a169, ha169, hf⟩ := bnd hf
                      replace ha169 := chk_some ha169
                      obtain ⟨w170, hw170, hf⟩ := bnd hf
                      replace hw170 := Option.some.inj hw170
                      refine hw_aast25 hx hb hKs hH ha167.1 ha167.2 ha169.1 ha169.2 hj168 dX9_init_181 (fun H locs hH => ?_)
                      rw [hw170] at hH
                      refine lv_iinc (v := 10) (lv' := [(1, .int 10), (0, rv E (some o))]) hx hb dX9_init_182 hl (k := 0) rfl rfl (by decide) rfl (fun ls hl => ?_)
                      refine lv_goto (tgt := 163) hx hb dX9_init_185 (by decide) ?_
                      refine lv_iload_n hx hb dX9_init_163 rfl (lv_at hl 0 rfl) ?_
                      refine lv_bipush (v := 12) hx hb dX9_init_164 (by decide) ?_
                      refine lv_icmp_ge (tgt := 188) hx hb dX9_init_166 (by decide) (fun c171 => ?_) (fun c171 => ?_)
                      · exact (by revert c171; decide : False).elim
                      · skip
                        refine hl_aload_n hx hb dX9_init_169 rfl (lv_at hl 1 rfl) ?_
                        obtain ⟨a172, ha172, hf⟩ := bnd hf
                        replace ha172 := chk_some ha172
                        refine g9_9 hx hb hts hown hKs hH ha172.1 ha172.2 m1_171 dX9_init_170 ?_
                        refine lv_iload_n hx hb dX9_init_173 rfl (lv_at hl 0 rfl) ?_
                        refine hw_new (ci := 2) (C := RX3) (T := TX3) (N := 7) hx hb hts iX3 tyX3 tyX3_ok hown m1_50 (hts _ m1_85) m1_6 hKs hb0 hH rfl rfl (fun j hj => dfX3 j hj) (Nat.le_of_ble_eq_true rfl) (Nat.le_of_ble_eq_true rfl) dX9_init_174 (fun H hH => ?_)
                        obtain ⟨K173, hK173, hf⟩ := bnd hf
                        replace hK173 := Option.some.inj hK173
                        obtain ⟨w174, hw174, hf⟩ := bnd hf
                        replace hw174 := Option.some.inj hw174
                        rw [hK173, hw174] at hH
                        refine lv_dup hx hb dX9_init_177 rv_cat ?_
                        obtain ⟨q175, hq175, hf⟩ := bnd hf
                        refine hcA hH (va_runIN (As := []) (rest := [rv E (some q166.2.1), .int 10, rv E (wR w170 909 a172)]) ⟨hx, hb, hml, hown, hts⟩ (k_X3_init l E K173 (q166.2.1 + 1) q166.2.1 w174 hq175) ⟨va_cnB _ hts (gC m1_88) rfl rfl rfl (hKs.2.1 _ m1_86) (hts _ m1_6) hs_X3_init ⟨Nat.le_of_ble_eq_true rfl, Nat.le_of_ble_eq_true rfl⟩, rfl, hts _ m1_87⟩ ⟨HB.blind, HB.preN hKs hT hb0 hH⟩ rfl rfl hl.1 rfl (lv_room (rcV (rcI (rcV rc0)))) dX9_init_178 ⟨Nat.le_of_ble_eq_true rfl, Nat.le_of_ble_eq_true rfl⟩) (fun H locs hH => ?_)
                        obtain ⟨a176, ha176, hf⟩ := bnd hf
                        replace ha176 := cha_some ha176
                        obtain ⟨j177, hj177, hf⟩ := bnd hf
                        obtain ⟨a178, ha178, hf⟩ := bnd hf
                        replace ha178 := chk_some ha178
                        obtain ⟨w179, hw179, hf⟩ := bnd hf
                        replace hw179 := Option.some.inj hw179
                        refine hw_aast25 hx hb hKs hH ha176.1 ha176.2 ha178.1 ha178.2 hj177 dX9_init_181 (fun H locs hH => ?_)
                        rw [hw179] at hH
                        refine lv_iinc (v := 11) (lv' := [(1, .int 11), (0, rv E (some o))]) hx hb dX9_init_182 hl (k := 0) rfl rfl (by decide) rfl (fun ls hl => ?_)
                        refine lv_goto (tgt := 163) hx hb dX9_init_185 (by decide) ?_
                        refine lv_iload_n hx hb dX9_init_163 rfl (lv_at hl 0 rfl) ?_
                        refine lv_bipush (v := 12) hx hb dX9_init_164 (by decide) ?_
                        refine lv_icmp_ge (tgt := 188) hx hb dX9_init_166 (by decide) (fun c180 => ?_) (fun c180 => ?_)
                        · exact (by revert c180; decide : False).elim
                        · skip
                          refine hl_aload_n hx hb dX9_init_169 rfl (lv_at hl 1 rfl) ?_
                          obtain ⟨a181, ha181, hf⟩ := bnd hf
                          replace ha181 := chk_some ha181
                          refine g9_9 hx hb hts hown hKs hH ha181.1 ha181.2 m1_171 dX9_init_170 ?_
                          refine lv_iload_n hx hb dX9_init_173 rfl (lv_at hl 0 rfl) ?_
                          refine hw_new (ci := 2) (C := RX3) (T := TX3) (N := 7) hx hb hts iX3 tyX3 tyX3_ok hown m1_50 (hts _ m1_85) m1_6 hKs hb0 hH rfl rfl (fun j hj => dfX3 j hj) (Nat.le_of_ble_eq_true rfl) (Nat.le_of_ble_eq_true rfl) dX9_init_174 (fun H hH => ?_)
                          obtain ⟨K182, hK182, hf⟩ := bnd hf
                          replace hK182 := Option.some.inj hK182
                          obtain ⟨w183, hw183, hf⟩ := bnd hf
                          replace hw183 := Option.some.inj hw183
                          rw [hK182, hw183] at hH
                          refine lv_dup hx hb dX9_init_177 rv_cat ?_
                          obtain ⟨q184, hq184, hf⟩ := bnd hf
                          refine hcA hH (va_runIN (As := []) (rest := [rv E (some q175.2.1), .int 11, rv E (wR w179 909 a181)]) ⟨hx, hb, hml, hown, hts⟩ (k_X3_init l E K182 (q175.2.1 + 1) q175.2.1 w183 hq184) ⟨va_cnB _ hts (gC m1_88) rfl rfl rfl (hKs.2.1 _ m1_86) (hts _ m1_6) hs_X3_init ⟨Nat.le_of_ble_eq_true rfl, Nat.le_of_ble_eq_true rfl⟩, rfl, hts _ m1_87⟩ ⟨HB.blind, HB.preN hKs hT hb0 hH⟩ rfl rfl hl.1 rfl (lv_room (rcV (rcI (rcV rc0)))) dX9_init_178 ⟨Nat.le_of_ble_eq_true rfl, Nat.le_of_ble_eq_true rfl⟩) (fun H locs hH => ?_)
                          obtain ⟨a185, ha185, hf⟩ := bnd hf
                          replace ha185 := cha_some ha185
                          obtain ⟨j186, hj186, hf⟩ := bnd hf
                          obtain ⟨a187, ha187, hf⟩ := bnd hf
                          replace ha187 := chk_some ha187
                          obtain ⟨w188, hw188, hf⟩ := bnd hf
                          replace hw188 := Option.some.inj hw188
                          refine hw_aast25 hx hb hKs hH ha185.1 ha185.2 ha187.1 ha187.2 hj186 dX9_init_181 (fun H locs hH => ?_)
                          rw [hw188] at hH
                          refine lv_iinc (v := 12) (lv' := [(1, .int 12), (0, rv E (some o))]) hx hb dX9_init_182 hl (k := 0) rfl rfl (by decide) rfl (fun ls hl => ?_)
                          refine lv_goto (tgt := 163) hx hb dX9_init_185 (by decide) ?_
                          refine lv_iload_n hx hb dX9_init_163 rfl (lv_at hl 0 rfl) ?_
                          refine lv_bipush (v := 12) hx hb dX9_init_164 (by decide) ?_
                          refine lv_icmp_ge (tgt := 188) hx hb dX9_init_166 (by decide) (fun c189 => ?_) (fun c189 => ?_)
                          · skip
                            refine hl_aload_n hx hb dX9_init_188 rfl (lv_at hl 1 rfl) ?_
                            obtain ⟨a190, ha190, hf⟩ := bnd hf
                            replace ha190 := chk_some ha190
                            obtain ⟨q191, hq191, hf⟩ := bnd hf
                            refine hcV_v hx hb hml hown hts hKs hT hb0 hH (As := []) (rest := []) (k_X9_clear l E q184.1 H.size a190 w188 ha190.2 hq191) (gV m1_135 m1_136 m1_137 m1_2 m1_138) hd_X9_clear ⟨Nat.le_of_ble_eq_true rfl, Nat.le_of_ble_eq_true rfl, rfl, rfl⟩ ha190.1 ha190.2 rfl rfl rfl hl.1 rfl rc0 rfl dX9_init_189 ⟨Nat.le_of_ble_eq_true rfl, Nat.le_of_ble_eq_true rfl⟩ (fun H locs hH => ?_)
                            exact hw_aret hx hb (Nat.le_of_ble_eq_true rfl) (Nat.le_of_ble_eq_true rfl) hret hf hH hlocks dX9_init_192
                          · exact (by revert c189; decide : False).elim

theorem dL_adjourned_0 : decode cL_adjourned 0 = .ok (.aload_n 0, 1) := by decide +kernel
theorem dL_adjourned_1 : decode cL_adjourned 1 = .ok (.iload_n 1, 1) := by decide +kernel
theorem dL_adjourned_2 : decode cL_adjourned 2 = .ok (.iload_n 2, 1) := by decide +kernel
theorem dL_adjourned_3 : decode cL_adjourned 3 = .ok (.invokevirtual 49, 3) := by decide +kernel
theorem dL_adjourned_6 : decode cL_adjourned 6 = .ok (.ireturn, 1) := by decide +kernel
theorem dL_adjourned_7 : decode cL_adjourned 7 = .ok (.astore_n 3, 1) := by decide +kernel
theorem dL_adjourned_8 : decode cL_adjourned 8 = .ok (.iconst (-1), 1) := by decide +kernel
theorem dL_adjourned_9 : decode cL_adjourned 9 = .ok (.ireturn, 1) := by decide +kernel
theorem hs_L_adjourned : yL_adjourned.cls ≠ "java/lang/invoke/MethodHandle" ∧ yL_adjourned.cls ≠ "java/lang/invoke/VarHandle" ∧ (parseMethodDescriptor yL_adjourned.desc).map (fun d => d.parameters.length) = some 3 := by decide +kernel
set_option maxHeartbeats 4000000 in
set_option maxRecDepth 100000 in
theorem k_L_adjourned (l : Launch) (hls : l.stackTraces = false) (E : Ev) (K : Kd) (z : Nat) (a_0 : Option Nat) (a_1 : Int32) (a_2 : Int32) (w : Wd) {r : Int32} {w' : Wd} (hf : f_L_adjourned K a_0 a_1 a_2 w = some (r, w')) : Met l yL_adjourned (Cond.codeWith yL_adjourned cL_adjourned 4 (Option.some Jvm.ClassFile.FieldType.int) [(0, 6, 7, 45)] :: bt) ({ frames := 8, cells := 3, slots := 18, locals := 148 } : Room) (va_Pc [rv E a_0, .int a_1, .int a_2] (HB E K w z)) (QW E K w' r) 3 18 (hA E) := by
  refine MetH_ofW (cc := cL_adjourned) (maxL := 4) (ret := (Option.some Jvm.ClassFile.FieldType.int)) (hh := [(0, 6, 7, 45)]) (by decide) rfl ?_
  intro p e s m args below meth c s₁ B hml htab hv
  obtain ⟨rfl, hz, hP, hKs, hT, hb0⟩ := hv
  have C : CX p l e s m _ meth c cL_adjourned 4 RL (Option.some Jvm.ClassFile.FieldType.int) E := ⟨B.exec, B.bytes, hml, findClass_of_methodNamed B.named, fun w h => atoms_spec (ws := Cond.codeWith yL_adjourned cL_adjourned 4 (Option.some Jvm.ClassFile.FieldType.int) [(0, 6, 7, 45)] :: bt) B.pre w (List.mem_cons_of_mem _ h), hKs, hT, by rw [hz]; exact hb0, B.notSynchronized, B.returns⟩
  have hH : HQ E K z w s s.heap [] := ⟨hP, va_S.rf, hz⟩
  obtain ⟨hx, hb, hml, hown, hts, hKs, hT, hb0, hlocks, hret⟩ := id C
  have hl := lv_entry [rv E a_0, .int a_1, .int a_2] (n := 4) (by simp [lg_len_nil, lg_len_i, lg_len_j, lg_len_q, lg_len_f, lg_len_d, lg_len_r])
  rw [lg_entry_eq]
  generalize (lg_sl [rv E a_0, .int a_1, .int a_2] ++ List.replicate (4 - (lg_sl [rv E a_0, .int a_1, .int a_2]).length) Slot.unset).toArray = ls at hl ⊢
  replace hl : lv_has ls 4 [(0, rv E a_0), (1, .int a_1), (2, .int a_2)] := by simpa only [lv_args, cat_q, cat_i, cat_j, reduceIte, Nat.reduceEqDiff, Nat.reduceAdd, Nat.zero_add] using hl
  generalize s.heap = H at hH ⊢
  unfold f_L_adjourned at hf
  refine hl_aload_n hx hb dL_adjourned_0 rfl (lv_at hl 0 rfl) ?_
  refine lv_iload_n hx hb dL_adjourned_1 rfl (lv_at hl 1 rfl) ?_
  refine lv_iload_n hx hb dL_adjourned_2 rfl (lv_at hl 2 rfl) ?_
  obtain ⟨a1, ha1, hf⟩ := bnd hf
  replace ha1 := chk_some ha1
  obtain ⟨q2, hq2, hf⟩ := bnd hf
  refine hxC_i hx hb hml hown hts hKs hT hb0 hH (As := [.int a_1, .int a_2]) (rest := []) (k_X12_adjourn l hls E K H.size a1 a_1 a_2 w ha1.2 hq2) (gV m6_130 m6_131 m6_132 m1_1 m6_133) hd_X12_adjourn ⟨Nat.le_of_ble_eq_true rfl, Nat.le_of_ble_eq_true rfl, rfl, rfl⟩ ha1.1 ha1.2 rfl rfl rfl hl.1 rfl rc0 rfl dL_adjourned_3 ⟨Nat.le_of_ble_eq_true rfl, Nat.le_of_ble_eq_true rfl⟩ (fun c4 hc4 H locs q9 ce9 hH hc9 hv9 hf9 => ?_) (fun v3 hv3 H locs hH => ?_)
  · replace hf := (xh_inr hc4).symm.trans hf
    by_cases h5 : c4 = 3
    · subst h5
      replace hf := (if_pos rfl).symm.trans hf
      refine vx_catch (name := "java/lang/IllegalStateException") hown [] ⟨0, 6, 7, 45⟩ [] htab pass0 (by decide) (by decide) (hts _ m6_85) (va_Nw.use rfl (hKs.2.1 _ m4_26)) hc9 hv9 hf9 ?_
      refine lv_astore_n (i := 3) (lv' := [(3, .ref q9), (0, rv E a_0), (1, .int a_1), (2, .int a_2)]) hx hb dL_adjourned_7 rfl hl (by decide) rfl (fun ls hl => ?_)
      refine lv_iconst (v := (-1)) hx hb dL_adjourned_8 (by decide) ?_
      exact hw_wret hx hb (Nat.le_of_ble_eq_true rfl) (Nat.le_of_ble_eq_true rfl) hret hf hH hlocks dL_adjourned_9
    replace hf := (if_neg h5).symm.trans hf
    cases hf
  · replace hf := (xh_inl hv3).symm.trans hf
    exact hw_wret hx hb (Nat.le_of_ble_eq_true rfl) (Nat.le_of_ble_eq_true rfl) hret hf hH hlocks dL_adjourned_6

theorem dL_withdrawn_0 : decode cL_withdrawn 0 = .ok (.aload_n 0, 1) := by decide +kernel
theorem dL_withdrawn_1 : decode cL_withdrawn 1 = .ok (.iload_n 1, 1) := by decide +kernel
theorem dL_withdrawn_2 : decode cL_withdrawn 2 = .ok (.iload_n 2, 1) := by decide +kernel
theorem dL_withdrawn_3 : decode cL_withdrawn 3 = .ok (.invokevirtual 53, 3) := by decide +kernel
theorem dL_withdrawn_6 : decode cL_withdrawn 6 = .ok (.ireturn, 1) := by decide +kernel
theorem dL_withdrawn_7 : decode cL_withdrawn 7 = .ok (.astore_n 3, 1) := by decide +kernel
theorem dL_withdrawn_8 : decode cL_withdrawn 8 = .ok (.iconst (-1), 1) := by decide +kernel
theorem dL_withdrawn_9 : decode cL_withdrawn 9 = .ok (.ireturn, 1) := by decide +kernel
theorem hs_L_withdrawn : yL_withdrawn.cls ≠ "java/lang/invoke/MethodHandle" ∧ yL_withdrawn.cls ≠ "java/lang/invoke/VarHandle" ∧ (parseMethodDescriptor yL_withdrawn.desc).map (fun d => d.parameters.length) = some 3 := by decide +kernel
set_option maxHeartbeats 4000000 in
set_option maxRecDepth 100000 in
theorem k_L_withdrawn (l : Launch) (hls : l.stackTraces = false) (E : Ev) (K : Kd) (z : Nat) (a_0 : Option Nat) (a_1 : Int32) (a_2 : Int32) (w : Wd) {r : Int32} {w' : Wd} (hf : f_L_withdrawn K a_0 a_1 a_2 w = some (r, w')) : Met l yL_withdrawn (Cond.codeWith yL_withdrawn cL_withdrawn 4 (Option.some Jvm.ClassFile.FieldType.int) [(0, 6, 7, 56)] :: bt) ({ frames := 8, cells := 2, slots := 12, locals := 151 } : Room) (va_Pc [rv E a_0, .int a_1, .int a_2] (HB E K w z)) (QW E K w' r) 2 12 (hA E) := by
  refine MetH_ofW (cc := cL_withdrawn) (maxL := 4) (ret := (Option.some Jvm.ClassFile.FieldType.int)) (hh := [(0, 6, 7, 56)]) (by decide) rfl ?_
  intro p e s m args below meth c s₁ B hml htab hv
  obtain ⟨rfl, hz, hP, hKs, hT, hb0⟩ := hv
  have C : CX p l e s m _ meth c cL_withdrawn 4 RL (Option.some Jvm.ClassFile.FieldType.int) E := ⟨B.exec, B.bytes, hml, findClass_of_methodNamed B.named, fun w h => atoms_spec (ws := Cond.codeWith yL_withdrawn cL_withdrawn 4 (Option.some Jvm.ClassFile.FieldType.int) [(0, 6, 7, 56)] :: bt) B.pre w (List.mem_cons_of_mem _ h), hKs, hT, by rw [hz]; exact hb0, B.notSynchronized, B.returns⟩
  have hH : HQ E K z w s s.heap [] := ⟨hP, va_S.rf, hz⟩
  obtain ⟨hx, hb, hml, hown, hts, hKs, hT, hb0, hlocks, hret⟩ := id C
  have hl := lv_entry [rv E a_0, .int a_1, .int a_2] (n := 4) (by simp [lg_len_nil, lg_len_i, lg_len_j, lg_len_q, lg_len_f, lg_len_d, lg_len_r])
  rw [lg_entry_eq]
  generalize (lg_sl [rv E a_0, .int a_1, .int a_2] ++ List.replicate (4 - (lg_sl [rv E a_0, .int a_1, .int a_2]).length) Slot.unset).toArray = ls at hl ⊢
  replace hl : lv_has ls 4 [(0, rv E a_0), (1, .int a_1), (2, .int a_2)] := by simpa only [lv_args, cat_q, cat_i, cat_j, reduceIte, Nat.reduceEqDiff, Nat.reduceAdd, Nat.zero_add] using hl
  generalize s.heap = H at hH ⊢
  unfold f_L_withdrawn at hf
  refine hl_aload_n hx hb dL_withdrawn_0 rfl (lv_at hl 0 rfl) ?_
  refine lv_iload_n hx hb dL_withdrawn_1 rfl (lv_at hl 1 rfl) ?_
  refine lv_iload_n hx hb dL_withdrawn_2 rfl (lv_at hl 2 rfl) ?_
  obtain ⟨a1, ha1, hf⟩ := bnd hf
  replace ha1 := chk_some ha1
  obtain ⟨q2, hq2, hf⟩ := bnd hf
  refine hxC_i hx hb hml hown hts hKs hT hb0 hH (As := [.int a_1, .int a_2]) (rest := []) (k_X12_withdraw l hls E K H.size a1 a_1 a_2 w ha1.2 hq2) (gV m6_153 m6_154 m6_155 m1_1 m6_156) hd_X12_withdraw ⟨Nat.le_of_ble_eq_true rfl, Nat.le_of_ble_eq_true rfl, rfl, rfl⟩ ha1.1 ha1.2 rfl rfl rfl hl.1 rfl rc0 rfl dL_withdrawn_3 ⟨Nat.le_of_ble_eq_true rfl, Nat.le_of_ble_eq_true rfl⟩ (fun c4 hc4 H locs q9 ce9 hH hc9 hv9 hf9 => ?_) (fun v3 hv3 H locs hH => ?_)
  · replace hf := (xh_inr hc4).symm.trans hf
    by_cases h5 : c4 = 2
    · subst h5
      replace hf := (if_pos rfl).symm.trans hf
      refine vx_catch (name := "java/lang/IllegalArgumentException") hown [] ⟨0, 6, 7, 56⟩ [] htab pass0 (by decide) (by decide) (hts _ m6_152) (va_Nw.use rfl (hKs.2.1 _ m3_56)) hc9 hv9 hf9 ?_
      refine lv_astore_n (i := 3) (lv' := [(3, .ref q9), (0, rv E a_0), (1, .int a_1), (2, .int a_2)]) hx hb dL_withdrawn_7 rfl hl (by decide) rfl (fun ls hl => ?_)
      refine lv_iconst (v := (-1)) hx hb dL_withdrawn_8 (by decide) ?_
      exact hw_wret hx hb (Nat.le_of_ble_eq_true rfl) (Nat.le_of_ble_eq_true rfl) hret hf hH hlocks dL_withdrawn_9
    replace hf := (if_neg h5).symm.trans hf
    cases hf
  · replace hf := (xh_inl hv3).symm.trans hf
    exact hw_wret hx hb (Nat.le_of_ble_eq_true rfl) (Nat.le_of_ble_eq_true rfl) hret hf hH hlocks dL_withdrawn_6

theorem dL_closed_0 : decode cL_closed 0 = .ok (.aload_n 0, 1) := by decide +kernel
theorem dL_closed_1 : decode cL_closed 1 = .ok (.iload_n 1, 1) := by decide +kernel
theorem dL_closed_2 : decode cL_closed 2 = .ok (.invokevirtual 58, 3) := by decide +kernel
theorem dL_closed_5 : decode cL_closed 5 = .ok (.ireturn, 1) := by decide +kernel
theorem dL_closed_6 : decode cL_closed 6 = .ok (.astore_n 2, 1) := by decide +kernel
theorem dL_closed_7 : decode cL_closed 7 = .ok (.iconst (-1), 1) := by decide +kernel
theorem dL_closed_8 : decode cL_closed 8 = .ok (.ireturn, 1) := by decide +kernel
theorem dL_closed_9 : decode cL_closed 9 = .ok (.astore_n 2, 1) := by decide +kernel
theorem dL_closed_10 : decode cL_closed 10 = .ok (.bipush (-2), 2) := by decide +kernel
theorem dL_closed_12 : decode cL_closed 12 = .ok (.ireturn, 1) := by decide +kernel
theorem hs_L_closed : yL_closed.cls ≠ "java/lang/invoke/MethodHandle" ∧ yL_closed.cls ≠ "java/lang/invoke/VarHandle" ∧ (parseMethodDescriptor yL_closed.desc).map (fun d => d.parameters.length) = some 2 := by decide +kernel
set_option maxHeartbeats 4000000 in
set_option maxRecDepth 100000 in
theorem k_L_closed (l : Launch) (hls : l.stackTraces = false) (E : Ev) (K : Kd) (z : Nat) (a_0 : Option Nat) (a_1 : Int32) (w : Wd) {r : Int32} {w' : Wd} (hf : f_L_closed K a_0 a_1 w = some (r, w')) : Met l yL_closed (Cond.codeWith yL_closed cL_closed 3 (Option.some Jvm.ClassFile.FieldType.int) [(0, 5, 6, 56), (0, 5, 9, 45)] :: bt) ({ frames := 8, cells := 2, slots := 12, locals := 149 } : Room) (va_Pc [rv E a_0, .int a_1] (HB E K w z)) (QW E K w' r) 2 12 (hA E) := by
  refine MetH_ofW (cc := cL_closed) (maxL := 3) (ret := (Option.some Jvm.ClassFile.FieldType.int)) (hh := [(0, 5, 6, 56), (0, 5, 9, 45)]) (by decide) rfl ?_
  intro p e s m args below meth c s₁ B hml htab hv
  obtain ⟨rfl, hz, hP, hKs, hT, hb0⟩ := hv
  have C : CX p l e s m _ meth c cL_closed 3 RL (Option.some Jvm.ClassFile.FieldType.int) E := ⟨B.exec, B.bytes, hml, findClass_of_methodNamed B.named, fun w h => atoms_spec (ws := Cond.codeWith yL_closed cL_closed 3 (Option.some Jvm.ClassFile.FieldType.int) [(0, 5, 6, 56), (0, 5, 9, 45)] :: bt) B.pre w (List.mem_cons_of_mem _ h), hKs, hT, by rw [hz]; exact hb0, B.notSynchronized, B.returns⟩
  have hH : HQ E K z w s s.heap [] := ⟨hP, va_S.rf, hz⟩
  obtain ⟨hx, hb, hml, hown, hts, hKs, hT, hb0, hlocks, hret⟩ := id C
  have hl := lv_entry [rv E a_0, .int a_1] (n := 3) (by simp [lg_len_nil, lg_len_i, lg_len_j, lg_len_q, lg_len_f, lg_len_d, lg_len_r])
  rw [lg_entry_eq]
  generalize (lg_sl [rv E a_0, .int a_1] ++ List.replicate (3 - (lg_sl [rv E a_0, .int a_1]).length) Slot.unset).toArray = ls at hl ⊢
  replace hl : lv_has ls 3 [(0, rv E a_0), (1, .int a_1)] := by simpa only [lv_args, cat_q, cat_i, cat_j, reduceIte, Nat.reduceEqDiff, Nat.reduceAdd, Nat.zero_add] using hl
  generalize s.heap = H at hH ⊢
  unfold f_L_closed at hf
  refine hl_aload_n hx hb dL_closed_0 rfl (lv_at hl 0 rfl) ?_
  refine lv_iload_n hx hb dL_closed_1 rfl (lv_at hl 1 rfl) ?_
  obtain ⟨a1, ha1, hf⟩ := bnd hf
  replace ha1 := chk_some ha1
  obtain ⟨q2, hq2, hf⟩ := bnd hf
  refine hxC_i hx hb hml hown hts hKs hT hb0 hH (As := [.int a_1]) (rest := []) (k_X12_addHoliday l hls E K H.size a1 a_1 w ha1.2 hq2) (gV m6_166 m6_167 m6_168 m1_1 m6_169) hd_X12_addHoliday ⟨Nat.le_of_ble_eq_true rfl, Nat.le_of_ble_eq_true rfl, rfl, rfl⟩ ha1.1 ha1.2 rfl rfl rfl hl.1 rfl rc0 rfl dL_closed_2 ⟨Nat.le_of_ble_eq_true rfl, Nat.le_of_ble_eq_true rfl⟩ (fun c4 hc4 H locs q9 ce9 hH hc9 hv9 hf9 => ?_) (fun v3 hv3 H locs hH => ?_)
  · replace hf := (xh_inr hc4).symm.trans hf
    by_cases h5 : c4 = 2
    · subst h5
      replace hf := (if_pos rfl).symm.trans hf
      refine vx_catch (name := "java/lang/IllegalArgumentException") hown [] ⟨0, 5, 6, 56⟩ [⟨0, 5, 9, 45⟩] htab pass0 (by decide) (by decide) (hts _ m6_152) (va_Nw.use rfl (hKs.2.1 _ m3_56)) hc9 hv9 hf9 ?_
      refine lv_astore_n (i := 2) (lv' := [(2, .ref q9), (0, rv E a_0), (1, .int a_1)]) hx hb dL_closed_6 rfl hl (by decide) rfl (fun ls hl => ?_)
      refine lv_iconst (v := (-1)) hx hb dL_closed_7 (by decide) ?_
      exact hw_wret hx hb (Nat.le_of_ble_eq_true rfl) (Nat.le_of_ble_eq_true rfl) hret hf hH hlocks dL_closed_8
    replace hf := (if_neg h5).symm.trans hf
    by_cases h6 : c4 = 3
    · subst h6
      replace hf := (if_pos rfl).symm.trans hf
      refine vx_catch (name := "java/lang/IllegalStateException") hown [⟨0, 5, 6, 56⟩] ⟨0, 5, 9, 45⟩ [] htab (pass1 (Or.inr ⟨by decide, "java/lang/IllegalArgumentException", hts _ m6_152, hKs.2.2.2.1 ("java/lang/IllegalStateException", "java/lang/IllegalArgumentException") (by decide)⟩) pass0) (by decide) (by decide) (hts _ m6_85) (va_Nw.use rfl (hKs.2.1 _ m4_26)) hc9 hv9 hf9 ?_
      refine lv_astore_n (i := 2) (lv' := [(2, .ref q9), (0, rv E a_0), (1, .int a_1)]) hx hb dL_closed_9 rfl hl (by decide) rfl (fun ls hl => ?_)
      refine lv_bipush (v := (-2)) hx hb dL_closed_10 (by decide) ?_
      exact hw_wret hx hb (Nat.le_of_ble_eq_true rfl) (Nat.le_of_ble_eq_true rfl) hret hf hH hlocks dL_closed_12
    replace hf := (if_neg h6).symm.trans hf
    cases hf
  · replace hf := (xh_inl hv3).symm.trans hf
    exact hw_wret hx hb (Nat.le_of_ble_eq_true rfl) (Nat.le_of_ble_eq_true rfl) hret hf hH hlocks dL_closed_5

theorem dL_barred_0 : decode cL_barred 0 = .ok (.aload_n 0, 1) := by decide +kernel
theorem dL_barred_1 : decode cL_barred 1 = .ok (.iload_n 1, 1) := by decide +kernel
theorem dL_barred_2 : decode cL_barred 2 = .ok (.iload_n 2, 1) := by decide +kernel
theorem dL_barred_3 : decode cL_barred 3 = .ok (.invokevirtual 61, 3) := by decide +kernel
theorem dL_barred_6 : decode cL_barred 6 = .ok (.ireturn, 1) := by decide +kernel
theorem dL_barred_7 : decode cL_barred 7 = .ok (.astore_n 3, 1) := by decide +kernel
theorem dL_barred_8 : decode cL_barred 8 = .ok (.iconst 0, 1) := by decide +kernel
theorem dL_barred_9 : decode cL_barred 9 = .ok (.ireturn, 1) := by decide +kernel
theorem hs_L_barred : yL_barred.cls ≠ "java/lang/invoke/MethodHandle" ∧ yL_barred.cls ≠ "java/lang/invoke/VarHandle" ∧ (parseMethodDescriptor yL_barred.desc).map (fun d => d.parameters.length) = some 3 := by decide +kernel
set_option maxHeartbeats 4000000 in
set_option maxRecDepth 100000 in
theorem k_L_barred (l : Launch) (hls : l.stackTraces = false) (E : Ev) (K : Kd) (z : Nat) (a_0 : Option Nat) (a_1 : Int32) (a_2 : Int32) (w : Wd) {r : Bool} {w' : Wd} (hf : f_L_barred K a_0 a_1 a_2 w = some (r, w')) : Met l yL_barred (Cond.codeWith yL_barred cL_barred 4 (Option.some Jvm.ClassFile.FieldType.boolean) [(0, 6, 7, 45)] :: bt) ({ frames := 8, cells := 3, slots := 18, locals := 149 } : Room) (va_Pc [rv E a_0, .int a_1, .int a_2] (HB E K w z)) (QW E K w' (b2i r)) 3 18 (hA E) := by
  refine MetH_ofW (cc := cL_barred) (maxL := 4) (ret := (Option.some Jvm.ClassFile.FieldType.boolean)) (hh := [(0, 6, 7, 45)]) (by decide) rfl ?_
  intro p e s m args below meth c s₁ B hml htab hv
  obtain ⟨rfl, hz, hP, hKs, hT, hb0⟩ := hv
  have C : CX p l e s m _ meth c cL_barred 4 RL (Option.some Jvm.ClassFile.FieldType.boolean) E := ⟨B.exec, B.bytes, hml, findClass_of_methodNamed B.named, fun w h => atoms_spec (ws := Cond.codeWith yL_barred cL_barred 4 (Option.some Jvm.ClassFile.FieldType.boolean) [(0, 6, 7, 45)] :: bt) B.pre w (List.mem_cons_of_mem _ h), hKs, hT, by rw [hz]; exact hb0, B.notSynchronized, B.returns⟩
  have hH : HQ E K z w s s.heap [] := ⟨hP, va_S.rf, hz⟩
  obtain ⟨hx, hb, hml, hown, hts, hKs, hT, hb0, hlocks, hret⟩ := id C
  have hl := lv_entry [rv E a_0, .int a_1, .int a_2] (n := 4) (by simp [lg_len_nil, lg_len_i, lg_len_j, lg_len_q, lg_len_f, lg_len_d, lg_len_r])
  rw [lg_entry_eq]
  generalize (lg_sl [rv E a_0, .int a_1, .int a_2] ++ List.replicate (4 - (lg_sl [rv E a_0, .int a_1, .int a_2]).length) Slot.unset).toArray = ls at hl ⊢
  replace hl : lv_has ls 4 [(0, rv E a_0), (1, .int a_1), (2, .int a_2)] := by simpa only [lv_args, cat_q, cat_i, cat_j, reduceIte, Nat.reduceEqDiff, Nat.reduceAdd, Nat.zero_add] using hl
  generalize s.heap = H at hH ⊢
  unfold f_L_barred at hf
  refine hl_aload_n hx hb dL_barred_0 rfl (lv_at hl 0 rfl) ?_
  refine lv_iload_n hx hb dL_barred_1 rfl (lv_at hl 1 rfl) ?_
  refine lv_iload_n hx hb dL_barred_2 rfl (lv_at hl 2 rfl) ?_
  obtain ⟨a1, ha1, hf⟩ := bnd hf
  replace ha1 := chk_some ha1
  obtain ⟨q2, hq2, hf⟩ := bnd hf
  refine hxC_z hx hb hml hown hts hKs hT hb0 hH (As := [.int a_1, .int a_2]) (rest := []) (k_X12_addBar l hls E K H.size a1 a_1 a_2 w ha1.2 hq2) (gV m6_175 m6_176 m6_177 m1_1 m6_178) hd_X12_addBar ⟨Nat.le_of_ble_eq_true rfl, Nat.le_of_ble_eq_true rfl, rfl, rfl⟩ ha1.1 ha1.2 rfl rfl rfl hl.1 rfl rc0 rfl dL_barred_3 ⟨Nat.le_of_ble_eq_true rfl, Nat.le_of_ble_eq_true rfl⟩ (fun c4 hc4 H locs q9 ce9 hH hc9 hv9 hf9 => ?_) (fun v3 hv3 H locs hH => ?_)
  · replace hf := (xh_inr hc4).symm.trans hf
    by_cases h5 : c4 = 3
    · subst h5
      replace hf := (if_pos rfl).symm.trans hf
      refine vx_catch (name := "java/lang/IllegalStateException") hown [] ⟨0, 6, 7, 45⟩ [] htab pass0 (by decide) (by decide) (hts _ m6_85) (va_Nw.use rfl (hKs.2.1 _ m4_26)) hc9 hv9 hf9 ?_
      refine lv_astore_n (i := 3) (lv' := [(3, .ref q9), (0, rv E a_0), (1, .int a_1), (2, .int a_2)]) hx hb dL_barred_7 rfl hl (by decide) rfl (fun ls hl => ?_)
      refine lv_iconst (v := 0) hx hb dL_barred_8 (by decide) ?_
      exact hw_wretz hx hb (Nat.le_of_ble_eq_true rfl) (Nat.le_of_ble_eq_true rfl) hret rfl hf hH hlocks dL_barred_9
    replace hf := (if_neg h5).symm.trans hf
    cases hf
  · replace hf := (xh_inl hv3).symm.trans hf
    exact hw_wretz hx hb (Nat.le_of_ble_eq_true rfl) (Nat.le_of_ble_eq_true rfl) hret rfl hf hH hlocks dL_barred_6
end
