section
variable {p : Program} {l : Launch} {e : Env} {s : State} {m : MethodId} {args : Array Value} {below : List Frame} {meth : Method} {c : Code} {E : Ev} {K : Kd} {z : Nat}

theorem dX13_newName_0 : decode cX13_newName 0 = .ok (.aload_n 0, 1) := by decide +kernel
theorem dX13_newName_1 : decode cX13_newName 1 = .ok (.invokevirtual 412, 3) := by decide +kernel
theorem dX13_newName_4 : decode cX13_newName 4 = .ok (.aload_n 0, 1) := by decide +kernel
theorem dX13_newName_5 : decode cX13_newName 5 = .ok (.invokevirtual 379, 3) := by decide +kernel
theorem dX13_newName_8 : decode cX13_newName 8 = .ok (.ifCond .ne 4, 3) := by decide +kernel
theorem dX13_newName_11 : decode cX13_newName 11 = .ok (.return_, 1) := by decide +kernel
theorem dX13_newName_12 : decode cX13_newName 12 = .ok (.aload_n 0, 1) := by decide +kernel
theorem dX13_newName_13 : decode cX13_newName 13 = .ok (.aload_n 0, 1) := by decide +kernel
theorem dX13_newName_14 : decode cX13_newName 14 = .ok (.invokevirtual 415, 3) := by decide +kernel
theorem dX13_newName_17 : decode cX13_newName 17 = .ok (.aload_n 1, 1) := by decide +kernel
theorem dX13_newName_18 : decode cX13_newName 18 = .ok (.iload_n 2, 1) := by decide +kernel
theorem dX13_newName_19 : decode cX13_newName 19 = .ok (.invokestatic 419, 3) := by decide +kernel
theorem dX13_newName_22 : decode cX13_newName 22 = .ok (.iconst (-1), 1) := by decide +kernel
theorem dX13_newName_23 : decode cX13_newName 23 = .ok (.if_icmp .ne 7, 3) := by decide +kernel
theorem dX13_newName_26 : decode cX13_newName 26 = .ok (.iconst 1, 1) := by decide +kernel
theorem dX13_newName_27 : decode cX13_newName 27 = .ok (.goto 4, 3) := by decide +kernel
theorem dX13_newName_30 : decode cX13_newName 30 = .ok (.iconst 0, 1) := by decide +kernel
theorem dX13_newName_31 : decode cX13_newName 31 = .ok (.iconst 3, 1) := by decide +kernel
theorem dX13_newName_32 : decode cX13_newName 32 = .ok (.invokevirtual 392, 3) := by decide +kernel
theorem dX13_newName_35 : decode cX13_newName 35 = .ok (.aload_n 0, 1) := by decide +kernel
theorem dX13_newName_36 : decode cX13_newName 36 = .ok (.invokevirtual 379, 3) := by decide +kernel
theorem dX13_newName_39 : decode cX13_newName 39 = .ok (.ifCond .eq 10, 3) := by decide +kernel
theorem dX13_newName_42 : decode cX13_newName 42 = .ok (.aload_n 1, 1) := by decide +kernel
theorem dX13_newName_43 : decode cX13_newName 43 = .ok (.iload_n 2, 1) := by decide +kernel
theorem dX13_newName_44 : decode cX13_newName 44 = .ok (.aload_n 0, 1) := by decide +kernel
theorem dX13_newName_45 : decode cX13_newName 45 = .ok (.invokevirtual 415, 3) := by decide +kernel
theorem dX13_newName_48 : decode cX13_newName 48 = .ok (.lastore, 1) := by decide +kernel
theorem dX13_newName_49 : decode cX13_newName 49 = .ok (.aload_n 0, 1) := by decide +kernel
theorem dX13_newName_50 : decode cX13_newName 50 = .ok (.invokevirtual 399, 3) := by decide +kernel
theorem dX13_newName_53 : decode cX13_newName 53 = .ok (.return_, 1) := by decide +kernel
theorem hd_X13_newName : yX13_newName.cls = RX13 ∧ yX13_newName.cls ≠ "java/lang/invoke/MethodHandle" ∧ yX13_newName.cls ≠ "java/lang/invoke/VarHandle" ∧ (parseMethodDescriptor yX13_newName.desc).map (fun d => d.parameters.length) = some 2 := by decide +kernel
theorem hs_X13_newName : yX13_newName.cls ≠ "java/lang/invoke/MethodHandle" ∧ yX13_newName.cls ≠ "java/lang/invoke/VarHandle" ∧ (parseMethodDescriptor yX13_newName.desc).map (fun d => d.parameters.length) = some 2 := by decide +kernel
set_option maxHeartbeats 4000000 in
set_option maxRecDepth 100000 in
theorem k_X13_newName (l : Launch) (E : Ev) (K : Kd) (z : Nat) (o : Nat) (a_1 : Option Nat) (a_2 : Int32) (w : Wd) (ho : K o = some (11, 0)) {w' : Wd} (hf : f_X13_newName K o a_1 a_2 w = some w') : Met l yX13_newName (Cond.code yX13_newName cX13_newName 3 (Option.none : Option Jvm.ClassFile.FieldType) :: bt) ({ frames := 7, cells := 0, slots := 0, locals := 149 } : Room) (va_Pc [rv E (some o), rv E a_1, .int a_2] (HB E K w z)) (QV E K z w') 0 0 (hA E) := by
  refine Met.ofW (cc := cX13_newName) (maxL := 3) (ret := (Option.none : Option Jvm.ClassFile.FieldType)) (by decide) rfl ?_
  intro p e s m args below meth c s₁ B hml hv
  obtain ⟨rfl, hz, hP, hKs, hT, hb0⟩ := hv
  have C : CX p l e s m _ meth c cX13_newName 3 RX13 (Option.none : Option Jvm.ClassFile.FieldType) E := ⟨B.exec, B.bytes, hml, findClass_of_methodNamed B.named, fun w h => atoms_spec (ws := Cond.code yX13_newName cX13_newName 3 (Option.none : Option Jvm.ClassFile.FieldType) :: bt) B.pre w (List.mem_cons_of_mem _ h), hKs, hT, by rw [hz]; exact hb0, B.notSynchronized, B.returns⟩
  have hH : HQ E K z w s s.heap [] := ⟨hP, va_S.rf, hz⟩
  obtain ⟨hx, hb, hml, hown, hts, hKs, hT, hb0, hlocks, hret⟩ := id C
  have hl := lv_entry [rv E (some o), rv E a_1, .int a_2] (n := 3) (by simp [lg_len_nil, lg_len_i, lg_len_j, lg_len_q, lg_len_f, lg_len_d, lg_len_r])
  rw [lg_entry_eq]
  generalize (lg_sl [rv E (some o), rv E a_1, .int a_2] ++ List.replicate (3 - (lg_sl [rv E (some o), rv E a_1, .int a_2]).length) Slot.unset).toArray = ls at hl ⊢
  replace hl : lv_has ls 3 [(0, rv E (some o)), (1, rv E a_1), (2, .int a_2)] := by simpa only [lv_args, cat_q, cat_i, cat_j, reduceIte, Nat.reduceEqDiff, Nat.reduceAdd, Nat.zero_add] using hl
  generalize s.heap = H at hH ⊢
  unfold f_X13_newName at hf
  refine hl_aload_n hx hb dX13_newName_0 rfl (lv_at hl 0 rfl) ?_
  obtain ⟨q1, hq1, hf⟩ := bnd hf
  refine hcV_v hx hb hml hown hts hKs hT hb0 hH (As := []) (rest := []) (k_X13_needsName l E K H.size o w ho hq1) (gV m9_86 m9_88 ms_114 m1_16 m9_89) hd_X13_needsName ⟨Nat.le_of_ble_eq_true rfl, Nat.le_of_ble_eq_true rfl, rfl, rfl⟩ rfl ho rfl rfl rfl hl.1 rfl rc0 rfl dX13_newName_1 ⟨Nat.zero_le _, Nat.zero_le _⟩ (fun H locs hH => ?_)
  refine hl_aload_n hx hb dX13_newName_4 rfl (lv_at hl 0 rfl) ?_
  obtain ⟨q2, hq2, hf⟩ := bnd hf
  refine hcV_i hx hb hml hown hts hKs hT hb0 hH (As := []) (rest := []) (k_X13_fine l E K H.size o q1 ho hq2) (gV m9_46 m9_48 ms_104 m1_16 m9_49) hd_X13_fine ⟨Nat.le_of_ble_eq_true rfl, Nat.le_of_ble_eq_true rfl, rfl, rfl⟩ rfl ho rfl rfl rfl hl.1 rfl rc0 rfl dX13_newName_5 ⟨Nat.zero_le _, Nat.zero_le _⟩ (fun H locs hH => ?_)
  refine lv_if_ne (tgt := 12) hx hb dX13_newName_8 (by decide) (fun c3 => ?_) (fun c3 => ?_)
  · replace hf := (if_neg c3).symm.trans hf
    refine hl_aload_n hx hb dX13_newName_12 rfl (lv_at hl 0 rfl) ?_
    refine hl_aload_n hx hb dX13_newName_13 rfl (lv_at hl 0 rfl) ?_
    obtain ⟨q4, hq4, hf⟩ := bnd hf
    refine hcV_l hx hb hml hown hts hKs hT hb0 hH (As := []) (rest := [rv E (some o)]) (k_X13_nameHere l E K H.size o q2.2 ho hq4) (gV m9_90 m9_92 ms_115 m1_16 m9_93) hd_X13_nameHere ⟨Nat.le_of_ble_eq_true rfl, Nat.le_of_ble_eq_true rfl, rfl, rfl⟩ rfl ho rfl rfl rfl hl.1 rfl (rcV rc0) rfl dX13_newName_14 ⟨Nat.zero_le _, Nat.zero_le _⟩ (fun H locs hH => ?_)
    refine hl_aload_n hx hb dX13_newName_17 rfl (lv_at hl 1 rfl) ?_
    refine lv_iload_n hx hb dX13_newName_18 rfl (lv_at hl 2 rfl) ?_
    obtain ⟨q5, hq5, hf⟩ := bnd hf
    refine hcS_i hx hb hml hown hts hKs hT hb0 hH (As := [.long q4.1, rv E a_1, .int a_2]) (rest := [rv E (some o)]) (k_X13_placeOf l E K H.size q4.1 a_1 a_2 q4.2 hq5) (gS m9_96 m9_97 m1_16 m9_98) hs_X13_placeOf ⟨Nat.le_of_ble_eq_true rfl, Nat.le_of_ble_eq_true rfl, rfl, rfl⟩ hl.1 rfl (rcV rc0) rfl dX13_newName_19 ⟨Nat.zero_le _, Nat.zero_le _⟩ (fun H locs hH => ?_)
    refine lv_iconst (v := (-1)) hx hb dX13_newName_22 (by decide) ?_
    refine lv_icmp_ne (tgt := 30) hx hb dX13_newName_23 (by decide) (fun c6 => ?_) (fun c6 => ?_)
    · replace hf := (if_neg c6).symm.trans hf
      refine lv_iconst (v := 0) hx hb dX13_newName_30 (by decide) ?_
      refine lv_iconst (v := 3) hx hb dX13_newName_31 (by decide) ?_
      obtain ⟨q7, hq7, hf⟩ := bnd hf
      refine hcV_v hx hb hml hown hts hKs hT hb0 hH (As := [.int 0, .int 3]) (rest := []) (k_X13_needs l E K H.size o false 3 q5.2 ho hq7) (gV m9_66 m9_68 ms_109 m1_16 m9_69) hd_X13_needs ⟨Nat.le_of_ble_eq_true rfl, Nat.le_of_ble_eq_true rfl, rfl, rfl⟩ rfl ho rfl rfl rfl hl.1 rfl rc0 rfl dX13_newName_32 ⟨Nat.zero_le _, Nat.zero_le _⟩ (fun H locs hH => ?_)
      refine hl_aload_n hx hb dX13_newName_35 rfl (lv_at hl 0 rfl) ?_
      obtain ⟨q8, hq8, hf⟩ := bnd hf
      refine hcV_i hx hb hml hown hts hKs hT hb0 hH (As := []) (rest := []) (k_X13_fine l E K H.size o q7 ho hq8) (gV m9_46 m9_48 ms_104 m1_16 m9_49) hd_X13_fine ⟨Nat.le_of_ble_eq_true rfl, Nat.le_of_ble_eq_true rfl, rfl, rfl⟩ rfl ho rfl rfl rfl hl.1 rfl rc0 rfl dX13_newName_36 ⟨Nat.zero_le _, Nat.zero_le _⟩ (fun H locs hH => ?_)
      refine lv_if_eq (tgt := 49) hx hb dX13_newName_39 (by decide) (fun c9 => ?_) (fun c9 => ?_)
      · replace hf := (if_pos c9).symm.trans hf
        refine hl_aload_n hx hb dX13_newName_49 rfl (lv_at hl 0 rfl) ?_
        obtain ⟨q10, hq10, hf⟩ := bnd hf
        refine hcV_v hx hb hml hown hts hKs hT hb0 hH (As := []) (rest := []) (k_X13_goOn l E K H.size o q8.2 ho hq10) (gV m9_70 m9_72 ms_110 m1_16 m9_73) hd_X13_goOn ⟨Nat.le_of_ble_eq_true rfl, Nat.le_of_ble_eq_true rfl, rfl, rfl⟩ rfl ho rfl rfl rfl hl.1 rfl rc0 rfl dX13_newName_50 ⟨Nat.zero_le _, Nat.zero_le _⟩ (fun H locs hH => ?_)
        exact hw_vret hx hb hret hf hH hlocks dX13_newName_53
      · replace hf := (if_neg c9).symm.trans hf
        refine hl_aload_n hx hb dX13_newName_42 rfl (lv_at hl 1 rfl) ?_
        refine lv_iload_n hx hb dX13_newName_43 rfl (lv_at hl 2 rfl) ?_
        refine hl_aload_n hx hb dX13_newName_44 rfl (lv_at hl 0 rfl) ?_
        obtain ⟨q11, hq11, hf⟩ := bnd hf
        refine hcV_l hx hb hml hown hts hKs hT hb0 hH (As := []) (rest := [.int a_2, rv E a_1]) (k_X13_nameHere l E K H.size o q8.2 ho hq11) (gV m9_90 m9_92 ms_115 m1_16 m9_93) hd_X13_nameHere ⟨Nat.le_of_ble_eq_true rfl, Nat.le_of_ble_eq_true rfl, rfl, rfl⟩ rfl ho rfl rfl rfl hl.1 rfl (rcI (rcV rc0)) rfl dX13_newName_45 ⟨Nat.zero_le _, Nat.zero_le _⟩ (fun H locs hH => ?_)
        obtain ⟨a12, ha12, hf⟩ := bnd hf
        replace ha12 := cha_some ha12
        obtain ⟨j13, hj13, hf⟩ := bnd hf
        obtain ⟨w14, hw14, hf⟩ := bnd hf
        replace hw14 := Option.some.inj hw14
        refine hw_last (x := q11.1) hx hb hKs hH ha12.1 ha12.2 hj13 dX13_newName_48 (fun H locs hH => ?_)
        rw [hw14] at hH
        refine hl_aload_n hx hb dX13_newName_49 rfl (lv_at hl 0 rfl) ?_
        obtain ⟨q15, hq15, hf⟩ := bnd hf
        refine hcV_v hx hb hml hown hts hKs hT hb0 hH (As := []) (rest := []) (k_X13_goOn l E K H.size o w14 ho hq15) (gV m9_70 m9_72 ms_110 m1_16 m9_73) hd_X13_goOn ⟨Nat.le_of_ble_eq_true rfl, Nat.le_of_ble_eq_true rfl, rfl, rfl⟩ rfl ho rfl rfl rfl hl.1 rfl rc0 rfl dX13_newName_50 ⟨Nat.zero_le _, Nat.zero_le _⟩ (fun H locs hH => ?_)
        exact hw_vret hx hb hret hf hH hlocks dX13_newName_53
    · replace hf := (if_pos c6).symm.trans hf
      refine lv_iconst (v := 1) hx hb dX13_newName_26 (by decide) ?_
      refine lv_goto (tgt := 31) hx hb dX13_newName_27 (by decide) ?_
      refine lv_iconst (v := 3) hx hb dX13_newName_31 (by decide) ?_
      obtain ⟨q16, hq16, hf⟩ := bnd hf
      refine hcV_v hx hb hml hown hts hKs hT hb0 hH (As := [.int 1, .int 3]) (rest := []) (k_X13_needs l E K H.size o true 3 q5.2 ho hq16) (gV m9_66 m9_68 ms_109 m1_16 m9_69) hd_X13_needs ⟨Nat.le_of_ble_eq_true rfl, Nat.le_of_ble_eq_true rfl, rfl, rfl⟩ rfl ho rfl rfl rfl hl.1 rfl rc0 rfl dX13_newName_32 ⟨Nat.zero_le _, Nat.zero_le _⟩ (fun H locs hH => ?_)
      refine hl_aload_n hx hb dX13_newName_35 rfl (lv_at hl 0 rfl) ?_
      obtain ⟨q17, hq17, hf⟩ := bnd hf
      refine hcV_i hx hb hml hown hts hKs hT hb0 hH (As := []) (rest := []) (k_X13_fine l E K H.size o q16 ho hq17) (gV m9_46 m9_48 ms_104 m1_16 m9_49) hd_X13_fine ⟨Nat.le_of_ble_eq_true rfl, Nat.le_of_ble_eq_true rfl, rfl, rfl⟩ rfl ho rfl rfl rfl hl.1 rfl rc0 rfl dX13_newName_36 ⟨Nat.zero_le _, Nat.zero_le _⟩ (fun H locs hH => ?_)
      refine lv_if_eq (tgt := 49) hx hb dX13_newName_39 (by decide) (fun c18 => ?_) (fun c18 => ?_)
      · replace hf := (if_pos c18).symm.trans hf
        refine hl_aload_n hx hb dX13_newName_49 rfl (lv_at hl 0 rfl) ?_
        obtain ⟨q19, hq19, hf⟩ := bnd hf
        refine hcV_v hx hb hml hown hts hKs hT hb0 hH (As := []) (rest := []) (k_X13_goOn l E K H.size o q17.2 ho hq19) (gV m9_70 m9_72 ms_110 m1_16 m9_73) hd_X13_goOn ⟨Nat.le_of_ble_eq_true rfl, Nat.le_of_ble_eq_true rfl, rfl, rfl⟩ rfl ho rfl rfl rfl hl.1 rfl rc0 rfl dX13_newName_50 ⟨Nat.zero_le _, Nat.zero_le _⟩ (fun H locs hH => ?_)
        exact hw_vret hx hb hret hf hH hlocks dX13_newName_53
      · replace hf := (if_neg c18).symm.trans hf
        refine hl_aload_n hx hb dX13_newName_42 rfl (lv_at hl 1 rfl) ?_
        refine lv_iload_n hx hb dX13_newName_43 rfl (lv_at hl 2 rfl) ?_
        refine hl_aload_n hx hb dX13_newName_44 rfl (lv_at hl 0 rfl) ?_
        obtain ⟨q20, hq20, hf⟩ := bnd hf
        refine hcV_l hx hb hml hown hts hKs hT hb0 hH (As := []) (rest := [.int a_2, rv E a_1]) (k_X13_nameHere l E K H.size o q17.2 ho hq20) (gV m9_90 m9_92 ms_115 m1_16 m9_93) hd_X13_nameHere ⟨Nat.le_of_ble_eq_true rfl, Nat.le_of_ble_eq_true rfl, rfl, rfl⟩ rfl ho rfl rfl rfl hl.1 rfl (rcI (rcV rc0)) rfl dX13_newName_45 ⟨Nat.zero_le _, Nat.zero_le _⟩ (fun H locs hH => ?_)
        obtain ⟨a21, ha21, hf⟩ := bnd hf
        replace ha21 := cha_some ha21
        obtain ⟨j22, hj22, hf⟩ := bnd hf
        obtain ⟨w23, hw23, hf⟩ := bnd hf
        replace hw23 := Option.some.inj hw23
        refine hw_last (x := q20.1) hx hb hKs hH ha21.1 ha21.2 hj22 dX13_newName_48 (fun H locs hH => ?_)
        rw [hw23] at hH
        refine hl_aload_n hx hb dX13_newName_49 rfl (lv_at hl 0 rfl) ?_
        obtain ⟨q24, hq24, hf⟩ := bnd hf
        refine hcV_v hx hb hml hown hts hKs hT hb0 hH (As := []) (rest := []) (k_X13_goOn l E K H.size o w23 ho hq24) (gV m9_70 m9_72 ms_110 m1_16 m9_73) hd_X13_goOn ⟨Nat.le_of_ble_eq_true rfl, Nat.le_of_ble_eq_true rfl, rfl, rfl⟩ rfl ho rfl rfl rfl hl.1 rfl rc0 rfl dX13_newName_50 ⟨Nat.zero_le _, Nat.zero_le _⟩ (fun H locs hH => ?_)
        exact hw_vret hx hb hret hf hH hlocks dX13_newName_53
  · replace hf := (if_pos c3).symm.trans hf
    exact hw_vret hx hb hret hf hH hlocks dX13_newName_11

theorem dX13_begins_0 : decode cX13_begins 0 = .ok (.aload_n 0, 1) := by decide +kernel
theorem dX13_begins_1 : decode cX13_begins 1 = .ok (.iload_n 1, 1) := by decide +kernel
theorem dX13_begins_2 : decode cX13_begins 2 = .ok (.iload_n 2, 1) := by decide +kernel
theorem dX13_begins_3 : decode cX13_begins 3 = .ok (.if_icmp .ge 7, 3) := by decide +kernel
theorem dX13_begins_6 : decode cX13_begins 6 = .ok (.iconst 1, 1) := by decide +kernel
theorem dX13_begins_7 : decode cX13_begins 7 = .ok (.goto 4, 3) := by decide +kernel
theorem dX13_begins_10 : decode cX13_begins 10 = .ok (.iconst 0, 1) := by decide +kernel
theorem dX13_begins_11 : decode cX13_begins 11 = .ok (.iconst 4, 1) := by decide +kernel
theorem dX13_begins_12 : decode cX13_begins 12 = .ok (.invokevirtual 392, 3) := by decide +kernel
theorem dX13_begins_15 : decode cX13_begins 15 = .ok (.aload_n 0, 1) := by decide +kernel
theorem dX13_begins_16 : decode cX13_begins 16 = .ok (.invokevirtual 399, 3) := by decide +kernel
theorem dX13_begins_19 : decode cX13_begins 19 = .ok (.aload_n 0, 1) := by decide +kernel
theorem dX13_begins_20 : decode cX13_begins 20 = .ok (.invokevirtual 379, 3) := by decide +kernel
theorem dX13_begins_23 : decode cX13_begins 23 = .ok (.ireturn, 1) := by decide +kernel
theorem hd_X13_begins : yX13_begins.cls = RX13 ∧ yX13_begins.cls ≠ "java/lang/invoke/MethodHandle" ∧ yX13_begins.cls ≠ "java/lang/invoke/VarHandle" ∧ (parseMethodDescriptor yX13_begins.desc).map (fun d => d.parameters.length) = some 2 := by decide +kernel
theorem hs_X13_begins : yX13_begins.cls ≠ "java/lang/invoke/MethodHandle" ∧ yX13_begins.cls ≠ "java/lang/invoke/VarHandle" ∧ (parseMethodDescriptor yX13_begins.desc).map (fun d => d.parameters.length) = some 2 := by decide +kernel
set_option maxHeartbeats 4000000 in
set_option maxRecDepth 100000 in
theorem k_X13_begins (l : Launch) (E : Ev) (K : Kd) (z : Nat) (o : Nat) (a_1 : Int32) (a_2 : Int32) (w : Wd) (ho : K o = some (11, 0)) {r : Bool} {w' : Wd} (hf : f_X13_begins K o a_1 a_2 w = some (r, w')) : Met l yX13_begins (Cond.code yX13_begins cX13_begins 3 (Option.some Jvm.ClassFile.FieldType.boolean) :: bt) ({ frames := 7, cells := 0, slots := 0, locals := 149 } : Room) (va_Pc [rv E (some o), .int a_1, .int a_2] (HB E K w z)) (QI E K z w' (b2i r)) 0 0 (hA E) := by
  refine Met.ofW (cc := cX13_begins) (maxL := 3) (ret := (Option.some Jvm.ClassFile.FieldType.boolean)) (by decide) rfl ?_
  intro p e s m args below meth c s₁ B hml hv
  obtain ⟨rfl, hz, hP, hKs, hT, hb0⟩ := hv
  have C : CX p l e s m _ meth c cX13_begins 3 RX13 (Option.some Jvm.ClassFile.FieldType.boolean) E := ⟨B.exec, B.bytes, hml, findClass_of_methodNamed B.named, fun w h => atoms_spec (ws := Cond.code yX13_begins cX13_begins 3 (Option.some Jvm.ClassFile.FieldType.boolean) :: bt) B.pre w (List.mem_cons_of_mem _ h), hKs, hT, by rw [hz]; exact hb0, B.notSynchronized, B.returns⟩
  have hH : HQ E K z w s s.heap [] := ⟨hP, va_S.rf, hz⟩
  obtain ⟨hx, hb, hml, hown, hts, hKs, hT, hb0, hlocks, hret⟩ := id C
  have hl := lv_entry [rv E (some o), .int a_1, .int a_2] (n := 3) (by simp [lg_len_nil, lg_len_i, lg_len_j, lg_len_q, lg_len_f, lg_len_d, lg_len_r])
  rw [lg_entry_eq]
  generalize (lg_sl [rv E (some o), .int a_1, .int a_2] ++ List.replicate (3 - (lg_sl [rv E (some o), .int a_1, .int a_2]).length) Slot.unset).toArray = ls at hl ⊢
  replace hl : lv_has ls 3 [(0, rv E (some o)), (1, .int a_1), (2, .int a_2)] := by simpa only [lv_args, cat_q, cat_i, cat_j, reduceIte, Nat.reduceEqDiff, Nat.reduceAdd, Nat.zero_add] using hl
  generalize s.heap = H at hH ⊢
  unfold f_X13_begins at hf
  refine hl_aload_n hx hb dX13_begins_0 rfl (lv_at hl 0 rfl) ?_
  refine lv_iload_n hx hb dX13_begins_1 rfl (lv_at hl 1 rfl) ?_
  refine lv_iload_n hx hb dX13_begins_2 rfl (lv_at hl 2 rfl) ?_
  refine lv_icmp_ge (tgt := 10) hx hb dX13_begins_3 (by decide) (fun c1 => ?_) (fun c1 => ?_)
  · replace hf := (if_pos c1).symm.trans hf
    refine lv_iconst (v := 0) hx hb dX13_begins_10 (by decide) ?_
    refine lv_iconst (v := 4) hx hb dX13_begins_11 (by decide) ?_
    obtain ⟨q2, hq2, hf⟩ := bnd hf
    refine hcV_v hx hb hml hown hts hKs hT hb0 hH (As := [.int 0, .int 4]) (rest := []) (k_X13_needs l E K H.size o false 4 w ho hq2) (gV m9_66 m9_68 ms_109 m1_16 m9_69) hd_X13_needs ⟨Nat.le_of_ble_eq_true rfl, Nat.le_of_ble_eq_true rfl, rfl, rfl⟩ rfl ho rfl rfl rfl hl.1 rfl rc0 rfl dX13_begins_12 ⟨Nat.zero_le _, Nat.zero_le _⟩ (fun H locs hH => ?_)
    refine hl_aload_n hx hb dX13_begins_15 rfl (lv_at hl 0 rfl) ?_
    obtain ⟨q3, hq3, hf⟩ := bnd hf
    refine hcV_v hx hb hml hown hts hKs hT hb0 hH (As := []) (rest := []) (k_X13_goOn l E K H.size o q2 ho hq3) (gV m9_70 m9_72 ms_110 m1_16 m9_73) hd_X13_goOn ⟨Nat.le_of_ble_eq_true rfl, Nat.le_of_ble_eq_true rfl, rfl, rfl⟩ rfl ho rfl rfl rfl hl.1 rfl rc0 rfl dX13_begins_16 ⟨Nat.zero_le _, Nat.zero_le _⟩ (fun H locs hH => ?_)
    refine hl_aload_n hx hb dX13_begins_19 rfl (lv_at hl 0 rfl) ?_
    obtain ⟨q4, hq4, hf⟩ := bnd hf
    refine hcV_i hx hb hml hown hts hKs hT hb0 hH (As := []) (rest := []) (k_X13_fine l E K H.size o q3 ho hq4) (gV m9_46 m9_48 ms_104 m1_16 m9_49) hd_X13_fine ⟨Nat.le_of_ble_eq_true rfl, Nat.le_of_ble_eq_true rfl, rfl, rfl⟩ rfl ho rfl rfl rfl hl.1 rfl rc0 rfl dX13_begins_20 ⟨Nat.zero_le _, Nat.zero_le _⟩ (fun H locs hH => ?_)
    exact hw_zret hx hb hret rfl hf hH hlocks dX13_begins_23
  · replace hf := (if_neg c1).symm.trans hf
    refine lv_iconst (v := 1) hx hb dX13_begins_6 (by decide) ?_
    refine lv_goto (tgt := 11) hx hb dX13_begins_7 (by decide) ?_
    refine lv_iconst (v := 4) hx hb dX13_begins_11 (by decide) ?_
    obtain ⟨q5, hq5, hf⟩ := bnd hf
    refine hcV_v hx hb hml hown hts hKs hT hb0 hH (As := [.int 1, .int 4]) (rest := []) (k_X13_needs l E K H.size o true 4 w ho hq5) (gV m9_66 m9_68 ms_109 m1_16 m9_69) hd_X13_needs ⟨Nat.le_of_ble_eq_true rfl, Nat.le_of_ble_eq_true rfl, rfl, rfl⟩ rfl ho rfl rfl rfl hl.1 rfl rc0 rfl dX13_begins_12 ⟨Nat.zero_le _, Nat.zero_le _⟩ (fun H locs hH => ?_)
    refine hl_aload_n hx hb dX13_begins_15 rfl (lv_at hl 0 rfl) ?_
    obtain ⟨q6, hq6, hf⟩ := bnd hf
    refine hcV_v hx hb hml hown hts hKs hT hb0 hH (As := []) (rest := []) (k_X13_goOn l E K H.size o q5 ho hq6) (gV m9_70 m9_72 ms_110 m1_16 m9_73) hd_X13_goOn ⟨Nat.le_of_ble_eq_true rfl, Nat.le_of_ble_eq_true rfl, rfl, rfl⟩ rfl ho rfl rfl rfl hl.1 rfl rc0 rfl dX13_begins_16 ⟨Nat.zero_le _, Nat.zero_le _⟩ (fun H locs hH => ?_)
    refine hl_aload_n hx hb dX13_begins_19 rfl (lv_at hl 0 rfl) ?_
    obtain ⟨q7, hq7, hf⟩ := bnd hf
    refine hcV_i hx hb hml hown hts hKs hT hb0 hH (As := []) (rest := []) (k_X13_fine l E K H.size o q6 ho hq7) (gV m9_46 m9_48 ms_104 m1_16 m9_49) hd_X13_fine ⟨Nat.le_of_ble_eq_true rfl, Nat.le_of_ble_eq_true rfl, rfl, rfl⟩ rfl ho rfl rfl rfl hl.1 rfl rc0 rfl dX13_begins_20 ⟨Nat.zero_le _, Nat.zero_le _⟩ (fun H locs hH => ?_)
    exact hw_zret hx hb hret rfl hf hH hlocks dX13_begins_23

theorem dX13_readsHoliday_0 : decode cX13_readsHoliday 0 = .ok (.aload_n 0, 1) := by decide +kernel
theorem dX13_readsHoliday_1 : decode cX13_readsHoliday 1 = .ok (.getfield 19, 3) := by decide +kernel
theorem dX13_readsHoliday_4 : decode cX13_readsHoliday 4 = .ok (.iconst 1, 1) := by decide +kernel
theorem dX13_readsHoliday_5 : decode cX13_readsHoliday 5 = .ok (.iaload, 1) := by decide +kernel
theorem dX13_readsHoliday_6 : decode cX13_readsHoliday 6 = .ok (.istore_n 1, 1) := by decide +kernel
theorem dX13_readsHoliday_7 : decode cX13_readsHoliday 7 = .ok (.aload_n 0, 1) := by decide +kernel
theorem dX13_readsHoliday_8 : decode cX13_readsHoliday 8 = .ok (.iload_n 1, 1) := by decide +kernel
theorem dX13_readsHoliday_9 : decode cX13_readsHoliday 9 = .ok (.bipush 20, 2) := by decide +kernel
theorem dX13_readsHoliday_11 : decode cX13_readsHoliday 11 = .ok (.invokevirtual 423, 3) := by decide +kernel
theorem dX13_readsHoliday_14 : decode cX13_readsHoliday 14 = .ok (.ifCond .ne 4, 3) := by decide +kernel
theorem dX13_readsHoliday_17 : decode cX13_readsHoliday 17 = .ok (.return_, 1) := by decide +kernel
theorem dX13_readsHoliday_18 : decode cX13_readsHoliday 18 = .ok (.aload_n 0, 1) := by decide +kernel
theorem dX13_readsHoliday_19 : decode cX13_readsHoliday 19 = .ok (.iconst 0, 1) := by decide +kernel
theorem dX13_readsHoliday_20 : decode cX13_readsHoliday 20 = .ok (.sipush 599, 3) := by decide +kernel
theorem dX13_readsHoliday_23 : decode cX13_readsHoliday 23 = .ok (.invokevirtual 396, 3) := by decide +kernel
theorem dX13_readsHoliday_26 : decode cX13_readsHoliday 26 = .ok (.istore_n 2, 1) := by decide +kernel
theorem dX13_readsHoliday_27 : decode cX13_readsHoliday 27 = .ok (.iconst 0, 1) := by decide +kernel
theorem dX13_readsHoliday_28 : decode cX13_readsHoliday 28 = .ok (.istore_n 3, 1) := by decide +kernel
theorem dX13_readsHoliday_29 : decode cX13_readsHoliday 29 = .ok (.iload_n 3, 1) := by decide +kernel
theorem dX13_readsHoliday_30 : decode cX13_readsHoliday 30 = .ok (.iload_n 1, 1) := by decide +kernel
theorem dX13_readsHoliday_31 : decode cX13_readsHoliday 31 = .ok (.if_icmp .ge 38, 3) := by decide +kernel
theorem dX13_readsHoliday_34 : decode cX13_readsHoliday 34 = .ok (.aload_n 0, 1) := by decide +kernel
theorem dX13_readsHoliday_35 : decode cX13_readsHoliday 35 = .ok (.invokevirtual 379, 3) := by decide +kernel
theorem dX13_readsHoliday_38 : decode cX13_readsHoliday 38 = .ok (.ifCond .eq 31, 3) := by decide +kernel
theorem dX13_readsHoliday_41 : decode cX13_readsHoliday 41 = .ok (.aload_n 0, 1) := by decide +kernel
theorem dX13_readsHoliday_42 : decode cX13_readsHoliday 42 = .ok (.aload_n 0, 1) := by decide +kernel
theorem dX13_readsHoliday_43 : decode cX13_readsHoliday 43 = .ok (.getfield 19, 3) := by decide +kernel
theorem dX13_readsHoliday_46 : decode cX13_readsHoliday 46 = .ok (.iconst 2, 1) := by decide +kernel
theorem dX13_readsHoliday_47 : decode cX13_readsHoliday 47 = .ok (.iload_n 3, 1) := by decide +kernel
theorem dX13_readsHoliday_48 : decode cX13_readsHoliday 48 = .ok (.iadd, 1) := by decide +kernel
theorem dX13_readsHoliday_49 : decode cX13_readsHoliday 49 = .ok (.iaload, 1) := by decide +kernel
theorem dX13_readsHoliday_50 : decode cX13_readsHoliday 50 = .ok (.iload_n 2, 1) := by decide +kernel
theorem dX13_readsHoliday_51 : decode cX13_readsHoliday 51 = .ok (.if_icmp .eq 7, 3) := by decide +kernel
theorem dX13_readsHoliday_54 : decode cX13_readsHoliday 54 = .ok (.iconst 1, 1) := by decide +kernel
theorem dX13_readsHoliday_55 : decode cX13_readsHoliday 55 = .ok (.goto 4, 3) := by decide +kernel
theorem dX13_readsHoliday_58 : decode cX13_readsHoliday 58 = .ok (.iconst 0, 1) := by decide +kernel
theorem dX13_readsHoliday_59 : decode cX13_readsHoliday 59 = .ok (.iconst 3, 1) := by decide +kernel
theorem dX13_readsHoliday_60 : decode cX13_readsHoliday 60 = .ok (.invokevirtual 392, 3) := by decide +kernel
theorem dX13_readsHoliday_63 : decode cX13_readsHoliday 63 = .ok (.iinc 3 1, 3) := by decide +kernel
theorem dX13_readsHoliday_66 : decode cX13_readsHoliday 66 = .ok (.goto (-37), 3) := by decide +kernel
theorem dX13_readsHoliday_69 : decode cX13_readsHoliday 69 = .ok (.aload_n 0, 1) := by decide +kernel
theorem dX13_readsHoliday_70 : decode cX13_readsHoliday 70 = .ok (.invokevirtual 399, 3) := by decide +kernel
theorem dX13_readsHoliday_73 : decode cX13_readsHoliday 73 = .ok (.aload_n 0, 1) := by decide +kernel
theorem dX13_readsHoliday_74 : decode cX13_readsHoliday 74 = .ok (.invokevirtual 379, 3) := by decide +kernel
theorem dX13_readsHoliday_77 : decode cX13_readsHoliday 77 = .ok (.ifCond .ne 4, 3) := by decide +kernel
theorem dX13_readsHoliday_80 : decode cX13_readsHoliday 80 = .ok (.return_, 1) := by decide +kernel
theorem dX13_readsHoliday_81 : decode cX13_readsHoliday 81 = .ok (.aload_n 0, 1) := by decide +kernel
theorem dX13_readsHoliday_82 : decode cX13_readsHoliday 82 = .ok (.getfield 19, 3) := by decide +kernel
theorem dX13_readsHoliday_85 : decode cX13_readsHoliday 85 = .ok (.iconst 2, 1) := by decide +kernel
theorem dX13_readsHoliday_86 : decode cX13_readsHoliday 86 = .ok (.iload_n 1, 1) := by decide +kernel
theorem dX13_readsHoliday_87 : decode cX13_readsHoliday 87 = .ok (.iadd, 1) := by decide +kernel
theorem dX13_readsHoliday_88 : decode cX13_readsHoliday 88 = .ok (.iload_n 2, 1) := by decide +kernel
theorem dX13_readsHoliday_89 : decode cX13_readsHoliday 89 = .ok (.iastore, 1) := by decide +kernel
theorem dX13_readsHoliday_90 : decode cX13_readsHoliday 90 = .ok (.aload_n 0, 1) := by decide +kernel
theorem dX13_readsHoliday_91 : decode cX13_readsHoliday 91 = .ok (.getfield 19, 3) := by decide +kernel
theorem dX13_readsHoliday_94 : decode cX13_readsHoliday 94 = .ok (.iconst 1, 1) := by decide +kernel
theorem dX13_readsHoliday_95 : decode cX13_readsHoliday 95 = .ok (.iload_n 1, 1) := by decide +kernel
theorem dX13_readsHoliday_96 : decode cX13_readsHoliday 96 = .ok (.iconst 1, 1) := by decide +kernel
theorem dX13_readsHoliday_97 : decode cX13_readsHoliday 97 = .ok (.iadd, 1) := by decide +kernel
theorem dX13_readsHoliday_98 : decode cX13_readsHoliday 98 = .ok (.iastore, 1) := by decide +kernel
theorem dX13_readsHoliday_99 : decode cX13_readsHoliday 99 = .ok (.return_, 1) := by decide +kernel
theorem hd_X13_readsHoliday : yX13_readsHoliday.cls = RX13 ∧ yX13_readsHoliday.cls ≠ "java/lang/invoke/MethodHandle" ∧ yX13_readsHoliday.cls ≠ "java/lang/invoke/VarHandle" ∧ (parseMethodDescriptor yX13_readsHoliday.desc).map (fun d => d.parameters.length) = some 0 := by decide +kernel
theorem hs_X13_readsHoliday : yX13_readsHoliday.cls ≠ "java/lang/invoke/MethodHandle" ∧ yX13_readsHoliday.cls ≠ "java/lang/invoke/VarHandle" ∧ (parseMethodDescriptor yX13_readsHoliday.desc).map (fun d => d.parameters.length) = some 0 := by decide +kernel
set_option maxHeartbeats 4000000 in
set_option maxRecDepth 100000 in
theorem l_X13_readsHoliday_L29 (C : CX p l e s m args meth c cX13_readsHoliday 4 RX13 (Option.none : Option Jvm.ClassFile.FieldType) E) {o : Nat} (ho : K o = some (11, 0)) {w' : Wd} (k : Int32 → Int32 → Int32 → Wd → Option Wd) (hk : ∀ (v1_29 : Int32) (v2_29 : Int32) (v3_29 : Int32) (w : Wd) (H : Heap) (locs : List Loc) (ls : Array Slot), HQ E K z w s H locs → lv_has ls 4 [(1, .int v1_29), (2, .int v2_29), (3, .int v3_29), (0, rv E (some o))] → k v1_29 v2_29 v3_29 w = some w' → W p l e ({ frames := 8, cells := 0, slots := 0, locals := 171 } : Room) s m args below meth c H locs 0 0 (MQ below (QV E K z w') args s 0 0 (hA E)) (F0 m 69 ls [])) : ∀ (n : Nat) (v1_29 : Int32) (v2_29 : Int32) (v3_29 : Int32) (w : Wd) (H : Heap) (locs : List Loc) (ls : Array Slot), HQ E K z w s H locs → lv_has ls 4 [(1, .int v1_29), (2, .int v2_29), (3, .int v3_29), (0, rv E (some o))] → f_X13_readsHoliday_L29 K o k n v1_29 v2_29 v3_29 w = some w' → W p l e ({ frames := 8, cells := 0, slots := 0, locals := 171 } : Room) s m args below meth c H locs 0 0 (MQ below (QV E K z w') args s 0 0 (hA E)) (F0 m 29 ls []) := by
  obtain ⟨hx, hb, hml, hown, hts, hKs, hT, hb0, hlocks, hret⟩ := id C
  intro n
  induction n with
  | zero =>
    intro v1_29 v2_29 v3_29 w H locs ls hH hl hf
    cases hf
  | succ n ih =>
    intro v1_29 v2_29 v3_29 w H locs ls hH hl hf
    rw [f_X13_readsHoliday_L29] at hf
    refine lv_iload_n hx hb dX13_readsHoliday_29 rfl (lv_at hl 2 rfl) ?_
    refine lv_iload_n hx hb dX13_readsHoliday_30 rfl (lv_at hl 0 rfl) ?_
    refine lv_icmp_ge (tgt := 69) hx hb dX13_readsHoliday_31 (by decide) (fun c7 => ?_) (fun c7 => ?_)
    · replace hf := (if_pos c7).symm.trans hf
      exact hk v1_29 v2_29 v3_29 _ _ _ _ hH (lv_sub hl [0, 1, 2, 3] rfl) hf
    · replace hf := (if_neg c7).symm.trans hf
      refine hl_aload_n hx hb dX13_readsHoliday_34 rfl (lv_at hl 3 rfl) ?_
      obtain ⟨q8, hq8, hf⟩ := bnd hf
      refine hcV_i hx hb hml hown hts hKs hT hb0 hH (As := []) (rest := []) (k_X13_fine l E K H.size o w ho hq8) (gV m9_46 m9_48 ms_104 m1_16 m9_49) hd_X13_fine ⟨Nat.le_of_ble_eq_true rfl, Nat.le_of_ble_eq_true rfl, rfl, rfl⟩ rfl ho rfl rfl rfl hl.1 rfl rc0 rfl dX13_readsHoliday_35 ⟨Nat.zero_le _, Nat.zero_le _⟩ (fun H locs hH => ?_)
      refine lv_if_eq (tgt := 69) hx hb dX13_readsHoliday_38 (by decide) (fun c9 => ?_) (fun c9 => ?_)
      · replace hf := (if_pos c9).symm.trans hf
        exact hk v1_29 v2_29 v3_29 _ _ _ _ hH (lv_sub hl [0, 1, 2, 3] rfl) hf
      · replace hf := (if_neg c9).symm.trans hf
        refine hl_aload_n hx hb dX13_readsHoliday_41 rfl (lv_at hl 3 rfl) ?_
        refine hl_aload_n hx hb dX13_readsHoliday_42 rfl (lv_at hl 3 rfl) ?_
        refine g13_4 hx hb hts hown hKs hH rfl ho m6_185 dX13_readsHoliday_43 ?_
        refine lv_iconst (v := 2) hx hb dX13_readsHoliday_46 (by decide) ?_
        refine lv_iload_n hx hb dX13_readsHoliday_47 rfl (lv_at hl 2 rfl) ?_
        refine lv_iadd hx hb dX13_readsHoliday_48 ?_
        obtain ⟨a10, ha10, hf⟩ := bnd hf
        replace ha10 := cha_some ha10
        obtain ⟨j11, hj11, hf⟩ := bnd hf
        refine hw_iald hx hb hKs hH ha10.1 ha10.2 hj11 dX13_readsHoliday_49 ?_
        refine lv_iload_n hx hb dX13_readsHoliday_50 rfl (lv_at hl 1 rfl) ?_
        refine lv_icmp_eq (tgt := 58) hx hb dX13_readsHoliday_51 (by decide) (fun c12 => ?_) (fun c12 => ?_)
        · replace hf := (if_pos c12).symm.trans hf
          refine lv_iconst (v := 0) hx hb dX13_readsHoliday_58 (by decide) ?_
          refine lv_iconst (v := 3) hx hb dX13_readsHoliday_59 (by decide) ?_
          obtain ⟨q13, hq13, hf⟩ := bnd hf
          refine hcV_v hx hb hml hown hts hKs hT hb0 hH (As := [.int 0, .int 3]) (rest := []) (k_X13_needs l E K H.size o false 3 q8.2 ho hq13) (gV m9_66 m9_68 ms_109 m1_16 m9_69) hd_X13_needs ⟨Nat.le_of_ble_eq_true rfl, Nat.le_of_ble_eq_true rfl, rfl, rfl⟩ rfl ho rfl rfl rfl hl.1 rfl rc0 rfl dX13_readsHoliday_60 ⟨Nat.zero_le _, Nat.zero_le _⟩ (fun H locs hH => ?_)
          refine lv_iinc (v := (v3_29 + 1)) (lv' := [(3, .int ((v3_29 + 1))), (1, .int v1_29), (2, .int v2_29), (0, rv E (some o))]) hx hb dX13_readsHoliday_63 hl (k := 2) rfl rfl (by decide) rfl (fun ls hl => ?_)
          refine lv_goto (tgt := 29) hx hb dX13_readsHoliday_66 (by decide) ?_
          exact ih v1_29 v2_29 (v3_29 + 1) _ _ _ _ hH (lv_sub hl [1, 2, 0, 3] rfl) hf
        · replace hf := (if_neg c12).symm.trans hf
          refine lv_iconst (v := 1) hx hb dX13_readsHoliday_54 (by decide) ?_
          refine lv_goto (tgt := 59) hx hb dX13_readsHoliday_55 (by decide) ?_
          refine lv_iconst (v := 3) hx hb dX13_readsHoliday_59 (by decide) ?_
          obtain ⟨q14, hq14, hf⟩ := bnd hf
          refine hcV_v hx hb hml hown hts hKs hT hb0 hH (As := [.int 1, .int 3]) (rest := []) (k_X13_needs l E K H.size o true 3 q8.2 ho hq14) (gV m9_66 m9_68 ms_109 m1_16 m9_69) hd_X13_needs ⟨Nat.le_of_ble_eq_true rfl, Nat.le_of_ble_eq_true rfl, rfl, rfl⟩ rfl ho rfl rfl rfl hl.1 rfl rc0 rfl dX13_readsHoliday_60 ⟨Nat.zero_le _, Nat.zero_le _⟩ (fun H locs hH => ?_)
          refine lv_iinc (v := (v3_29 + 1)) (lv' := [(3, .int ((v3_29 + 1))), (1, .int v1_29), (2, .int v2_29), (0, rv E (some o))]) hx hb dX13_readsHoliday_63 hl (k := 2) rfl rfl (by decide) rfl (fun ls hl => ?_)
          refine lv_goto (tgt := 29) hx hb dX13_readsHoliday_66 (by decide) ?_
          exact ih v1_29 v2_29 (v3_29 + 1) _ _ _ _ hH (lv_sub hl [1, 2, 0, 3] rfl) hf
set_option maxHeartbeats 4000000 in
set_option maxRecDepth 100000 in
theorem k_X13_readsHoliday (l : Launch) (E : Ev) (K : Kd) (z : Nat) (o : Nat) (w : Wd) (ho : K o = some (11, 0)) {w' : Wd} (hf : f_X13_readsHoliday K o w = some w') : Met l yX13_readsHoliday (Cond.code yX13_readsHoliday cX13_readsHoliday 4 (Option.none : Option Jvm.ClassFile.FieldType) :: bt) ({ frames := 8, cells := 0, slots := 0, locals := 171 } : Room) (va_Pc [rv E (some o)] (HB E K w z)) (QV E K z w') 0 0 (hA E) := by
  refine Met.ofW (cc := cX13_readsHoliday) (maxL := 4) (ret := (Option.none : Option Jvm.ClassFile.FieldType)) (by decide) rfl ?_
  intro p e s m args below meth c s₁ B hml hv
  obtain ⟨rfl, hz, hP, hKs, hT, hb0⟩ := hv
  have C : CX p l e s m _ meth c cX13_readsHoliday 4 RX13 (Option.none : Option Jvm.ClassFile.FieldType) E := ⟨B.exec, B.bytes, hml, findClass_of_methodNamed B.named, fun w h => atoms_spec (ws := Cond.code yX13_readsHoliday cX13_readsHoliday 4 (Option.none : Option Jvm.ClassFile.FieldType) :: bt) B.pre w (List.mem_cons_of_mem _ h), hKs, hT, by rw [hz]; exact hb0, B.notSynchronized, B.returns⟩
  have hH : HQ E K z w s s.heap [] := ⟨hP, va_S.rf, hz⟩
  obtain ⟨hx, hb, hml, hown, hts, hKs, hT, hb0, hlocks, hret⟩ := id C
  have hl := lv_entry [rv E (some o)] (n := 4) (by simp [lg_len_nil, lg_len_i, lg_len_j, lg_len_q, lg_len_f, lg_len_d, lg_len_r])
  rw [lg_entry_eq]
  generalize (lg_sl [rv E (some o)] ++ List.replicate (4 - (lg_sl [rv E (some o)]).length) Slot.unset).toArray = ls at hl ⊢
  replace hl : lv_has ls 4 [(0, rv E (some o))] := by simpa only [lv_args, cat_q, cat_i, cat_j, reduceIte, Nat.reduceEqDiff, Nat.reduceAdd, Nat.zero_add] using hl
  generalize s.heap = H at hH ⊢
  unfold f_X13_readsHoliday at hf
  refine hl_aload_n hx hb dX13_readsHoliday_0 rfl (lv_at hl 0 rfl) ?_
  refine g13_4 hx hb hts hown hKs hH rfl ho m6_185 dX13_readsHoliday_1 ?_
  refine lv_iconst (v := 1) hx hb dX13_readsHoliday_4 (by decide) ?_
  obtain ⟨a1, ha1, hf⟩ := bnd hf
  replace ha1 := cha_some ha1
  obtain ⟨j2, hj2, hf⟩ := bnd hf
  refine hw_iald hx hb hKs hH ha1.1 ha1.2 hj2 dX13_readsHoliday_5 ?_
  refine lv_istore_n (i := 1) (lv' := [(1, .int ((aI w a1.1 j2))), (0, rv E (some o))]) hx hb dX13_readsHoliday_6 rfl hl (by decide) rfl (fun ls hl => ?_)
  refine hl_aload_n hx hb dX13_readsHoliday_7 rfl (lv_at hl 1 rfl) ?_
  refine lv_iload_n hx hb dX13_readsHoliday_8 rfl (lv_at hl 0 rfl) ?_
  refine lv_bipush (v := 20) hx hb dX13_readsHoliday_9 (by decide) ?_
  obtain ⟨q3, hq3, hf⟩ := bnd hf
  refine hcV_i hx hb hml hown hts hKs hT hb0 hH (As := [.int ((aI w a1.1 j2)), .int 20]) (rest := []) (k_X13_begins l E K H.size o (aI w a1.1 j2) 20 w ho hq3) (gV m9_62 m9_64 ms_108 m1_16 m9_65) hd_X13_begins ⟨Nat.le_of_ble_eq_true rfl, Nat.le_of_ble_eq_true rfl, rfl, rfl⟩ rfl ho rfl rfl rfl hl.1 rfl rc0 rfl dX13_readsHoliday_11 ⟨Nat.zero_le _, Nat.zero_le _⟩ (fun H locs hH => ?_)
  refine lv_if_ne (tgt := 18) hx hb dX13_readsHoliday_14 (by decide) (fun c4 => ?_) (fun c4 => ?_)
  · replace hf := (if_neg c4).symm.trans hf
    refine hl_aload_n hx hb dX13_readsHoliday_18 rfl (lv_at hl 1 rfl) ?_
    refine lv_iconst (v := 0) hx hb dX13_readsHoliday_19 (by decide) ?_
    refine lv_sipush (v := 599) hx hb dX13_readsHoliday_20 (by decide) ?_
    obtain ⟨q5, hq5, hf⟩ := bnd hf
    refine hcV_i hx hb hml hown hts hKs hT hb0 hH (As := [.int 0, .int 599]) (rest := []) (k_X13_look l E K H.size o 0 599 q3.2 ho hq5) (gV m9_74 m9_76 ms_111 m1_16 m9_77) hd_X13_look ⟨Nat.le_of_ble_eq_true rfl, Nat.le_of_ble_eq_true rfl, rfl, rfl⟩ rfl ho rfl rfl rfl hl.1 rfl rc0 rfl dX13_readsHoliday_23 ⟨Nat.zero_le _, Nat.zero_le _⟩ (fun H locs hH => ?_)
    refine lv_istore_n (i := 2) (lv' := [(2, .int (q5.1)), (1, .int ((aI w a1.1 j2))), (0, rv E (some o))]) hx hb dX13_readsHoliday_26 rfl hl (by decide) rfl (fun ls hl => ?_)
    refine lv_iconst (v := 0) hx hb dX13_readsHoliday_27 (by decide) ?_
    refine lv_istore_n (i := 3) (lv' := [(3, .int 0), (2, .int (q5.1)), (1, .int ((aI w a1.1 j2))), (0, rv E (some o))]) hx hb dX13_readsHoliday_28 rfl hl (by decide) rfl (fun ls hl => ?_)
    refine l_X13_readsHoliday_L29  C ho _ (fun v1_29 v2_29 v3_29 w6 H locs ls hH hl hf => ?_) fu (aI w a1.1 j2) q5.1 0 q5.2 _ _ _ hH (lv_sub hl [2, 1, 0, 3] rfl) hf
    refine hl_aload_n hx hb dX13_readsHoliday_69 rfl (lv_at hl 3 rfl) ?_
    obtain ⟨q15, hq15, hf⟩ := bnd hf
    refine hcV_v hx hb hml hown hts hKs hT hb0 hH (As := []) (rest := []) (k_X13_goOn l E K H.size o w6 ho hq15) (gV m9_70 m9_72 ms_110 m1_16 m9_73) hd_X13_goOn ⟨Nat.le_of_ble_eq_true rfl, Nat.le_of_ble_eq_true rfl, rfl, rfl⟩ rfl ho rfl rfl rfl hl.1 rfl rc0 rfl dX13_readsHoliday_70 ⟨Nat.zero_le _, Nat.zero_le _⟩ (fun H locs hH => ?_)
    refine hl_aload_n hx hb dX13_readsHoliday_73 rfl (lv_at hl 3 rfl) ?_
    obtain ⟨q16, hq16, hf⟩ := bnd hf
    refine hcV_i hx hb hml hown hts hKs hT hb0 hH (As := []) (rest := []) (k_X13_fine l E K H.size o q15 ho hq16) (gV m9_46 m9_48 ms_104 m1_16 m9_49) hd_X13_fine ⟨Nat.le_of_ble_eq_true rfl, Nat.le_of_ble_eq_true rfl, rfl, rfl⟩ rfl ho rfl rfl rfl hl.1 rfl rc0 rfl dX13_readsHoliday_74 ⟨Nat.zero_le _, Nat.zero_le _⟩ (fun H locs hH => ?_)
    refine lv_if_ne (tgt := 81) hx hb dX13_readsHoliday_77 (by decide) (fun c17 => ?_) (fun c17 => ?_)
    · replace hf := (if_neg c17).symm.trans hf
      refine hl_aload_n hx hb dX13_readsHoliday_81 rfl (lv_at hl 3 rfl) ?_
      refine g13_4 hx hb hts hown hKs hH rfl ho m6_185 dX13_readsHoliday_82 ?_
      refine lv_iconst (v := 2) hx hb dX13_readsHoliday_85 (by decide) ?_
      refine lv_iload_n hx hb dX13_readsHoliday_86 rfl (lv_at hl 0 rfl) ?_
      refine lv_iadd hx hb dX13_readsHoliday_87 ?_
      refine lv_iload_n hx hb dX13_readsHoliday_88 rfl (lv_at hl 1 rfl) ?_
      obtain ⟨a18, ha18, hf⟩ := bnd hf
      replace ha18 := cha_some ha18
      obtain ⟨j19, hj19, hf⟩ := bnd hf
      obtain ⟨w20, hw20, hf⟩ := bnd hf
      replace hw20 := Option.some.inj hw20
      refine hw_iast (x := v2_29) hx hb hKs hH ha18.1 ha18.2 hj19 dX13_readsHoliday_89 (fun H locs hH => ?_)
      rw [hw20] at hH
      refine hl_aload_n hx hb dX13_readsHoliday_90 rfl (lv_at hl 3 rfl) ?_
      refine g13_4 hx hb hts hown hKs hH rfl ho m6_185 dX13_readsHoliday_91 ?_
      refine lv_iconst (v := 1) hx hb dX13_readsHoliday_94 (by decide) ?_
      refine lv_iload_n hx hb dX13_readsHoliday_95 rfl (lv_at hl 0 rfl) ?_
      refine lv_iconst (v := 1) hx hb dX13_readsHoliday_96 (by decide) ?_
      refine lv_iadd hx hb dX13_readsHoliday_97 ?_
      obtain ⟨a21, ha21, hf⟩ := bnd hf
      replace ha21 := cha_some ha21
      obtain ⟨j22, hj22, hf⟩ := bnd hf
      obtain ⟨w23, hw23, hf⟩ := bnd hf
      replace hw23 := Option.some.inj hw23
      refine hw_iast (x := (v1_29 + 1)) hx hb hKs hH ha21.1 ha21.2 hj22 dX13_readsHoliday_98 (fun H locs hH => ?_)
      rw [hw23] at hH
      exact hw_vret hx hb hret hf hH hlocks dX13_readsHoliday_99
    · replace hf := (if_pos c17).symm.trans hf
      exact hw_vret hx hb hret hf hH hlocks dX13_readsHoliday_80
  · replace hf := (if_pos c4).symm.trans hf
    exact hw_vret hx hb hret hf hH hlocks dX13_readsHoliday_17

theorem dX13_readsRoom_0 : decode cX13_readsRoom 0 = .ok (.aload_n 0, 1) := by decide +kernel
theorem dX13_readsRoom_1 : decode cX13_readsRoom 1 = .ok (.getfield 13, 3) := by decide +kernel
theorem dX13_readsRoom_4 : decode cX13_readsRoom 4 = .ok (.iconst 0, 1) := by decide +kernel
theorem dX13_readsRoom_5 : decode cX13_readsRoom 5 = .ok (.iaload, 1) := by decide +kernel
theorem dX13_readsRoom_6 : decode cX13_readsRoom 6 = .ok (.istore_n 1, 1) := by decide +kernel
theorem dX13_readsRoom_7 : decode cX13_readsRoom 7 = .ok (.aload_n 0, 1) := by decide +kernel
theorem dX13_readsRoom_8 : decode cX13_readsRoom 8 = .ok (.iload_n 1, 1) := by decide +kernel
theorem dX13_readsRoom_9 : decode cX13_readsRoom 9 = .ok (.iconst 3, 1) := by decide +kernel
theorem dX13_readsRoom_10 : decode cX13_readsRoom 10 = .ok (.invokevirtual 423, 3) := by decide +kernel
theorem dX13_readsRoom_13 : decode cX13_readsRoom 13 = .ok (.ifCond .ne 4, 3) := by decide +kernel
theorem dX13_readsRoom_16 : decode cX13_readsRoom 16 = .ok (.return_, 1) := by decide +kernel
theorem dX13_readsRoom_17 : decode cX13_readsRoom 17 = .ok (.aload_n 0, 1) := by decide +kernel
theorem dX13_readsRoom_18 : decode cX13_readsRoom 18 = .ok (.aload_n 0, 1) := by decide +kernel
theorem dX13_readsRoom_19 : decode cX13_readsRoom 19 = .ok (.getfield 68, 3) := by decide +kernel
theorem dX13_readsRoom_22 : decode cX13_readsRoom 22 = .ok (.iload_n 1, 1) := by decide +kernel
theorem dX13_readsRoom_23 : decode cX13_readsRoom 23 = .ok (.invokevirtual 426, 3) := by decide +kernel
theorem dX13_readsRoom_26 : decode cX13_readsRoom 26 = .ok (.aload_n 0, 1) := by decide +kernel
theorem dX13_readsRoom_27 : decode cX13_readsRoom 27 = .ok (.iconst 2, 1) := by decide +kernel
theorem dX13_readsRoom_28 : decode cX13_readsRoom 28 = .ok (.iconst 0, 1) := by decide +kernel
theorem dX13_readsRoom_29 : decode cX13_readsRoom 29 = .ok (.bipush 7, 2) := by decide +kernel
theorem dX13_readsRoom_31 : decode cX13_readsRoom 31 = .ok (.invokevirtual 430, 3) := by decide +kernel
theorem dX13_readsRoom_34 : decode cX13_readsRoom 34 = .ok (.istore_n 2, 1) := by decide +kernel
theorem dX13_readsRoom_35 : decode cX13_readsRoom 35 = .ok (.aload_n 0, 1) := by decide +kernel
theorem dX13_readsRoom_36 : decode cX13_readsRoom 36 = .ok (.iconst 4, 1) := by decide +kernel
theorem dX13_readsRoom_37 : decode cX13_readsRoom 37 = .ok (.iload_n 1, 1) := by decide +kernel
theorem dX13_readsRoom_38 : decode cX13_readsRoom 38 = .ok (.iadd, 1) := by decide +kernel
theorem dX13_readsRoom_39 : decode cX13_readsRoom 39 = .ok (.iload_n 2, 1) := by decide +kernel
theorem dX13_readsRoom_40 : decode cX13_readsRoom 40 = .ok (.invokevirtual 434, 3) := by decide +kernel
theorem dX13_readsRoom_43 : decode cX13_readsRoom 43 = .ok (.aload_n 0, 1) := by decide +kernel
theorem dX13_readsRoom_44 : decode cX13_readsRoom 44 = .ok (.bipush 7, 2) := by decide +kernel
theorem dX13_readsRoom_46 : decode cX13_readsRoom 46 = .ok (.iload_n 1, 1) := by decide +kernel
theorem dX13_readsRoom_47 : decode cX13_readsRoom 47 = .ok (.iadd, 1) := by decide +kernel
theorem dX13_readsRoom_48 : decode cX13_readsRoom 48 = .ok (.aload_n 0, 1) := by decide +kernel
theorem dX13_readsRoom_49 : decode cX13_readsRoom 49 = .ok (.iload_n 2, 1) := by decide +kernel
theorem dX13_readsRoom_50 : decode cX13_readsRoom 50 = .ok (.bipush 7, 2) := by decide +kernel
theorem dX13_readsRoom_52 : decode cX13_readsRoom 52 = .ok (.invokevirtual 405, 3) := by decide +kernel
theorem dX13_readsRoom_55 : decode cX13_readsRoom 55 = .ok (.invokevirtual 434, 3) := by decide +kernel
theorem dX13_readsRoom_58 : decode cX13_readsRoom 58 = .ok (.aload_n 0, 1) := by decide +kernel
theorem dX13_readsRoom_59 : decode cX13_readsRoom 59 = .ok (.iconst 0, 1) := by decide +kernel
theorem dX13_readsRoom_60 : decode cX13_readsRoom 60 = .ok (.iload_n 1, 1) := by decide +kernel
theorem dX13_readsRoom_61 : decode cX13_readsRoom 61 = .ok (.iconst 1, 1) := by decide +kernel
theorem dX13_readsRoom_62 : decode cX13_readsRoom 62 = .ok (.iadd, 1) := by decide +kernel
theorem dX13_readsRoom_63 : decode cX13_readsRoom 63 = .ok (.invokevirtual 434, 3) := by decide +kernel
theorem dX13_readsRoom_66 : decode cX13_readsRoom 66 = .ok (.return_, 1) := by decide +kernel
theorem hd_X13_readsRoom : yX13_readsRoom.cls = RX13 ∧ yX13_readsRoom.cls ≠ "java/lang/invoke/MethodHandle" ∧ yX13_readsRoom.cls ≠ "java/lang/invoke/VarHandle" ∧ (parseMethodDescriptor yX13_readsRoom.desc).map (fun d => d.parameters.length) = some 0 := by decide +kernel
theorem hs_X13_readsRoom : yX13_readsRoom.cls ≠ "java/lang/invoke/MethodHandle" ∧ yX13_readsRoom.cls ≠ "java/lang/invoke/VarHandle" ∧ (parseMethodDescriptor yX13_readsRoom.desc).map (fun d => d.parameters.length) = some 0 := by decide +kernel
set_option maxHeartbeats 4000000 in
set_option maxRecDepth 100000 in
theorem k_X13_readsRoom (l : Launch) (E : Ev) (K : Kd) (z : Nat) (o : Nat) (w : Wd) (ho : K o = some (11, 0)) {w' : Wd} (hf : f_X13_readsRoom K o w = some w') : Met l yX13_readsRoom (Cond.code yX13_readsRoom cX13_readsRoom 3 (Option.none : Option Jvm.ClassFile.FieldType) :: bt) ({ frames := 9, cells := 0, slots := 0, locals := 195 } : Room) (va_Pc [rv E (some o)] (HB E K w z)) (QV E K z w') 0 0 (hA E) := by
  refine Met.ofW (cc := cX13_readsRoom) (maxL := 3) (ret := (Option.none : Option Jvm.ClassFile.FieldType)) (by decide) rfl ?_
  intro p e s m args below meth c s₁ B hml hv
  obtain ⟨rfl, hz, hP, hKs, hT, hb0⟩ := hv
  have C : CX p l e s m _ meth c cX13_readsRoom 3 RX13 (Option.none : Option Jvm.ClassFile.FieldType) E := ⟨B.exec, B.bytes, hml, findClass_of_methodNamed B.named, fun w h => atoms_spec (ws := Cond.code yX13_readsRoom cX13_readsRoom 3 (Option.none : Option Jvm.ClassFile.FieldType) :: bt) B.pre w (List.mem_cons_of_mem _ h), hKs, hT, by rw [hz]; exact hb0, B.notSynchronized, B.returns⟩
  have hH : HQ E K z w s s.heap [] := ⟨hP, va_S.rf, hz⟩
  obtain ⟨hx, hb, hml, hown, hts, hKs, hT, hb0, hlocks, hret⟩ := id C
  have hl := lv_entry [rv E (some o)] (n := 3) (by simp [lg_len_nil, lg_len_i, lg_len_j, lg_len_q, lg_len_f, lg_len_d, lg_len_r])
  rw [lg_entry_eq]
  generalize (lg_sl [rv E (some o)] ++ List.replicate (3 - (lg_sl [rv E (some o)]).length) Slot.unset).toArray = ls at hl ⊢
  replace hl : lv_has ls 3 [(0, rv E (some o))] := by simpa only [lv_args, cat_q, cat_i, cat_j, reduceIte, Nat.reduceEqDiff, Nat.reduceAdd, Nat.zero_add] using hl
  generalize s.heap = H at hH ⊢
  unfold f_X13_readsRoom at hf
  refine hl_aload_n hx hb dX13_readsRoom_0 rfl (lv_at hl 0 rfl) ?_
  refine g13_2 hx hb hts hown hKs hH rfl ho m6_183 dX13_readsRoom_1 ?_
  refine lv_iconst (v := 0) hx hb dX13_readsRoom_4 (by decide) ?_
  obtain ⟨a1, ha1, hf⟩ := bnd hf
  replace ha1 := cha_some ha1
  obtain ⟨j2, hj2, hf⟩ := bnd hf
  refine hw_iald hx hb hKs hH ha1.1 ha1.2 hj2 dX13_readsRoom_5 ?_
  refine lv_istore_n (i := 1) (lv' := [(1, .int ((aI w a1.1 j2))), (0, rv E (some o))]) hx hb dX13_readsRoom_6 rfl hl (by decide) rfl (fun ls hl => ?_)
  refine hl_aload_n hx hb dX13_readsRoom_7 rfl (lv_at hl 1 rfl) ?_
  refine lv_iload_n hx hb dX13_readsRoom_8 rfl (lv_at hl 0 rfl) ?_
  refine lv_iconst (v := 3) hx hb dX13_readsRoom_9 (by decide) ?_
  obtain ⟨q3, hq3, hf⟩ := bnd hf
  refine hcV_i hx hb hml hown hts hKs hT hb0 hH (As := [.int ((aI w a1.1 j2)), .int 3]) (rest := []) (k_X13_begins l E K H.size o (aI w a1.1 j2) 3 w ho hq3) (gV m9_62 m9_64 ms_108 m1_16 m9_65) hd_X13_begins ⟨Nat.le_of_ble_eq_true rfl, Nat.le_of_ble_eq_true rfl, rfl, rfl⟩ rfl ho rfl rfl rfl hl.1 rfl rc0 rfl dX13_readsRoom_10 ⟨Nat.zero_le _, Nat.zero_le _⟩ (fun H locs hH => ?_)
  refine lv_if_ne (tgt := 17) hx hb dX13_readsRoom_13 (by decide) (fun c4 => ?_) (fun c4 => ?_)
  · replace hf := (if_neg c4).symm.trans hf
    refine hl_aload_n hx hb dX13_readsRoom_17 rfl (lv_at hl 1 rfl) ?_
    refine hl_aload_n hx hb dX13_readsRoom_18 rfl (lv_at hl 1 rfl) ?_
    refine g13_33 hx hb hts hown hKs hH rfl ho m6_214 dX13_readsRoom_19 ?_
    refine lv_iload_n hx hb dX13_readsRoom_22 rfl (lv_at hl 0 rfl) ?_
    obtain ⟨q5, hq5, hf⟩ := bnd hf
    refine hcV_v hx hb hml hown hts hKs hT hb0 hH (As := [rv E (wR q3.2 1333 o), .int ((aI w a1.1 j2))]) (rest := []) (k_X13_newName l E K H.size o (wR q3.2 1333 o) (aI w a1.1 j2) q3.2 ho hq5) (gV m9_82 m9_84 ms_113 m1_16 m9_85) hd_X13_newName ⟨Nat.le_of_ble_eq_true rfl, Nat.le_of_ble_eq_true rfl, rfl, rfl⟩ rfl ho rfl rfl rfl hl.1 rfl rc0 rfl dX13_readsRoom_23 ⟨Nat.zero_le _, Nat.zero_le _⟩ (fun H locs hH => ?_)
    refine hl_aload_n hx hb dX13_readsRoom_26 rfl (lv_at hl 1 rfl) ?_
    refine lv_iconst (v := 2) hx hb dX13_readsRoom_27 (by decide) ?_
    refine lv_iconst (v := 0) hx hb dX13_readsRoom_28 (by decide) ?_
    refine lv_bipush (v := 7) hx hb dX13_readsRoom_29 (by decide) ?_
    obtain ⟨q6, hq6, hf⟩ := bnd hf
    refine hcV_i hx hb hml hown hts hKs hT hb0 hH (As := [.int 2, .int 0, .int 7]) (rest := []) (k_X13_numberBehind l E K H.size o 2 0 7 q5 ho hq6) (gV m9_99 m9_101 ms_116 m1_16 m9_102) hd_X13_numberBehind ⟨Nat.le_of_ble_eq_true rfl, Nat.le_of_ble_eq_true rfl, rfl, rfl⟩ rfl ho rfl rfl rfl hl.1 rfl rc0 rfl dX13_readsRoom_31 ⟨Nat.zero_le _, Nat.zero_le _⟩ (fun H locs hH => ?_)
    refine lv_istore_n (i := 2) (lv' := [(2, .int (q6.1)), (1, .int ((aI w a1.1 j2))), (0, rv E (some o))]) hx hb dX13_readsRoom_34 rfl hl (by decide) rfl (fun ls hl => ?_)
    refine hl_aload_n hx hb dX13_readsRoom_35 rfl (lv_at hl 2 rfl) ?_
    refine lv_iconst (v := 4) hx hb dX13_readsRoom_36 (by decide) ?_
    refine lv_iload_n hx hb dX13_readsRoom_37 rfl (lv_at hl 1 rfl) ?_
    refine lv_iadd hx hb dX13_readsRoom_38 ?_
    refine lv_iload_n hx hb dX13_readsRoom_39 rfl (lv_at hl 0 rfl) ?_
    obtain ⟨q7, hq7, hf⟩ := bnd hf
    refine hcV_v hx hb hml hown hts hKs hT hb0 hH (As := [.int ((4 + (aI w a1.1 j2))), .int (q6.1)]) (rest := []) (k_X13_laysDraft l E K H.size o (4 + (aI w a1.1 j2)) q6.1 q6.2 ho hq7) (gV m9_115 m9_117 ms_120 m1_16 m9_118) hd_X13_laysDraft ⟨Nat.le_of_ble_eq_true rfl, Nat.le_of_ble_eq_true rfl, rfl, rfl⟩ rfl ho rfl rfl rfl hl.1 rfl rc0 rfl dX13_readsRoom_40 ⟨Nat.zero_le _, Nat.zero_le _⟩ (fun H locs hH => ?_)
    refine hl_aload_n hx hb dX13_readsRoom_43 rfl (lv_at hl 2 rfl) ?_
    refine lv_bipush (v := 7) hx hb dX13_readsRoom_44 (by decide) ?_
    refine lv_iload_n hx hb dX13_readsRoom_46 rfl (lv_at hl 1 rfl) ?_
    refine lv_iadd hx hb dX13_readsRoom_47 ?_
    refine hl_aload_n hx hb dX13_readsRoom_48 rfl (lv_at hl 2 rfl) ?_
    refine lv_iload_n hx hb dX13_readsRoom_49 rfl (lv_at hl 0 rfl) ?_
    refine lv_bipush (v := 7) hx hb dX13_readsRoom_50 (by decide) ?_
    obtain ⟨q8, hq8, hf⟩ := bnd hf
    refine hcV_i hx hb hml hown hts hKs hT hb0 hH (As := [.int (q6.1), .int 7]) (rest := [.int ((7 + (aI w a1.1 j2))), rv E (some o)]) (k_X13_number l E K H.size o q6.1 7 q7 ho hq8) (gV m9_111 m9_113 ms_119 m1_16 m9_114) hd_X13_number ⟨Nat.le_of_ble_eq_true rfl, Nat.le_of_ble_eq_true rfl, rfl, rfl⟩ rfl ho rfl rfl rfl hl.1 rfl (rcI (rcV rc0)) rfl dX13_readsRoom_52 ⟨Nat.zero_le _, Nat.zero_le _⟩ (fun H locs hH => ?_)
    obtain ⟨q9, hq9, hf⟩ := bnd hf
    refine hcV_v hx hb hml hown hts hKs hT hb0 hH (As := [.int ((7 + (aI w a1.1 j2))), .int (q8.1)]) (rest := []) (k_X13_laysDraft l E K H.size o (7 + (aI w a1.1 j2)) q8.1 q8.2 ho hq9) (gV m9_115 m9_117 ms_120 m1_16 m9_118) hd_X13_laysDraft ⟨Nat.le_of_ble_eq_true rfl, Nat.le_of_ble_eq_true rfl, rfl, rfl⟩ rfl ho rfl rfl rfl hl.1 rfl rc0 rfl dX13_readsRoom_55 ⟨Nat.zero_le _, Nat.zero_le _⟩ (fun H locs hH => ?_)
    refine hl_aload_n hx hb dX13_readsRoom_58 rfl (lv_at hl 2 rfl) ?_
    refine lv_iconst (v := 0) hx hb dX13_readsRoom_59 (by decide) ?_
    refine lv_iload_n hx hb dX13_readsRoom_60 rfl (lv_at hl 1 rfl) ?_
    refine lv_iconst (v := 1) hx hb dX13_readsRoom_61 (by decide) ?_
    refine lv_iadd hx hb dX13_readsRoom_62 ?_
    obtain ⟨q10, hq10, hf⟩ := bnd hf
    refine hcV_v hx hb hml hown hts hKs hT hb0 hH (As := [.int 0, .int (((aI w a1.1 j2) + 1))]) (rest := []) (k_X13_laysDraft l E K H.size o 0 ((aI w a1.1 j2) + 1) q9 ho hq10) (gV m9_115 m9_117 ms_120 m1_16 m9_118) hd_X13_laysDraft ⟨Nat.le_of_ble_eq_true rfl, Nat.le_of_ble_eq_true rfl, rfl, rfl⟩ rfl ho rfl rfl rfl hl.1 rfl rc0 rfl dX13_readsRoom_63 ⟨Nat.zero_le _, Nat.zero_le _⟩ (fun H locs hH => ?_)
    exact hw_vret hx hb hret hf hH hlocks dX13_readsRoom_66
  · replace hf := (if_pos c4).symm.trans hf
    exact hw_vret hx hb hret hf hH hlocks dX13_readsRoom_16

theorem dX13_readsOfficer_0 : decode cX13_readsOfficer 0 = .ok (.aload_n 0, 1) := by decide +kernel
theorem dX13_readsOfficer_1 : decode cX13_readsOfficer 1 = .ok (.getfield 13, 3) := by decide +kernel
theorem dX13_readsOfficer_4 : decode cX13_readsOfficer 4 = .ok (.iconst 1, 1) := by decide +kernel
theorem dX13_readsOfficer_5 : decode cX13_readsOfficer 5 = .ok (.iaload, 1) := by decide +kernel
theorem dX13_readsOfficer_6 : decode cX13_readsOfficer 6 = .ok (.istore_n 1, 1) := by decide +kernel
theorem dX13_readsOfficer_7 : decode cX13_readsOfficer 7 = .ok (.aload_n 0, 1) := by decide +kernel
theorem dX13_readsOfficer_8 : decode cX13_readsOfficer 8 = .ok (.iload_n 1, 1) := by decide +kernel
theorem dX13_readsOfficer_9 : decode cX13_readsOfficer 9 = .ok (.bipush 6, 2) := by decide +kernel
theorem dX13_readsOfficer_11 : decode cX13_readsOfficer 11 = .ok (.invokevirtual 423, 3) := by decide +kernel
theorem dX13_readsOfficer_14 : decode cX13_readsOfficer 14 = .ok (.ifCond .ne 4, 3) := by decide +kernel
theorem dX13_readsOfficer_17 : decode cX13_readsOfficer 17 = .ok (.return_, 1) := by decide +kernel
theorem dX13_readsOfficer_18 : decode cX13_readsOfficer 18 = .ok (.aload_n 0, 1) := by decide +kernel
theorem dX13_readsOfficer_19 : decode cX13_readsOfficer 19 = .ok (.aload_n 0, 1) := by decide +kernel
theorem dX13_readsOfficer_20 : decode cX13_readsOfficer 20 = .ok (.getfield 71, 3) := by decide +kernel
theorem dX13_readsOfficer_23 : decode cX13_readsOfficer 23 = .ok (.iload_n 1, 1) := by decide +kernel
theorem dX13_readsOfficer_24 : decode cX13_readsOfficer 24 = .ok (.invokevirtual 426, 3) := by decide +kernel
theorem dX13_readsOfficer_27 : decode cX13_readsOfficer 27 = .ok (.aload_n 0, 1) := by decide +kernel
theorem dX13_readsOfficer_28 : decode cX13_readsOfficer 28 = .ok (.bipush 10, 2) := by decide +kernel
theorem dX13_readsOfficer_30 : decode cX13_readsOfficer 30 = .ok (.iload_n 1, 1) := by decide +kernel
theorem dX13_readsOfficer_31 : decode cX13_readsOfficer 31 = .ok (.iadd, 1) := by decide +kernel
theorem dX13_readsOfficer_32 : decode cX13_readsOfficer 32 = .ok (.iconst 0, 1) := by decide +kernel
theorem dX13_readsOfficer_33 : decode cX13_readsOfficer 33 = .ok (.invokevirtual 434, 3) := by decide +kernel
theorem dX13_readsOfficer_36 : decode cX13_readsOfficer 36 = .ok (.aload_n 0, 1) := by decide +kernel
theorem dX13_readsOfficer_37 : decode cX13_readsOfficer 37 = .ok (.iconst 4, 1) := by decide +kernel
theorem dX13_readsOfficer_38 : decode cX13_readsOfficer 38 = .ok (.invokevirtual 386, 3) := by decide +kernel
theorem dX13_readsOfficer_41 : decode cX13_readsOfficer 41 = .ok (.ifCond .eq 87, 3) := by decide +kernel
theorem dX13_readsOfficer_44 : decode cX13_readsOfficer 44 = .ok (.aload_n 0, 1) := by decide +kernel
theorem dX13_readsOfficer_45 : decode cX13_readsOfficer 45 = .ok (.getfield 13, 3) := by decide +kernel
theorem dX13_readsOfficer_48 : decode cX13_readsOfficer 48 = .ok (.bipush 10, 2) := by decide +kernel
theorem dX13_readsOfficer_50 : decode cX13_readsOfficer 50 = .ok (.iload_n 1, 1) := by decide +kernel
theorem dX13_readsOfficer_51 : decode cX13_readsOfficer 51 = .ok (.iadd, 1) := by decide +kernel
theorem dX13_readsOfficer_52 : decode cX13_readsOfficer 52 = .ok (.iaload, 1) := by decide +kernel
theorem dX13_readsOfficer_53 : decode cX13_readsOfficer 53 = .ok (.istore_n 2, 1) := by decide +kernel
theorem dX13_readsOfficer_54 : decode cX13_readsOfficer 54 = .ok (.aload_n 0, 1) := by decide +kernel
theorem dX13_readsOfficer_55 : decode cX13_readsOfficer 55 = .ok (.iload_n 2, 1) := by decide +kernel
theorem dX13_readsOfficer_56 : decode cX13_readsOfficer 56 = .ok (.iconst 3, 1) := by decide +kernel
theorem dX13_readsOfficer_57 : decode cX13_readsOfficer 57 = .ok (.invokevirtual 423, 3) := by decide +kernel
theorem dX13_readsOfficer_60 : decode cX13_readsOfficer 60 = .ok (.ifCond .ne 4, 3) := by decide +kernel
theorem dX13_readsOfficer_63 : decode cX13_readsOfficer 63 = .ok (.return_, 1) := by decide +kernel
theorem dX13_readsOfficer_64 : decode cX13_readsOfficer 64 = .ok (.aload_n 0, 1) := by decide +kernel
theorem dX13_readsOfficer_65 : decode cX13_readsOfficer 65 = .ok (.iconst 0, 1) := by decide +kernel
theorem dX13_readsOfficer_66 : decode cX13_readsOfficer 66 = .ok (.sipush 599, 3) := by decide +kernel
theorem dX13_readsOfficer_69 : decode cX13_readsOfficer 69 = .ok (.invokevirtual 405, 3) := by decide +kernel
theorem dX13_readsOfficer_72 : decode cX13_readsOfficer 72 = .ok (.istore_n 3, 1) := by decide +kernel
theorem dX13_readsOfficer_73 : decode cX13_readsOfficer 73 = .ok (.aload_n 0, 1) := by decide +kernel
theorem dX13_readsOfficer_74 : decode cX13_readsOfficer 74 = .ok (.bipush 16, 2) := by decide +kernel
theorem dX13_readsOfficer_76 : decode cX13_readsOfficer 76 = .ok (.bipush 6, 2) := by decide +kernel
theorem dX13_readsOfficer_78 : decode cX13_readsOfficer 78 = .ok (.iload_n 1, 1) := by decide +kernel
theorem dX13_readsOfficer_79 : decode cX13_readsOfficer 79 = .ok (.imul, 1) := by decide +kernel
theorem dX13_readsOfficer_80 : decode cX13_readsOfficer 80 = .ok (.iadd, 1) := by decide +kernel
theorem dX13_readsOfficer_81 : decode cX13_readsOfficer 81 = .ok (.iconst 2, 1) := by decide +kernel
theorem dX13_readsOfficer_82 : decode cX13_readsOfficer 82 = .ok (.iload_n 2, 1) := by decide +kernel
theorem dX13_readsOfficer_83 : decode cX13_readsOfficer 83 = .ok (.imul, 1) := by decide +kernel
theorem dX13_readsOfficer_84 : decode cX13_readsOfficer 84 = .ok (.iadd, 1) := by decide +kernel
theorem dX13_readsOfficer_85 : decode cX13_readsOfficer 85 = .ok (.iload_n 3, 1) := by decide +kernel
theorem dX13_readsOfficer_86 : decode cX13_readsOfficer 86 = .ok (.invokevirtual 434, 3) := by decide +kernel
theorem dX13_readsOfficer_89 : decode cX13_readsOfficer 89 = .ok (.aload_n 0, 1) := by decide +kernel
theorem dX13_readsOfficer_90 : decode cX13_readsOfficer 90 = .ok (.bipush 16, 2) := by decide +kernel
theorem dX13_readsOfficer_92 : decode cX13_readsOfficer 92 = .ok (.bipush 6, 2) := by decide +kernel
theorem dX13_readsOfficer_94 : decode cX13_readsOfficer 94 = .ok (.iload_n 1, 1) := by decide +kernel
theorem dX13_readsOfficer_95 : decode cX13_readsOfficer 95 = .ok (.imul, 1) := by decide +kernel
theorem dX13_readsOfficer_96 : decode cX13_readsOfficer 96 = .ok (.iadd, 1) := by decide +kernel
theorem dX13_readsOfficer_97 : decode cX13_readsOfficer 97 = .ok (.iconst 2, 1) := by decide +kernel
theorem dX13_readsOfficer_98 : decode cX13_readsOfficer 98 = .ok (.iload_n 2, 1) := by decide +kernel
theorem dX13_readsOfficer_99 : decode cX13_readsOfficer 99 = .ok (.imul, 1) := by decide +kernel
theorem dX13_readsOfficer_100 : decode cX13_readsOfficer 100 = .ok (.iadd, 1) := by decide +kernel
theorem dX13_readsOfficer_101 : decode cX13_readsOfficer 101 = .ok (.iconst 1, 1) := by decide +kernel
theorem dX13_readsOfficer_102 : decode cX13_readsOfficer 102 = .ok (.iadd, 1) := by decide +kernel
theorem dX13_readsOfficer_103 : decode cX13_readsOfficer 103 = .ok (.aload_n 0, 1) := by decide +kernel
theorem dX13_readsOfficer_104 : decode cX13_readsOfficer 104 = .ok (.iload_n 3, 1) := by decide +kernel
theorem dX13_readsOfficer_105 : decode cX13_readsOfficer 105 = .ok (.sipush 599, 3) := by decide +kernel
theorem dX13_readsOfficer_108 : decode cX13_readsOfficer 108 = .ok (.invokevirtual 405, 3) := by decide +kernel
theorem dX13_readsOfficer_111 : decode cX13_readsOfficer 111 = .ok (.invokevirtual 434, 3) := by decide +kernel
theorem dX13_readsOfficer_114 : decode cX13_readsOfficer 114 = .ok (.aload_n 0, 1) := by decide +kernel
theorem dX13_readsOfficer_115 : decode cX13_readsOfficer 115 = .ok (.bipush 10, 2) := by decide +kernel
theorem dX13_readsOfficer_117 : decode cX13_readsOfficer 117 = .ok (.iload_n 1, 1) := by decide +kernel
theorem dX13_readsOfficer_118 : decode cX13_readsOfficer 118 = .ok (.iadd, 1) := by decide +kernel
theorem dX13_readsOfficer_119 : decode cX13_readsOfficer 119 = .ok (.iload_n 2, 1) := by decide +kernel
theorem dX13_readsOfficer_120 : decode cX13_readsOfficer 120 = .ok (.iconst 1, 1) := by decide +kernel
theorem dX13_readsOfficer_121 : decode cX13_readsOfficer 121 = .ok (.iadd, 1) := by decide +kernel
theorem dX13_readsOfficer_122 : decode cX13_readsOfficer 122 = .ok (.invokevirtual 434, 3) := by decide +kernel
theorem dX13_readsOfficer_125 : decode cX13_readsOfficer 125 = .ok (.goto (-89), 3) := by decide +kernel
theorem dX13_readsOfficer_128 : decode cX13_readsOfficer 128 = .ok (.aload_n 0, 1) := by decide +kernel
theorem dX13_readsOfficer_129 : decode cX13_readsOfficer 129 = .ok (.iconst 1, 1) := by decide +kernel
theorem dX13_readsOfficer_130 : decode cX13_readsOfficer 130 = .ok (.iload_n 1, 1) := by decide +kernel
theorem dX13_readsOfficer_131 : decode cX13_readsOfficer 131 = .ok (.iconst 1, 1) := by decide +kernel
theorem dX13_readsOfficer_132 : decode cX13_readsOfficer 132 = .ok (.iadd, 1) := by decide +kernel
theorem dX13_readsOfficer_133 : decode cX13_readsOfficer 133 = .ok (.invokevirtual 434, 3) := by decide +kernel
theorem dX13_readsOfficer_136 : decode cX13_readsOfficer 136 = .ok (.return_, 1) := by decide +kernel
theorem hd_X13_readsOfficer : yX13_readsOfficer.cls = RX13 ∧ yX13_readsOfficer.cls ≠ "java/lang/invoke/MethodHandle" ∧ yX13_readsOfficer.cls ≠ "java/lang/invoke/VarHandle" ∧ (parseMethodDescriptor yX13_readsOfficer.desc).map (fun d => d.parameters.length) = some 0 := by decide +kernel
theorem hs_X13_readsOfficer : yX13_readsOfficer.cls ≠ "java/lang/invoke/MethodHandle" ∧ yX13_readsOfficer.cls ≠ "java/lang/invoke/VarHandle" ∧ (parseMethodDescriptor yX13_readsOfficer.desc).map (fun d => d.parameters.length) = some 0 := by decide +kernel
set_option maxHeartbeats 4000000 in
set_option maxRecDepth 100000 in
theorem l_X13_readsOfficer_L36 (C : CX p l e s m args meth c cX13_readsOfficer 4 RX13 (Option.none : Option Jvm.ClassFile.FieldType) E) {o : Nat} (ho : K o = some (11, 0)) {w' : Wd} (k : Int32 → Wd → Option Wd) (hk : ∀ (v1_36 : Int32) (w : Wd) (H : Heap) (locs : List Loc) (ls : Array Slot), HQ E K z w s H locs → lv_has ls 4 [(1, .int v1_36), (0, rv E (some o))] → k v1_36 w = some w' → W p l e ({ frames := 8, cells := 0, slots := 0, locals := 172 } : Room) s m args below meth c H locs 0 0 (MQ below (QV E K z w') args s 0 0 (hA E)) (F0 m 128 ls [])) : ∀ (n : Nat) (v1_36 : Int32) (w : Wd) (H : Heap) (locs : List Loc) (ls : Array Slot), HQ E K z w s H locs → lv_has ls 4 [(1, .int v1_36), (0, rv E (some o))] → f_X13_readsOfficer_L36 K o k n v1_36 w = some w' → W p l e ({ frames := 8, cells := 0, slots := 0, locals := 172 } : Room) s m args below meth c H locs 0 0 (MQ below (QV E K z w') args s 0 0 (hA E)) (F0 m 36 ls []) := by
  obtain ⟨hx, hb, hml, hown, hts, hKs, hT, hb0, hlocks, hret⟩ := id C
  intro n
  induction n with
  | zero =>
    intro v1_36 w H locs ls hH hl hf
    cases hf
  | succ n ih =>
    intro v1_36 w H locs ls hH hl hf
    rw [f_X13_readsOfficer_L36] at hf
    refine hl_aload_n hx hb dX13_readsOfficer_36 rfl (lv_at hl 1 rfl) ?_
    refine lv_iconst (v := 4) hx hb dX13_readsOfficer_37 (by decide) ?_
    obtain ⟨q8, hq8, hf⟩ := bnd hf
    refine hcV_i hx hb hml hown hts hKs hT hb0 hH (As := [.int 4]) (rest := []) (k_X13_isWord l E K H.size o 4 w ho hq8) (gV m9_54 m9_56 ms_106 m1_16 m9_57) hd_X13_isWord ⟨Nat.le_of_ble_eq_true rfl, Nat.le_of_ble_eq_true rfl, rfl, rfl⟩ rfl ho rfl rfl rfl hl.1 rfl rc0 rfl dX13_readsOfficer_38 ⟨Nat.zero_le _, Nat.zero_le _⟩ (fun H locs hH => ?_)
    refine lv_if_eq (tgt := 128) hx hb dX13_readsOfficer_41 (by decide) (fun c9 => ?_) (fun c9 => ?_)
    · replace hf := (if_pos c9).symm.trans hf
      exact hk v1_36 _ _ _ _ hH (lv_sub hl [0, 1] rfl) hf
    · replace hf := (if_neg c9).symm.trans hf
      refine hl_aload_n hx hb dX13_readsOfficer_44 rfl (lv_at hl 1 rfl) ?_
      refine g13_2 hx hb hts hown hKs hH rfl ho m6_183 dX13_readsOfficer_45 ?_
      refine lv_bipush (v := 10) hx hb dX13_readsOfficer_48 (by decide) ?_
      refine lv_iload_n hx hb dX13_readsOfficer_50 rfl (lv_at hl 0 rfl) ?_
      refine lv_iadd hx hb dX13_readsOfficer_51 ?_
      obtain ⟨a10, ha10, hf⟩ := bnd hf
      replace ha10 := cha_some ha10
      obtain ⟨j11, hj11, hf⟩ := bnd hf
      refine hw_iald hx hb hKs hH ha10.1 ha10.2 hj11 dX13_readsOfficer_52 ?_
      refine lv_istore_n (i := 2) (lv' := [(2, .int ((aI q8.2 a10.1 j11))), (1, .int v1_36), (0, rv E (some o))]) hx hb dX13_readsOfficer_53 rfl hl (by decide) rfl (fun ls hl => ?_)
      refine hl_aload_n hx hb dX13_readsOfficer_54 rfl (lv_at hl 2 rfl) ?_
      refine lv_iload_n hx hb dX13_readsOfficer_55 rfl (lv_at hl 0 rfl) ?_
      refine lv_iconst (v := 3) hx hb dX13_readsOfficer_56 (by decide) ?_
      obtain ⟨q12, hq12, hf⟩ := bnd hf
      refine hcV_i hx hb hml hown hts hKs hT hb0 hH (As := [.int ((aI q8.2 a10.1 j11)), .int 3]) (rest := []) (k_X13_begins l E K H.size o (aI q8.2 a10.1 j11) 3 q8.2 ho hq12) (gV m9_62 m9_64 ms_108 m1_16 m9_65) hd_X13_begins ⟨Nat.le_of_ble_eq_true rfl, Nat.le_of_ble_eq_true rfl, rfl, rfl⟩ rfl ho rfl rfl rfl hl.1 rfl rc0 rfl dX13_readsOfficer_57 ⟨Nat.zero_le _, Nat.zero_le _⟩ (fun H locs hH => ?_)
      refine lv_if_ne (tgt := 64) hx hb dX13_readsOfficer_60 (by decide) (fun c13 => ?_) (fun c13 => ?_)
      · replace hf := (if_neg c13).symm.trans hf
        refine hl_aload_n hx hb dX13_readsOfficer_64 rfl (lv_at hl 2 rfl) ?_
        refine lv_iconst (v := 0) hx hb dX13_readsOfficer_65 (by decide) ?_
        refine lv_sipush (v := 599) hx hb dX13_readsOfficer_66 (by decide) ?_
        obtain ⟨q14, hq14, hf⟩ := bnd hf
        refine hcV_i hx hb hml hown hts hKs hT hb0 hH (As := [.int 0, .int 599]) (rest := []) (k_X13_number l E K H.size o 0 599 q12.2 ho hq14) (gV m9_111 m9_113 ms_119 m1_16 m9_114) hd_X13_number ⟨Nat.le_of_ble_eq_true rfl, Nat.le_of_ble_eq_true rfl, rfl, rfl⟩ rfl ho rfl rfl rfl hl.1 rfl rc0 rfl dX13_readsOfficer_69 ⟨Nat.zero_le _, Nat.zero_le _⟩ (fun H locs hH => ?_)
        refine lv_istore_n (i := 3) (lv' := [(3, .int (q14.1)), (2, .int ((aI q8.2 a10.1 j11))), (1, .int v1_36), (0, rv E (some o))]) hx hb dX13_readsOfficer_72 rfl hl (by decide) rfl (fun ls hl => ?_)
        refine hl_aload_n hx hb dX13_readsOfficer_73 rfl (lv_at hl 3 rfl) ?_
        refine lv_bipush (v := 16) hx hb dX13_readsOfficer_74 (by decide) ?_
        refine lv_bipush (v := 6) hx hb dX13_readsOfficer_76 (by decide) ?_
        refine lv_iload_n hx hb dX13_readsOfficer_78 rfl (lv_at hl 2 rfl) ?_
        refine lv_imul hx hb dX13_readsOfficer_79 ?_
        refine lv_iadd hx hb dX13_readsOfficer_80 ?_
        refine lv_iconst (v := 2) hx hb dX13_readsOfficer_81 (by decide) ?_
        refine lv_iload_n hx hb dX13_readsOfficer_82 rfl (lv_at hl 1 rfl) ?_
        refine lv_imul hx hb dX13_readsOfficer_83 ?_
        refine lv_iadd hx hb dX13_readsOfficer_84 ?_
        refine lv_iload_n hx hb dX13_readsOfficer_85 rfl (lv_at hl 0 rfl) ?_
        obtain ⟨q15, hq15, hf⟩ := bnd hf
        refine hcV_v hx hb hml hown hts hKs hT hb0 hH (As := [.int (((16 + (6 * v1_36)) + (2 * (aI q8.2 a10.1 j11)))), .int (q14.1)]) (rest := []) (k_X13_laysDraft l E K H.size o ((16 + (6 * v1_36)) + (2 * (aI q8.2 a10.1 j11))) q14.1 q14.2 ho hq15) (gV m9_115 m9_117 ms_120 m1_16 m9_118) hd_X13_laysDraft ⟨Nat.le_of_ble_eq_true rfl, Nat.le_of_ble_eq_true rfl, rfl, rfl⟩ rfl ho rfl rfl rfl hl.1 rfl rc0 rfl dX13_readsOfficer_86 ⟨Nat.zero_le _, Nat.zero_le _⟩ (fun H locs hH => ?_)
        refine hl_aload_n hx hb dX13_readsOfficer_89 rfl (lv_at hl 3 rfl) ?_
        refine lv_bipush (v := 16) hx hb dX13_readsOfficer_90 (by decide) ?_
        refine lv_bipush (v := 6) hx hb dX13_readsOfficer_92 (by decide) ?_
        refine lv_iload_n hx hb dX13_readsOfficer_94 rfl (lv_at hl 2 rfl) ?_
        refine lv_imul hx hb dX13_readsOfficer_95 ?_
        refine lv_iadd hx hb dX13_readsOfficer_96 ?_
        refine lv_iconst (v := 2) hx hb dX13_readsOfficer_97 (by decide) ?_
        refine lv_iload_n hx hb dX13_readsOfficer_98 rfl (lv_at hl 1 rfl) ?_
        refine lv_imul hx hb dX13_readsOfficer_99 ?_
        refine lv_iadd hx hb dX13_readsOfficer_100 ?_
        refine lv_iconst (v := 1) hx hb dX13_readsOfficer_101 (by decide) ?_
        refine lv_iadd hx hb dX13_readsOfficer_102 ?_
        refine hl_aload_n hx hb dX13_readsOfficer_103 rfl (lv_at hl 3 rfl) ?_
        refine lv_iload_n hx hb dX13_readsOfficer_104 rfl (lv_at hl 0 rfl) ?_
        refine lv_sipush (v := 599) hx hb dX13_readsOfficer_105 (by decide) ?_
        obtain ⟨q16, hq16, hf⟩ := bnd hf
        refine hcV_i hx hb hml hown hts hKs hT hb0 hH (As := [.int (q14.1), .int 599]) (rest := [.int ((((16 + (6 * v1_36)) + (2 * (aI q8.2 a10.1 j11))) + 1)), rv E (some o)]) (k_X13_number l E K H.size o q14.1 599 q15 ho hq16) (gV m9_111 m9_113 ms_119 m1_16 m9_114) hd_X13_number ⟨Nat.le_of_ble_eq_true rfl, Nat.le_of_ble_eq_true rfl, rfl, rfl⟩ rfl ho rfl rfl rfl hl.1 rfl (rcI (rcV rc0)) rfl dX13_readsOfficer_108 ⟨Nat.zero_le _, Nat.zero_le _⟩ (fun H locs hH => ?_)
        obtain ⟨q17, hq17, hf⟩ := bnd hf
        refine hcV_v hx hb hml hown hts hKs hT hb0 hH (As := [.int ((((16 + (6 * v1_36)) + (2 * (aI q8.2 a10.1 j11))) + 1)), .int (q16.1)]) (rest := []) (k_X13_laysDraft l E K H.size o (((16 + (6 * v1_36)) + (2 * (aI q8.2 a10.1 j11))) + 1) q16.1 q16.2 ho hq17) (gV m9_115 m9_117 ms_120 m1_16 m9_118) hd_X13_laysDraft ⟨Nat.le_of_ble_eq_true rfl, Nat.le_of_ble_eq_true rfl, rfl, rfl⟩ rfl ho rfl rfl rfl hl.1 rfl rc0 rfl dX13_readsOfficer_111 ⟨Nat.zero_le _, Nat.zero_le _⟩ (fun H locs hH => ?_)
        refine hl_aload_n hx hb dX13_readsOfficer_114 rfl (lv_at hl 3 rfl) ?_
        refine lv_bipush (v := 10) hx hb dX13_readsOfficer_115 (by decide) ?_
        refine lv_iload_n hx hb dX13_readsOfficer_117 rfl (lv_at hl 2 rfl) ?_
        refine lv_iadd hx hb dX13_readsOfficer_118 ?_
        refine lv_iload_n hx hb dX13_readsOfficer_119 rfl (lv_at hl 1 rfl) ?_
        refine lv_iconst (v := 1) hx hb dX13_readsOfficer_120 (by decide) ?_
        refine lv_iadd hx hb dX13_readsOfficer_121 ?_
        obtain ⟨q18, hq18, hf⟩ := bnd hf
        refine hcV_v hx hb hml hown hts hKs hT hb0 hH (As := [.int ((10 + v1_36)), .int (((aI q8.2 a10.1 j11) + 1))]) (rest := []) (k_X13_laysDraft l E K H.size o (10 + v1_36) ((aI q8.2 a10.1 j11) + 1) q17 ho hq18) (gV m9_115 m9_117 ms_120 m1_16 m9_118) hd_X13_laysDraft ⟨Nat.le_of_ble_eq_true rfl, Nat.le_of_ble_eq_true rfl, rfl, rfl⟩ rfl ho rfl rfl rfl hl.1 rfl rc0 rfl dX13_readsOfficer_122 ⟨Nat.zero_le _, Nat.zero_le _⟩ (fun H locs hH => ?_)
        refine lv_goto (tgt := 36) hx hb dX13_readsOfficer_125 (by decide) ?_
        exact ih v1_36 _ _ _ _ hH (lv_sub hl [2, 3] rfl) hf
      · replace hf := (if_pos c13).symm.trans hf
        exact hw_vret hx hb hret hf hH hlocks dX13_readsOfficer_63
set_option maxHeartbeats 4000000 in
set_option maxRecDepth 100000 in
theorem k_X13_readsOfficer (l : Launch) (E : Ev) (K : Kd) (z : Nat) (o : Nat) (w : Wd) (ho : K o = some (11, 0)) {w' : Wd} (hf : f_X13_readsOfficer K o w = some w') : Met l yX13_readsOfficer (Cond.code yX13_readsOfficer cX13_readsOfficer 4 (Option.none : Option Jvm.ClassFile.FieldType) :: bt) ({ frames := 8, cells := 0, slots := 0, locals := 172 } : Room) (va_Pc [rv E (some o)] (HB E K w z)) (QV E K z w') 0 0 (hA E) := by
  refine Met.ofW (cc := cX13_readsOfficer) (maxL := 4) (ret := (Option.none : Option Jvm.ClassFile.FieldType)) (by decide) rfl ?_
  intro p e s m args below meth c s₁ B hml hv
  obtain ⟨rfl, hz, hP, hKs, hT, hb0⟩ := hv
  have C : CX p l e s m _ meth c cX13_readsOfficer 4 RX13 (Option.none : Option Jvm.ClassFile.FieldType) E := ⟨B.exec, B.bytes, hml, findClass_of_methodNamed B.named, fun w h => atoms_spec (ws := Cond.code yX13_readsOfficer cX13_readsOfficer 4 (Option.none : Option Jvm.ClassFile.FieldType) :: bt) B.pre w (List.mem_cons_of_mem _ h), hKs, hT, by rw [hz]; exact hb0, B.notSynchronized, B.returns⟩
  have hH : HQ E K z w s s.heap [] := ⟨hP, va_S.rf, hz⟩
  obtain ⟨hx, hb, hml, hown, hts, hKs, hT, hb0, hlocks, hret⟩ := id C
  have hl := lv_entry [rv E (some o)] (n := 4) (by simp [lg_len_nil, lg_len_i, lg_len_j, lg_len_q, lg_len_f, lg_len_d, lg_len_r])
  rw [lg_entry_eq]
  generalize (lg_sl [rv E (some o)] ++ List.replicate (4 - (lg_sl [rv E (some o)]).length) Slot.unset).toArray = ls at hl ⊢
  replace hl : lv_has ls 4 [(0, rv E (some o))] := by simpa only [lv_args, cat_q, cat_i, cat_j, reduceIte, Nat.reduceEqDiff, Nat.reduceAdd, Nat.zero_add] using hl
  generalize s.heap = H at hH ⊢
  unfold f_X13_readsOfficer at hf
  refine hl_aload_n hx hb dX13_readsOfficer_0 rfl (lv_at hl 0 rfl) ?_
  refine g13_2 hx hb hts hown hKs hH rfl ho m6_183 dX13_readsOfficer_1 ?_
  refine lv_iconst (v := 1) hx hb dX13_readsOfficer_4 (by decide) ?_
  obtain ⟨a1, ha1, hf⟩ := bnd hf
  replace ha1 := cha_some ha1
  obtain ⟨j2, hj2, hf⟩ := bnd hf
  refine hw_iald hx hb hKs hH ha1.1 ha1.2 hj2 dX13_readsOfficer_5 ?_
  refine lv_istore_n (i := 1) (lv' := [(1, .int ((aI w a1.1 j2))), (0, rv E (some o))]) hx hb dX13_readsOfficer_6 rfl hl (by decide) rfl (fun ls hl => ?_)
  refine hl_aload_n hx hb dX13_readsOfficer_7 rfl (lv_at hl 1 rfl) ?_
  refine lv_iload_n hx hb dX13_readsOfficer_8 rfl (lv_at hl 0 rfl) ?_
  refine lv_bipush (v := 6) hx hb dX13_readsOfficer_9 (by decide) ?_
  obtain ⟨q3, hq3, hf⟩ := bnd hf
  refine hcV_i hx hb hml hown hts hKs hT hb0 hH (As := [.int ((aI w a1.1 j2)), .int 6]) (rest := []) (k_X13_begins l E K H.size o (aI w a1.1 j2) 6 w ho hq3) (gV m9_62 m9_64 ms_108 m1_16 m9_65) hd_X13_begins ⟨Nat.le_of_ble_eq_true rfl, Nat.le_of_ble_eq_true rfl, rfl, rfl⟩ rfl ho rfl rfl rfl hl.1 rfl rc0 rfl dX13_readsOfficer_11 ⟨Nat.zero_le _, Nat.zero_le _⟩ (fun H locs hH => ?_)
  refine lv_if_ne (tgt := 18) hx hb dX13_readsOfficer_14 (by decide) (fun c4 => ?_) (fun c4 => ?_)
  · replace hf := (if_neg c4).symm.trans hf
    refine hl_aload_n hx hb dX13_readsOfficer_18 rfl (lv_at hl 1 rfl) ?_
    refine hl_aload_n hx hb dX13_readsOfficer_19 rfl (lv_at hl 1 rfl) ?_
    refine g13_34 hx hb hts hown hKs hH rfl ho m6_215 dX13_readsOfficer_20 ?_
    refine lv_iload_n hx hb dX13_readsOfficer_23 rfl (lv_at hl 0 rfl) ?_
    obtain ⟨q5, hq5, hf⟩ := bnd hf
    refine hcV_v hx hb hml hown hts hKs hT hb0 hH (As := [rv E (wR q3.2 1334 o), .int ((aI w a1.1 j2))]) (rest := []) (k_X13_newName l E K H.size o (wR q3.2 1334 o) (aI w a1.1 j2) q3.2 ho hq5) (gV m9_82 m9_84 ms_113 m1_16 m9_85) hd_X13_newName ⟨Nat.le_of_ble_eq_true rfl, Nat.le_of_ble_eq_true rfl, rfl, rfl⟩ rfl ho rfl rfl rfl hl.1 rfl rc0 rfl dX13_readsOfficer_24 ⟨Nat.zero_le _, Nat.zero_le _⟩ (fun H locs hH => ?_)
    refine hl_aload_n hx hb dX13_readsOfficer_27 rfl (lv_at hl 1 rfl) ?_
    refine lv_bipush (v := 10) hx hb dX13_readsOfficer_28 (by decide) ?_
    refine lv_iload_n hx hb dX13_readsOfficer_30 rfl (lv_at hl 0 rfl) ?_
    refine lv_iadd hx hb dX13_readsOfficer_31 ?_
    refine lv_iconst (v := 0) hx hb dX13_readsOfficer_32 (by decide) ?_
    obtain ⟨q6, hq6, hf⟩ := bnd hf
    refine hcV_v hx hb hml hown hts hKs hT hb0 hH (As := [.int ((10 + (aI w a1.1 j2))), .int 0]) (rest := []) (k_X13_laysDraft l E K H.size o (10 + (aI w a1.1 j2)) 0 q5 ho hq6) (gV m9_115 m9_117 ms_120 m1_16 m9_118) hd_X13_laysDraft ⟨Nat.le_of_ble_eq_true rfl, Nat.le_of_ble_eq_true rfl, rfl, rfl⟩ rfl ho rfl rfl rfl hl.1 rfl rc0 rfl dX13_readsOfficer_33 ⟨Nat.zero_le _, Nat.zero_le _⟩ (fun H locs hH => ?_)
    refine l_X13_readsOfficer_L36  C ho _ (fun v1_36 w7 H locs ls hH hl hf => ?_) fu (aI w a1.1 j2) q6 _ _ _ hH (lv_sub hl [0, 1] rfl) hf
    refine hl_aload_n hx hb dX13_readsOfficer_128 rfl (lv_at hl 1 rfl) ?_
    refine lv_iconst (v := 1) hx hb dX13_readsOfficer_129 (by decide) ?_
    refine lv_iload_n hx hb dX13_readsOfficer_130 rfl (lv_at hl 0 rfl) ?_
    refine lv_iconst (v := 1) hx hb dX13_readsOfficer_131 (by decide) ?_
    refine lv_iadd hx hb dX13_readsOfficer_132 ?_
    obtain ⟨q19, hq19, hf⟩ := bnd hf
    refine hcV_v hx hb hml hown hts hKs hT hb0 hH (As := [.int 1, .int ((v1_36 + 1))]) (rest := []) (k_X13_laysDraft l E K H.size o 1 (v1_36 + 1) w7 ho hq19) (gV m9_115 m9_117 ms_120 m1_16 m9_118) hd_X13_laysDraft ⟨Nat.le_of_ble_eq_true rfl, Nat.le_of_ble_eq_true rfl, rfl, rfl⟩ rfl ho rfl rfl rfl hl.1 rfl rc0 rfl dX13_readsOfficer_133 ⟨Nat.zero_le _, Nat.zero_le _⟩ (fun H locs hH => ?_)
    exact hw_vret hx hb hret hf hH hlocks dX13_readsOfficer_136
  · replace hf := (if_pos c4).symm.trans hf
    exact hw_vret hx hb hret hf hH hlocks dX13_readsOfficer_17

theorem dX13_readsWitness_0 : decode cX13_readsWitness 0 = .ok (.aload_n 0, 1) := by decide +kernel
theorem dX13_readsWitness_1 : decode cX13_readsWitness 1 = .ok (.getfield 13, 3) := by decide +kernel
theorem dX13_readsWitness_4 : decode cX13_readsWitness 4 = .ok (.iconst 2, 1) := by decide +kernel
theorem dX13_readsWitness_5 : decode cX13_readsWitness 5 = .ok (.iaload, 1) := by decide +kernel
theorem dX13_readsWitness_6 : decode cX13_readsWitness 6 = .ok (.istore_n 1, 1) := by decide +kernel
theorem dX13_readsWitness_7 : decode cX13_readsWitness 7 = .ok (.aload_n 0, 1) := by decide +kernel
theorem dX13_readsWitness_8 : decode cX13_readsWitness 8 = .ok (.iload_n 1, 1) := by decide +kernel
theorem dX13_readsWitness_9 : decode cX13_readsWitness 9 = .ok (.bipush 12, 2) := by decide +kernel
theorem dX13_readsWitness_11 : decode cX13_readsWitness 11 = .ok (.invokevirtual 423, 3) := by decide +kernel
theorem dX13_readsWitness_14 : decode cX13_readsWitness 14 = .ok (.ifCond .ne 4, 3) := by decide +kernel
theorem dX13_readsWitness_17 : decode cX13_readsWitness 17 = .ok (.return_, 1) := by decide +kernel
theorem dX13_readsWitness_18 : decode cX13_readsWitness 18 = .ok (.aload_n 0, 1) := by decide +kernel
theorem dX13_readsWitness_19 : decode cX13_readsWitness 19 = .ok (.aload_n 0, 1) := by decide +kernel
theorem dX13_readsWitness_20 : decode cX13_readsWitness 20 = .ok (.getfield 74, 3) := by decide +kernel
theorem dX13_readsWitness_23 : decode cX13_readsWitness 23 = .ok (.iload_n 1, 1) := by decide +kernel
theorem dX13_readsWitness_24 : decode cX13_readsWitness 24 = .ok (.invokevirtual 426, 3) := by decide +kernel
theorem dX13_readsWitness_27 : decode cX13_readsWitness 27 = .ok (.aload_n 0, 1) := by decide +kernel
theorem dX13_readsWitness_28 : decode cX13_readsWitness 28 = .ok (.bipush 6, 2) := by decide +kernel
theorem dX13_readsWitness_30 : decode cX13_readsWitness 30 = .ok (.iconst 0, 1) := by decide +kernel
theorem dX13_readsWitness_31 : decode cX13_readsWitness 31 = .ok (.sipush 599, 3) := by decide +kernel
theorem dX13_readsWitness_34 : decode cX13_readsWitness 34 = .ok (.invokevirtual 430, 3) := by decide +kernel
theorem dX13_readsWitness_37 : decode cX13_readsWitness 37 = .ok (.istore_n 2, 1) := by decide +kernel
theorem dX13_readsWitness_38 : decode cX13_readsWitness 38 = .ok (.aload_n 0, 1) := by decide +kernel
theorem dX13_readsWitness_39 : decode cX13_readsWitness 39 = .ok (.bipush 52, 2) := by decide +kernel
theorem dX13_readsWitness_41 : decode cX13_readsWitness 41 = .ok (.iload_n 1, 1) := by decide +kernel
theorem dX13_readsWitness_42 : decode cX13_readsWitness 42 = .ok (.iadd, 1) := by decide +kernel
theorem dX13_readsWitness_43 : decode cX13_readsWitness 43 = .ok (.iload_n 2, 1) := by decide +kernel
theorem dX13_readsWitness_44 : decode cX13_readsWitness 44 = .ok (.invokevirtual 434, 3) := by decide +kernel
theorem dX13_readsWitness_47 : decode cX13_readsWitness 47 = .ok (.aload_n 0, 1) := by decide +kernel
theorem dX13_readsWitness_48 : decode cX13_readsWitness 48 = .ok (.iload_n 2, 1) := by decide +kernel
theorem dX13_readsWitness_49 : decode cX13_readsWitness 49 = .ok (.sipush 599, 3) := by decide +kernel
theorem dX13_readsWitness_52 : decode cX13_readsWitness 52 = .ok (.invokevirtual 405, 3) := by decide +kernel
theorem dX13_readsWitness_55 : decode cX13_readsWitness 55 = .ok (.istore_n 3, 1) := by decide +kernel
theorem dX13_readsWitness_56 : decode cX13_readsWitness 56 = .ok (.aload_n 0, 1) := by decide +kernel
theorem dX13_readsWitness_57 : decode cX13_readsWitness 57 = .ok (.invokevirtual 379, 3) := by decide +kernel
theorem dX13_readsWitness_60 : decode cX13_readsWitness 60 = .ok (.ifCond .eq 13, 3) := by decide +kernel
theorem dX13_readsWitness_63 : decode cX13_readsWitness 63 = .ok (.aload_n 0, 1) := by decide +kernel
theorem dX13_readsWitness_64 : decode cX13_readsWitness 64 = .ok (.getfield 19, 3) := by decide +kernel
theorem dX13_readsWitness_67 : decode cX13_readsWitness 67 = .ok (.bipush 22, 2) := by decide +kernel
theorem dX13_readsWitness_69 : decode cX13_readsWitness 69 = .ok (.iload_n 1, 1) := by decide +kernel
theorem dX13_readsWitness_70 : decode cX13_readsWitness 70 = .ok (.iadd, 1) := by decide +kernel
theorem dX13_readsWitness_71 : decode cX13_readsWitness 71 = .ok (.iload_n 3, 1) := by decide +kernel
theorem dX13_readsWitness_72 : decode cX13_readsWitness 72 = .ok (.iastore, 1) := by decide +kernel
theorem dX13_readsWitness_73 : decode cX13_readsWitness 73 = .ok (.aload_n 0, 1) := by decide +kernel
theorem dX13_readsWitness_74 : decode cX13_readsWitness 74 = .ok (.bipush 64, 2) := by decide +kernel
theorem dX13_readsWitness_76 : decode cX13_readsWitness 76 = .ok (.iload_n 1, 1) := by decide +kernel
theorem dX13_readsWitness_77 : decode cX13_readsWitness 77 = .ok (.iadd, 1) := by decide +kernel
theorem dX13_readsWitness_78 : decode cX13_readsWitness 78 = .ok (.iconst 0, 1) := by decide +kernel
theorem dX13_readsWitness_79 : decode cX13_readsWitness 79 = .ok (.invokevirtual 434, 3) := by decide +kernel
theorem dX13_readsWitness_82 : decode cX13_readsWitness 82 = .ok (.aload_n 0, 1) := by decide +kernel
theorem dX13_readsWitness_83 : decode cX13_readsWitness 83 = .ok (.bipush 76, 2) := by decide +kernel
theorem dX13_readsWitness_85 : decode cX13_readsWitness 85 = .ok (.iload_n 1, 1) := by decide +kernel
theorem dX13_readsWitness_86 : decode cX13_readsWitness 86 = .ok (.iadd, 1) := by decide +kernel
theorem dX13_readsWitness_87 : decode cX13_readsWitness 87 = .ok (.bipush 7, 2) := by decide +kernel
theorem dX13_readsWitness_89 : decode cX13_readsWitness 89 = .ok (.invokevirtual 434, 3) := by decide +kernel
theorem dX13_readsWitness_92 : decode cX13_readsWitness 92 = .ok (.aload_n 0, 1) := by decide +kernel
theorem dX13_readsWitness_93 : decode cX13_readsWitness 93 = .ok (.iconst 2, 1) := by decide +kernel
theorem dX13_readsWitness_94 : decode cX13_readsWitness 94 = .ok (.invokevirtual 389, 3) := by decide +kernel
theorem dX13_readsWitness_97 : decode cX13_readsWitness 97 = .ok (.ifCond .eq 38, 3) := by decide +kernel
theorem dX13_readsWitness_100 : decode cX13_readsWitness 100 = .ok (.aload_n 0, 1) := by decide +kernel
theorem dX13_readsWitness_101 : decode cX13_readsWitness 101 = .ok (.iconst 0, 1) := by decide +kernel
theorem dX13_readsWitness_102 : decode cX13_readsWitness 102 = .ok (.bipush 7, 2) := by decide +kernel
theorem dX13_readsWitness_104 : decode cX13_readsWitness 104 = .ok (.invokevirtual 405, 3) := by decide +kernel
theorem dX13_readsWitness_107 : decode cX13_readsWitness 107 = .ok (.istore 4, 2) := by decide +kernel
theorem dX13_readsWitness_109 : decode cX13_readsWitness 109 = .ok (.aload_n 0, 1) := by decide +kernel
theorem dX13_readsWitness_110 : decode cX13_readsWitness 110 = .ok (.bipush 64, 2) := by decide +kernel
theorem dX13_readsWitness_112 : decode cX13_readsWitness 112 = .ok (.iload_n 1, 1) := by decide +kernel
theorem dX13_readsWitness_113 : decode cX13_readsWitness 113 = .ok (.iadd, 1) := by decide +kernel
theorem dX13_readsWitness_114 : decode cX13_readsWitness 114 = .ok (.iload 4, 2) := by decide +kernel
theorem dX13_readsWitness_116 : decode cX13_readsWitness 116 = .ok (.invokevirtual 434, 3) := by decide +kernel
theorem dX13_readsWitness_119 : decode cX13_readsWitness 119 = .ok (.aload_n 0, 1) := by decide +kernel
theorem dX13_readsWitness_120 : decode cX13_readsWitness 120 = .ok (.bipush 76, 2) := by decide +kernel
theorem dX13_readsWitness_122 : decode cX13_readsWitness 122 = .ok (.iload_n 1, 1) := by decide +kernel
theorem dX13_readsWitness_123 : decode cX13_readsWitness 123 = .ok (.iadd, 1) := by decide +kernel
theorem dX13_readsWitness_124 : decode cX13_readsWitness 124 = .ok (.aload_n 0, 1) := by decide +kernel
theorem dX13_readsWitness_125 : decode cX13_readsWitness 125 = .ok (.iload 4, 2) := by decide +kernel
theorem dX13_readsWitness_127 : decode cX13_readsWitness 127 = .ok (.bipush 7, 2) := by decide +kernel
theorem dX13_readsWitness_129 : decode cX13_readsWitness 129 = .ok (.invokevirtual 405, 3) := by decide +kernel
theorem dX13_readsWitness_132 : decode cX13_readsWitness 132 = .ok (.invokevirtual 434, 3) := by decide +kernel
theorem dX13_readsWitness_135 : decode cX13_readsWitness 135 = .ok (.aload_n 0, 1) := by decide +kernel
theorem dX13_readsWitness_136 : decode cX13_readsWitness 136 = .ok (.iconst 2, 1) := by decide +kernel
theorem dX13_readsWitness_137 : decode cX13_readsWitness 137 = .ok (.iload_n 1, 1) := by decide +kernel
theorem dX13_readsWitness_138 : decode cX13_readsWitness 138 = .ok (.iconst 1, 1) := by decide +kernel
theorem dX13_readsWitness_139 : decode cX13_readsWitness 139 = .ok (.iadd, 1) := by decide +kernel
theorem dX13_readsWitness_140 : decode cX13_readsWitness 140 = .ok (.invokevirtual 434, 3) := by decide +kernel
theorem dX13_readsWitness_143 : decode cX13_readsWitness 143 = .ok (.return_, 1) := by decide +kernel
theorem hd_X13_readsWitness : yX13_readsWitness.cls = RX13 ∧ yX13_readsWitness.cls ≠ "java/lang/invoke/MethodHandle" ∧ yX13_readsWitness.cls ≠ "java/lang/invoke/VarHandle" ∧ (parseMethodDescriptor yX13_readsWitness.desc).map (fun d => d.parameters.length) = some 0 := by decide +kernel
theorem hs_X13_readsWitness : yX13_readsWitness.cls ≠ "java/lang/invoke/MethodHandle" ∧ yX13_readsWitness.cls ≠ "java/lang/invoke/VarHandle" ∧ (parseMethodDescriptor yX13_readsWitness.desc).map (fun d => d.parameters.length) = some 0 := by decide +kernel
set_option maxHeartbeats 4000000 in
set_option maxRecDepth 100000 in
theorem k_X13_readsWitness (l : Launch) (E : Ev) (K : Kd) (z : Nat) (o : Nat) (w : Wd) (ho : K o = some (11, 0)) {w' : Wd} (hf : f_X13_readsWitness K o w = some w') : Met l yX13_readsWitness (Cond.code yX13_readsWitness cX13_readsWitness 5 (Option.none : Option Jvm.ClassFile.FieldType) :: bt) ({ frames := 9, cells := 0, slots := 0, locals := 195 } : Room) (va_Pc [rv E (some o)] (HB E K w z)) (QV E K z w') 0 0 (hA E) := by
  refine Met.ofW (cc := cX13_readsWitness) (maxL := 5) (ret := (Option.none : Option Jvm.ClassFile.FieldType)) (by decide) rfl ?_
  intro p e s m args below meth c s₁ B hml hv
  obtain ⟨rfl, hz, hP, hKs, hT, hb0⟩ := hv
  have C : CX p l e s m _ meth c cX13_readsWitness 5 RX13 (Option.none : Option Jvm.ClassFile.FieldType) E := ⟨B.exec, B.bytes, hml, findClass_of_methodNamed B.named, fun w h => atoms_spec (ws := Cond.code yX13_readsWitness cX13_readsWitness 5 (Option.none : Option Jvm.ClassFile.FieldType) :: bt) B.pre w (List.mem_cons_of_mem _ h), hKs, hT, by rw [hz]; exact hb0, B.notSynchronized, B.returns⟩
  have hH : HQ E K z w s s.heap [] := ⟨hP, va_S.rf, hz⟩
  obtain ⟨hx, hb, hml, hown, hts, hKs, hT, hb0, hlocks, hret⟩ := id C
  have hl := lv_entry [rv E (some o)] (n := 5) (by simp [lg_len_nil, lg_len_i, lg_len_j, lg_len_q, lg_len_f, lg_len_d, lg_len_r])
  rw [lg_entry_eq]
  generalize (lg_sl [rv E (some o)] ++ List.replicate (5 - (lg_sl [rv E (some o)]).length) Slot.unset).toArray = ls at hl ⊢
  replace hl : lv_has ls 5 [(0, rv E (some o))] := by simpa only [lv_args, cat_q, cat_i, cat_j, reduceIte, Nat.reduceEqDiff, Nat.reduceAdd, Nat.zero_add] using hl
  generalize s.heap = H at hH ⊢
  unfold f_X13_readsWitness at hf
  refine hl_aload_n hx hb dX13_readsWitness_0 rfl (lv_at hl 0 rfl) ?_
  refine g13_2 hx hb hts hown hKs hH rfl ho m6_183 dX13_readsWitness_1 ?_
  refine lv_iconst (v := 2) hx hb dX13_readsWitness_4 (by decide) ?_
  obtain ⟨a1, ha1, hf⟩ := bnd hf
  replace ha1 := cha_some ha1
  obtain ⟨j2, hj2, hf⟩ := bnd hf
  refine hw_iald hx hb hKs hH ha1.1 ha1.2 hj2 dX13_readsWitness_5 ?_
  refine lv_istore_n (i := 1) (lv' := [(1, .int ((aI w a1.1 j2))), (0, rv E (some o))]) hx hb dX13_readsWitness_6 rfl hl (by decide) rfl (fun ls hl => ?_)
  refine hl_aload_n hx hb dX13_readsWitness_7 rfl (lv_at hl 1 rfl) ?_
  refine lv_iload_n hx hb dX13_readsWitness_8 rfl (lv_at hl 0 rfl) ?_
  refine lv_bipush (v := 12) hx hb dX13_readsWitness_9 (by decide) ?_
  obtain ⟨q3, hq3, hf⟩ := bnd hf
  refine hcV_i hx hb hml hown hts hKs hT hb0 hH (As := [.int ((aI w a1.1 j2)), .int 12]) (rest := []) (k_X13_begins l E K H.size o (aI w a1.1 j2) 12 w ho hq3) (gV m9_62 m9_64 ms_108 m1_16 m9_65) hd_X13_begins ⟨Nat.le_of_ble_eq_true rfl, Nat.le_of_ble_eq_true rfl, rfl, rfl⟩ rfl ho rfl rfl rfl hl.1 rfl rc0 rfl dX13_readsWitness_11 ⟨Nat.zero_le _, Nat.zero_le _⟩ (fun H locs hH => ?_)
  refine lv_if_ne (tgt := 18) hx hb dX13_readsWitness_14 (by decide) (fun c4 => ?_) (fun c4 => ?_)
  · replace hf := (if_neg c4).symm.trans hf
    refine hl_aload_n hx hb dX13_readsWitness_18 rfl (lv_at hl 1 rfl) ?_
    refine hl_aload_n hx hb dX13_readsWitness_19 rfl (lv_at hl 1 rfl) ?_
    refine g13_35 hx hb hts hown hKs hH rfl ho m6_216 dX13_readsWitness_20 ?_
    refine lv_iload_n hx hb dX13_readsWitness_23 rfl (lv_at hl 0 rfl) ?_
    obtain ⟨q5, hq5, hf⟩ := bnd hf
    refine hcV_v hx hb hml hown hts hKs hT hb0 hH (As := [rv E (wR q3.2 1335 o), .int ((aI w a1.1 j2))]) (rest := []) (k_X13_newName l E K H.size o (wR q3.2 1335 o) (aI w a1.1 j2) q3.2 ho hq5) (gV m9_82 m9_84 ms_113 m1_16 m9_85) hd_X13_newName ⟨Nat.le_of_ble_eq_true rfl, Nat.le_of_ble_eq_true rfl, rfl, rfl⟩ rfl ho rfl rfl rfl hl.1 rfl rc0 rfl dX13_readsWitness_24 ⟨Nat.zero_le _, Nat.zero_le _⟩ (fun H locs hH => ?_)
    refine hl_aload_n hx hb dX13_readsWitness_27 rfl (lv_at hl 1 rfl) ?_
    refine lv_bipush (v := 6) hx hb dX13_readsWitness_28 (by decide) ?_
    refine lv_iconst (v := 0) hx hb dX13_readsWitness_30 (by decide) ?_
    refine lv_sipush (v := 599) hx hb dX13_readsWitness_31 (by decide) ?_
    obtain ⟨q6, hq6, hf⟩ := bnd hf
    refine hcV_i hx hb hml hown hts hKs hT hb0 hH (As := [.int 6, .int 0, .int 599]) (rest := []) (k_X13_numberBehind l E K H.size o 6 0 599 q5 ho hq6) (gV m9_99 m9_101 ms_116 m1_16 m9_102) hd_X13_numberBehind ⟨Nat.le_of_ble_eq_true rfl, Nat.le_of_ble_eq_true rfl, rfl, rfl⟩ rfl ho rfl rfl rfl hl.1 rfl rc0 rfl dX13_readsWitness_34 ⟨Nat.zero_le _, Nat.zero_le _⟩ (fun H locs hH => ?_)
    refine lv_istore_n (i := 2) (lv' := [(2, .int (q6.1)), (1, .int ((aI w a1.1 j2))), (0, rv E (some o))]) hx hb dX13_readsWitness_37 rfl hl (by decide) rfl (fun ls hl => ?_)
    refine hl_aload_n hx hb dX13_readsWitness_38 rfl (lv_at hl 2 rfl) ?_
    refine lv_bipush (v := 52) hx hb dX13_readsWitness_39 (by decide) ?_
    refine lv_iload_n hx hb dX13_readsWitness_41 rfl (lv_at hl 1 rfl) ?_
    refine lv_iadd hx hb dX13_readsWitness_42 ?_
    refine lv_iload_n hx hb dX13_readsWitness_43 rfl (lv_at hl 0 rfl) ?_
    obtain ⟨q7, hq7, hf⟩ := bnd hf
    refine hcV_v hx hb hml hown hts hKs hT hb0 hH (As := [.int ((52 + (aI w a1.1 j2))), .int (q6.1)]) (rest := []) (k_X13_laysDraft l E K H.size o (52 + (aI w a1.1 j2)) q6.1 q6.2 ho hq7) (gV m9_115 m9_117 ms_120 m1_16 m9_118) hd_X13_laysDraft ⟨Nat.le_of_ble_eq_true rfl, Nat.le_of_ble_eq_true rfl, rfl, rfl⟩ rfl ho rfl rfl rfl hl.1 rfl rc0 rfl dX13_readsWitness_44 ⟨Nat.zero_le _, Nat.zero_le _⟩ (fun H locs hH => ?_)
    refine hl_aload_n hx hb dX13_readsWitness_47 rfl (lv_at hl 2 rfl) ?_
    refine lv_iload_n hx hb dX13_readsWitness_48 rfl (lv_at hl 0 rfl) ?_
    refine lv_sipush (v := 599) hx hb dX13_readsWitness_49 (by decide) ?_
    obtain ⟨q8, hq8, hf⟩ := bnd hf
    refine hcV_i hx hb hml hown hts hKs hT hb0 hH (As := [.int (q6.1), .int 599]) (rest := []) (k_X13_number l E K H.size o q6.1 599 q7 ho hq8) (gV m9_111 m9_113 ms_119 m1_16 m9_114) hd_X13_number ⟨Nat.le_of_ble_eq_true rfl, Nat.le_of_ble_eq_true rfl, rfl, rfl⟩ rfl ho rfl rfl rfl hl.1 rfl rc0 rfl dX13_readsWitness_52 ⟨Nat.zero_le _, Nat.zero_le _⟩ (fun H locs hH => ?_)
    refine lv_istore_n (i := 3) (lv' := [(3, .int (q8.1)), (2, .int (q6.1)), (1, .int ((aI w a1.1 j2))), (0, rv E (some o))]) hx hb dX13_readsWitness_55 rfl hl (by decide) rfl (fun ls hl => ?_)
    refine hl_aload_n hx hb dX13_readsWitness_56 rfl (lv_at hl 3 rfl) ?_
    obtain ⟨q9, hq9, hf⟩ := bnd hf
    refine hcV_i hx hb hml hown hts hKs hT hb0 hH (As := []) (rest := []) (k_X13_fine l E K H.size o q8.2 ho hq9) (gV m9_46 m9_48 ms_104 m1_16 m9_49) hd_X13_fine ⟨Nat.le_of_ble_eq_true rfl, Nat.le_of_ble_eq_true rfl, rfl, rfl⟩ rfl ho rfl rfl rfl hl.1 rfl rc0 rfl dX13_readsWitness_57 ⟨Nat.zero_le _, Nat.zero_le _⟩ (fun H locs hH => ?_)
    refine lv_if_eq (tgt := 73) hx hb dX13_readsWitness_60 (by decide) (fun c10 => ?_) (fun c10 => ?_)
    · replace hf := (if_pos c10).symm.trans hf
      refine hl_aload_n hx hb dX13_readsWitness_73 rfl (lv_at hl 3 rfl) ?_
      refine lv_bipush (v := 64) hx hb dX13_readsWitness_74 (by decide) ?_
      refine lv_iload_n hx hb dX13_readsWitness_76 rfl (lv_at hl 2 rfl) ?_
      refine lv_iadd hx hb dX13_readsWitness_77 ?_
      refine lv_iconst (v := 0) hx hb dX13_readsWitness_78 (by decide) ?_
      obtain ⟨q11, hq11, hf⟩ := bnd hf
      refine hcV_v hx hb hml hown hts hKs hT hb0 hH (As := [.int ((64 + (aI w a1.1 j2))), .int 0]) (rest := []) (k_X13_laysDraft l E K H.size o (64 + (aI w a1.1 j2)) 0 q9.2 ho hq11) (gV m9_115 m9_117 ms_120 m1_16 m9_118) hd_X13_laysDraft ⟨Nat.le_of_ble_eq_true rfl, Nat.le_of_ble_eq_true rfl, rfl, rfl⟩ rfl ho rfl rfl rfl hl.1 rfl rc0 rfl dX13_readsWitness_79 ⟨Nat.zero_le _, Nat.zero_le _⟩ (fun H locs hH => ?_)
      refine hl_aload_n hx hb dX13_readsWitness_82 rfl (lv_at hl 3 rfl) ?_
      refine lv_bipush (v := 76) hx hb dX13_readsWitness_83 (by decide) ?_
      refine lv_iload_n hx hb dX13_readsWitness_85 rfl (lv_at hl 2 rfl) ?_
      refine lv_iadd hx hb dX13_readsWitness_86 ?_
      refine lv_bipush (v := 7) hx hb dX13_readsWitness_87 (by decide) ?_
      obtain ⟨q12, hq12, hf⟩ := bnd hf
      refine hcV_v hx hb hml hown hts hKs hT hb0 hH (As := [.int ((76 + (aI w a1.1 j2))), .int 7]) (rest := []) (k_X13_laysDraft l E K H.size o (76 + (aI w a1.1 j2)) 7 q11 ho hq12) (gV m9_115 m9_117 ms_120 m1_16 m9_118) hd_X13_laysDraft ⟨Nat.le_of_ble_eq_true rfl, Nat.le_of_ble_eq_true rfl, rfl, rfl⟩ rfl ho rfl rfl rfl hl.1 rfl rc0 rfl dX13_readsWitness_89 ⟨Nat.zero_le _, Nat.zero_le _⟩ (fun H locs hH => ?_)
      refine hl_aload_n hx hb dX13_readsWitness_92 rfl (lv_at hl 3 rfl) ?_
      refine lv_iconst (v := 2) hx hb dX13_readsWitness_93 (by decide) ?_
      obtain ⟨q13, hq13, hf⟩ := bnd hf
      refine hcV_i hx hb hml hown hts hKs hT hb0 hH (As := [.int 2]) (rest := []) (k_X13_takes l E K H.size o 2 q12 ho hq13) (gV m9_107 m9_109 ms_118 m1_16 m9_110) hd_X13_takes ⟨Nat.le_of_ble_eq_true rfl, Nat.le_of_ble_eq_true rfl, rfl, rfl⟩ rfl ho rfl rfl rfl hl.1 rfl rc0 rfl dX13_readsWitness_94 ⟨Nat.zero_le _, Nat.zero_le _⟩ (fun H locs hH => ?_)
      refine lv_if_eq (tgt := 135) hx hb dX13_readsWitness_97 (by decide) (fun c14 => ?_) (fun c14 => ?_)
      · replace hf := (if_pos c14).symm.trans hf
        refine hl_aload_n hx hb dX13_readsWitness_135 rfl (lv_at hl 3 rfl) ?_
        refine lv_iconst (v := 2) hx hb dX13_readsWitness_136 (by decide) ?_
        refine lv_iload_n hx hb dX13_readsWitness_137 rfl (lv_at hl 2 rfl) ?_
        refine lv_iconst (v := 1) hx hb dX13_readsWitness_138 (by decide) ?_
        refine lv_iadd hx hb dX13_readsWitness_139 ?_
        obtain ⟨q15, hq15, hf⟩ := bnd hf
        refine hcV_v hx hb hml hown hts hKs hT hb0 hH (As := [.int 2, .int (((aI w a1.1 j2) + 1))]) (rest := []) (k_X13_laysDraft l E K H.size o 2 ((aI w a1.1 j2) + 1) q13.2 ho hq15) (gV m9_115 m9_117 ms_120 m1_16 m9_118) hd_X13_laysDraft ⟨Nat.le_of_ble_eq_true rfl, Nat.le_of_ble_eq_true rfl, rfl, rfl⟩ rfl ho rfl rfl rfl hl.1 rfl rc0 rfl dX13_readsWitness_140 ⟨Nat.zero_le _, Nat.zero_le _⟩ (fun H locs hH => ?_)
        exact hw_vret hx hb hret hf hH hlocks dX13_readsWitness_143
      · replace hf := (if_neg c14).symm.trans hf
        refine hl_aload_n hx hb dX13_readsWitness_100 rfl (lv_at hl 3 rfl) ?_
        refine lv_iconst (v := 0) hx hb dX13_readsWitness_101 (by decide) ?_
        refine lv_bipush (v := 7) hx hb dX13_readsWitness_102 (by decide) ?_
        obtain ⟨q16, hq16, hf⟩ := bnd hf
        refine hcV_i hx hb hml hown hts hKs hT hb0 hH (As := [.int 0, .int 7]) (rest := []) (k_X13_number l E K H.size o 0 7 q13.2 ho hq16) (gV m9_111 m9_113 ms_119 m1_16 m9_114) hd_X13_number ⟨Nat.le_of_ble_eq_true rfl, Nat.le_of_ble_eq_true rfl, rfl, rfl⟩ rfl ho rfl rfl rfl hl.1 rfl rc0 rfl dX13_readsWitness_104 ⟨Nat.zero_le _, Nat.zero_le _⟩ (fun H locs hH => ?_)
        refine lv_istore (i := 4) (lv' := [(4, .int (q16.1)), (3, .int (q8.1)), (2, .int (q6.1)), (1, .int ((aI w a1.1 j2))), (0, rv E (some o))]) hx hb dX13_readsWitness_107 hl (by decide) rfl (fun ls hl => ?_)
        refine hl_aload_n hx hb dX13_readsWitness_109 rfl (lv_at hl 4 rfl) ?_
        refine lv_bipush (v := 64) hx hb dX13_readsWitness_110 (by decide) ?_
        refine lv_iload_n hx hb dX13_readsWitness_112 rfl (lv_at hl 3 rfl) ?_
        refine lv_iadd hx hb dX13_readsWitness_113 ?_
        refine lv_iload hx hb dX13_readsWitness_114 (lv_at hl 0 rfl) ?_
        obtain ⟨q17, hq17, hf⟩ := bnd hf
        refine hcV_v hx hb hml hown hts hKs hT hb0 hH (As := [.int ((64 + (aI w a1.1 j2))), .int (q16.1)]) (rest := []) (k_X13_laysDraft l E K H.size o (64 + (aI w a1.1 j2)) q16.1 q16.2 ho hq17) (gV m9_115 m9_117 ms_120 m1_16 m9_118) hd_X13_laysDraft ⟨Nat.le_of_ble_eq_true rfl, Nat.le_of_ble_eq_true rfl, rfl, rfl⟩ rfl ho rfl rfl rfl hl.1 rfl rc0 rfl dX13_readsWitness_116 ⟨Nat.zero_le _, Nat.zero_le _⟩ (fun H locs hH => ?_)
        refine hl_aload_n hx hb dX13_readsWitness_119 rfl (lv_at hl 4 rfl) ?_
        refine lv_bipush (v := 76) hx hb dX13_readsWitness_120 (by decide) ?_
        refine lv_iload_n hx hb dX13_readsWitness_122 rfl (lv_at hl 3 rfl) ?_
        refine lv_iadd hx hb dX13_readsWitness_123 ?_
        refine hl_aload_n hx hb dX13_readsWitness_124 rfl (lv_at hl 4 rfl) ?_
        refine lv_iload hx hb dX13_readsWitness_125 (lv_at hl 0 rfl) ?_
        refine lv_bipush (v := 7) hx hb dX13_readsWitness_127 (by decide) ?_
        obtain ⟨q18, hq18, hf⟩ := bnd hf
        refine hcV_i hx hb hml hown hts hKs hT hb0 hH (As := [.int (q16.1), .int 7]) (rest := [.int ((76 + (aI w a1.1 j2))), rv E (some o)]) (k_X13_number l E K H.size o q16.1 7 q17 ho hq18) (gV m9_111 m9_113 ms_119 m1_16 m9_114) hd_X13_number ⟨Nat.le_of_ble_eq_true rfl, Nat.le_of_ble_eq_true rfl, rfl, rfl⟩ rfl ho rfl rfl rfl hl.1 rfl (rcI (rcV rc0)) rfl dX13_readsWitness_129 ⟨Nat.zero_le _, Nat.zero_le _⟩ (fun H locs hH => ?_)
        obtain ⟨q19, hq19, hf⟩ := bnd hf
        refine hcV_v hx hb hml hown hts hKs hT hb0 hH (As := [.int ((76 + (aI w a1.1 j2))), .int (q18.1)]) (rest := []) (k_X13_laysDraft l E K H.size o (76 + (aI w a1.1 j2)) q18.1 q18.2 ho hq19) (gV m9_115 m9_117 ms_120 m1_16 m9_118) hd_X13_laysDraft ⟨Nat.le_of_ble_eq_true rfl, Nat.le_of_ble_eq_true rfl, rfl, rfl⟩ rfl ho rfl rfl rfl hl.1 rfl rc0 rfl dX13_readsWitness_132 ⟨Nat.zero_le _, Nat.zero_le _⟩ (fun H locs hH => ?_)
        refine hl_aload_n hx hb dX13_readsWitness_135 rfl (lv_at hl 4 rfl) ?_
        refine lv_iconst (v := 2) hx hb dX13_readsWitness_136 (by decide) ?_
        refine lv_iload_n hx hb dX13_readsWitness_137 rfl (lv_at hl 3 rfl) ?_
        refine lv_iconst (v := 1) hx hb dX13_readsWitness_138 (by decide) ?_
        refine lv_iadd hx hb dX13_readsWitness_139 ?_
        obtain ⟨q20, hq20, hf⟩ := bnd hf
        refine hcV_v hx hb hml hown hts hKs hT hb0 hH (As := [.int 2, .int (((aI w a1.1 j2) + 1))]) (rest := []) (k_X13_laysDraft l E K H.size o 2 ((aI w a1.1 j2) + 1) q19 ho hq20) (gV m9_115 m9_117 ms_120 m1_16 m9_118) hd_X13_laysDraft ⟨Nat.le_of_ble_eq_true rfl, Nat.le_of_ble_eq_true rfl, rfl, rfl⟩ rfl ho rfl rfl rfl hl.1 rfl rc0 rfl dX13_readsWitness_140 ⟨Nat.zero_le _, Nat.zero_le _⟩ (fun H locs hH => ?_)
        exact hw_vret hx hb hret hf hH hlocks dX13_readsWitness_143
    · replace hf := (if_neg c10).symm.trans hf
      refine hl_aload_n hx hb dX13_readsWitness_63 rfl (lv_at hl 3 rfl) ?_
      refine g13_4 hx hb hts hown hKs hH rfl ho m6_185 dX13_readsWitness_64 ?_
      refine lv_bipush (v := 22) hx hb dX13_readsWitness_67 (by decide) ?_
      refine lv_iload_n hx hb dX13_readsWitness_69 rfl (lv_at hl 2 rfl) ?_
      refine lv_iadd hx hb dX13_readsWitness_70 ?_
      refine lv_iload_n hx hb dX13_readsWitness_71 rfl (lv_at hl 0 rfl) ?_
      obtain ⟨a21, ha21, hf⟩ := bnd hf
      replace ha21 := cha_some ha21
      obtain ⟨j22, hj22, hf⟩ := bnd hf
      obtain ⟨w23, hw23, hf⟩ := bnd hf
      replace hw23 := Option.some.inj hw23
      refine hw_iast (x := q8.1) hx hb hKs hH ha21.1 ha21.2 hj22 dX13_readsWitness_72 (fun H locs hH => ?_)
      rw [hw23] at hH
      refine hl_aload_n hx hb dX13_readsWitness_73 rfl (lv_at hl 3 rfl) ?_
      refine lv_bipush (v := 64) hx hb dX13_readsWitness_74 (by decide) ?_
      refine lv_iload_n hx hb dX13_readsWitness_76 rfl (lv_at hl 2 rfl) ?_
      refine lv_iadd hx hb dX13_readsWitness_77 ?_
      refine lv_iconst (v := 0) hx hb dX13_readsWitness_78 (by decide) ?_
      obtain ⟨q24, hq24, hf⟩ := bnd hf
      refine hcV_v hx hb hml hown hts hKs hT hb0 hH (As := [.int ((64 + (aI w a1.1 j2))), .int 0]) (rest := []) (k_X13_laysDraft l E K H.size o (64 + (aI w a1.1 j2)) 0 w23 ho hq24) (gV m9_115 m9_117 ms_120 m1_16 m9_118) hd_X13_laysDraft ⟨Nat.le_of_ble_eq_true rfl, Nat.le_of_ble_eq_true rfl, rfl, rfl⟩ rfl ho rfl rfl rfl hl.1 rfl rc0 rfl dX13_readsWitness_79 ⟨Nat.zero_le _, Nat.zero_le _⟩ (fun H locs hH => ?_)
      refine hl_aload_n hx hb dX13_readsWitness_82 rfl (lv_at hl 3 rfl) ?_
      refine lv_bipush (v := 76) hx hb dX13_readsWitness_83 (by decide) ?_
      refine lv_iload_n hx hb dX13_readsWitness_85 rfl (lv_at hl 2 rfl) ?_
      refine lv_iadd hx hb dX13_readsWitness_86 ?_
      refine lv_bipush (v := 7) hx hb dX13_readsWitness_87 (by decide) ?_
      obtain ⟨q25, hq25, hf⟩ := bnd hf
      refine hcV_v hx hb hml hown hts hKs hT hb0 hH (As := [.int ((76 + (aI w a1.1 j2))), .int 7]) (rest := []) (k_X13_laysDraft l E K H.size o (76 + (aI w a1.1 j2)) 7 q24 ho hq25) (gV m9_115 m9_117 ms_120 m1_16 m9_118) hd_X13_laysDraft ⟨Nat.le_of_ble_eq_true rfl, Nat.le_of_ble_eq_true rfl, rfl, rfl⟩ rfl ho rfl rfl rfl hl.1 rfl rc0 rfl dX13_readsWitness_89 ⟨Nat.zero_le _, Nat.zero_le _⟩ (fun H locs hH => ?_)
      refine hl_aload_n hx hb dX13_readsWitness_92 rfl (lv_at hl 3 rfl) ?_
      refine lv_iconst (v := 2) hx hb dX13_readsWitness_93 (by decide) ?_
      obtain ⟨q26, hq26, hf⟩ := bnd hf
      refine hcV_i hx hb hml hown hts hKs hT hb0 hH (As := [.int 2]) (rest := []) (k_X13_takes l E K H.size o 2 q25 ho hq26) (gV m9_107 m9_109 ms_118 m1_16 m9_110) hd_X13_takes ⟨Nat.le_of_ble_eq_true rfl, Nat.le_of_ble_eq_true rfl, rfl, rfl⟩ rfl ho rfl rfl rfl hl.1 rfl rc0 rfl dX13_readsWitness_94 ⟨Nat.zero_le _, Nat.zero_le _⟩ (fun H locs hH => ?_)
      refine lv_if_eq (tgt := 135) hx hb dX13_readsWitness_97 (by decide) (fun c27 => ?_) (fun c27 => ?_)
      · replace hf := (if_pos c27).symm.trans hf
        refine hl_aload_n hx hb dX13_readsWitness_135 rfl (lv_at hl 3 rfl) ?_
        refine lv_iconst (v := 2) hx hb dX13_readsWitness_136 (by decide) ?_
        refine lv_iload_n hx hb dX13_readsWitness_137 rfl (lv_at hl 2 rfl) ?_
        refine lv_iconst (v := 1) hx hb dX13_readsWitness_138 (by decide) ?_
        refine lv_iadd hx hb dX13_readsWitness_139 ?_
        obtain ⟨q28, hq28, hf⟩ := bnd hf
        refine hcV_v hx hb hml hown hts hKs hT hb0 hH (As := [.int 2, .int (((aI w a1.1 j2) + 1))]) (rest := []) (k_X13_laysDraft l E K H.size o 2 ((aI w a1.1 j2) + 1) q26.2 ho hq28) (gV m9_115 m9_117 ms_120 m1_16 m9_118) hd_X13_laysDraft ⟨Nat.le_of_ble_eq_true rfl, Nat.le_of_ble_eq_true rfl, rfl, rfl⟩ rfl ho rfl rfl rfl hl.1 rfl rc0 rfl dX13_readsWitness_140 ⟨Nat.zero_le _, Nat.zero_le _⟩ (fun H locs hH => ?_)
        exact hw_vret hx hb hret hf hH hlocks dX13_readsWitness_143
      · replace hf := (if_neg c27).symm.trans hf
        refine hl_aload_n hx hb dX13_readsWitness_100 rfl (lv_at hl 3 rfl) ?_
        refine lv_iconst (v := 0) hx hb dX13_readsWitness_101 (by decide) ?_
        refine lv_bipush (v := 7) hx hb dX13_readsWitness_102 (by decide) ?_
        obtain ⟨q29, hq29, hf⟩ := bnd hf
        refine hcV_i hx hb hml hown hts hKs hT hb0 hH (As := [.int 0, .int 7]) (rest := []) (k_X13_number l E K H.size o 0 7 q26.2 ho hq29) (gV m9_111 m9_113 ms_119 m1_16 m9_114) hd_X13_number ⟨Nat.le_of_ble_eq_true rfl, Nat.le_of_ble_eq_true rfl, rfl, rfl⟩ rfl ho rfl rfl rfl hl.1 rfl rc0 rfl dX13_readsWitness_104 ⟨Nat.zero_le _, Nat.zero_le _⟩ (fun H locs hH => ?_)
        refine lv_istore (i := 4) (lv' := [(4, .int (q29.1)), (3, .int (q8.1)), (2, .int (q6.1)), (1, .int ((aI w a1.1 j2))), (0, rv E (some o))]) hx hb dX13_readsWitness_107 hl (by decide) rfl (fun ls hl => ?_)
        refine hl_aload_n hx hb dX13_readsWitness_109 rfl (lv_at hl 4 rfl) ?_
        refine lv_bipush (v := 64) hx hb dX13_readsWitness_110 (by decide) ?_
        refine lv_iload_n hx hb dX13_readsWitness_112 rfl (lv_at hl 3 rfl) ?_
        refine lv_iadd hx hb dX13_readsWitness_113 ?_
        refine lv_iload hx hb dX13_readsWitness_114 (lv_at hl 0 rfl) ?_
        obtain ⟨q30, hq30, hf⟩ := bnd hf
        refine hcV_v hx hb hml hown hts hKs hT hb0 hH (As := [.int ((64 + (aI w a1.1 j2))), .int (q29.1)]) (rest := []) (k_X13_laysDraft l E K H.size o (64 + (aI w a1.1 j2)) q29.1 q29.2 ho hq30) (gV m9_115 m9_117 ms_120 m1_16 m9_118) hd_X13_laysDraft ⟨Nat.le_of_ble_eq_true rfl, Nat.le_of_ble_eq_true rfl, rfl, rfl⟩ rfl ho rfl rfl rfl hl.1 rfl rc0 rfl dX13_readsWitness_116 ⟨Nat.zero_le _, Nat.zero_le _⟩ (fun H locs hH => ?_)
        refine hl_aload_n hx hb dX13_readsWitness_119 rfl (lv_at hl 4 rfl) ?_
        refine lv_bipush (v := 76) hx hb dX13_readsWitness_120 (by decide) ?_
        refine lv_iload_n hx hb dX13_readsWitness_122 rfl (lv_at hl 3 rfl) ?_
        refine lv_iadd hx hb dX13_readsWitness_123 ?_
        refine hl_aload_n hx hb dX13_readsWitness_124 rfl (lv_at hl 4 rfl) ?_
        refine lv_iload hx hb dX13_readsWitness_125 (lv_at hl 0 rfl) ?_
        refine lv_bipush (v := 7) hx hb dX13_readsWitness_127 (by decide) ?_
        obtain ⟨q31, hq31, hf⟩ := bnd hf
        refine hcV_i hx hb hml hown hts hKs hT hb0 hH (As := [.int (q29.1), .int 7]) (rest := [.int ((76 + (aI w a1.1 j2))), rv E (some o)]) (k_X13_number l E K H.size o q29.1 7 q30 ho hq31) (gV m9_111 m9_113 ms_119 m1_16 m9_114) hd_X13_number ⟨Nat.le_of_ble_eq_true rfl, Nat.le_of_ble_eq_true rfl, rfl, rfl⟩ rfl ho rfl rfl rfl hl.1 rfl (rcI (rcV rc0)) rfl dX13_readsWitness_129 ⟨Nat.zero_le _, Nat.zero_le _⟩ (fun H locs hH => ?_)
        obtain ⟨q32, hq32, hf⟩ := bnd hf
        refine hcV_v hx hb hml hown hts hKs hT hb0 hH (As := [.int ((76 + (aI w a1.1 j2))), .int (q31.1)]) (rest := []) (k_X13_laysDraft l E K H.size o (76 + (aI w a1.1 j2)) q31.1 q31.2 ho hq32) (gV m9_115 m9_117 ms_120 m1_16 m9_118) hd_X13_laysDraft ⟨Nat.le_of_ble_eq_true rfl, Nat.le_of_ble_eq_true rfl, rfl, rfl⟩ rfl ho rfl rfl rfl hl.1 rfl rc0 rfl dX13_readsWitness_132 ⟨Nat.zero_le _, Nat.zero_le _⟩ (fun H locs hH => ?_)
        refine hl_aload_n hx hb dX13_readsWitness_135 rfl (lv_at hl 4 rfl) ?_
        refine lv_iconst (v := 2) hx hb dX13_readsWitness_136 (by decide) ?_
        refine lv_iload_n hx hb dX13_readsWitness_137 rfl (lv_at hl 3 rfl) ?_
        refine lv_iconst (v := 1) hx hb dX13_readsWitness_138 (by decide) ?_
        refine lv_iadd hx hb dX13_readsWitness_139 ?_
        obtain ⟨q33, hq33, hf⟩ := bnd hf
        refine hcV_v hx hb hml hown hts hKs hT hb0 hH (As := [.int 2, .int (((aI w a1.1 j2) + 1))]) (rest := []) (k_X13_laysDraft l E K H.size o 2 ((aI w a1.1 j2) + 1) q32 ho hq33) (gV m9_115 m9_117 ms_120 m1_16 m9_118) hd_X13_laysDraft ⟨Nat.le_of_ble_eq_true rfl, Nat.le_of_ble_eq_true rfl, rfl, rfl⟩ rfl ho rfl rfl rfl hl.1 rfl rc0 rfl dX13_readsWitness_140 ⟨Nat.zero_le _, Nat.zero_le _⟩ (fun H locs hH => ?_)
        exact hw_vret hx hb hret hf hH hlocks dX13_readsWitness_143
  · replace hf := (if_pos c4).symm.trans hf
    exact hw_vret hx hb hret hf hH hlocks dX13_readsWitness_17

theorem dX13_readsNeeds_0 : decode cX13_readsNeeds 0 = .ok (.aload_n 0, 1) := by decide +kernel
theorem dX13_readsNeeds_1 : decode cX13_readsNeeds 1 = .ok (.aload_n 0, 1) := by decide +kernel
theorem dX13_readsNeeds_2 : decode cX13_readsNeeds 2 = .ok (.getfield 13, 3) := by decide +kernel
theorem dX13_readsNeeds_5 : decode cX13_readsNeeds 5 = .ok (.sipush 136, 3) := by decide +kernel
theorem dX13_readsNeeds_8 : decode cX13_readsNeeds 8 = .ok (.iload_n 1, 1) := by decide +kernel
theorem dX13_readsNeeds_9 : decode cX13_readsNeeds 9 = .ok (.iadd, 1) := by decide +kernel
theorem dX13_readsNeeds_10 : decode cX13_readsNeeds 10 = .ok (.iaload, 1) := by decide +kernel
theorem dX13_readsNeeds_11 : decode cX13_readsNeeds 11 = .ok (.invokestatic 159, 3) := by decide +kernel
theorem dX13_readsNeeds_14 : decode cX13_readsNeeds 14 = .ok (.iconst 4, 1) := by decide +kernel
theorem dX13_readsNeeds_15 : decode cX13_readsNeeds 15 = .ok (.invokevirtual 423, 3) := by decide +kernel
theorem dX13_readsNeeds_18 : decode cX13_readsNeeds 18 = .ok (.ifCond .ne 4, 3) := by decide +kernel
theorem dX13_readsNeeds_21 : decode cX13_readsNeeds 21 = .ok (.return_, 1) := by decide +kernel
theorem dX13_readsNeeds_22 : decode cX13_readsNeeds 22 = .ok (.aload_n 0, 1) := by decide +kernel
theorem dX13_readsNeeds_23 : decode cX13_readsNeeds 23 = .ok (.aload_n 0, 1) := by decide +kernel
theorem dX13_readsNeeds_24 : decode cX13_readsNeeds 24 = .ok (.getfield 74, 3) := by decide +kernel
theorem dX13_readsNeeds_27 : decode cX13_readsNeeds 27 = .ok (.aload_n 0, 1) := by decide +kernel
theorem dX13_readsNeeds_28 : decode cX13_readsNeeds 28 = .ok (.getfield 13, 3) := by decide +kernel
theorem dX13_readsNeeds_31 : decode cX13_readsNeeds 31 = .ok (.iconst 2, 1) := by decide +kernel
theorem dX13_readsNeeds_32 : decode cX13_readsNeeds 32 = .ok (.iaload, 1) := by decide +kernel
theorem dX13_readsNeeds_33 : decode cX13_readsNeeds 33 = .ok (.invokevirtual 437, 3) := by decide +kernel
theorem dX13_readsNeeds_36 : decode cX13_readsNeeds 36 = .ok (.istore_n 2, 1) := by decide +kernel
theorem dX13_readsNeeds_37 : decode cX13_readsNeeds 37 = .ok (.aload_n 0, 1) := by decide +kernel
theorem dX13_readsNeeds_38 : decode cX13_readsNeeds 38 = .ok (.invokevirtual 379, 3) := by decide +kernel
theorem dX13_readsNeeds_41 : decode cX13_readsNeeds 41 = .ok (.ifCond .eq 30, 3) := by decide +kernel
theorem dX13_readsNeeds_44 : decode cX13_readsNeeds 44 = .ok (.aload_n 0, 1) := by decide +kernel
theorem dX13_readsNeeds_45 : decode cX13_readsNeeds 45 = .ok (.aload_n 0, 1) := by decide +kernel
theorem dX13_readsNeeds_46 : decode cX13_readsNeeds 46 = .ok (.getfield 13, 3) := by decide +kernel
theorem dX13_readsNeeds_49 : decode cX13_readsNeeds 49 = .ok (.sipush 136, 3) := by decide +kernel
theorem dX13_readsNeeds_52 : decode cX13_readsNeeds 52 = .ok (.iload_n 1, 1) := by decide +kernel
theorem dX13_readsNeeds_53 : decode cX13_readsNeeds 53 = .ok (.iadd, 1) := by decide +kernel
theorem dX13_readsNeeds_54 : decode cX13_readsNeeds 54 = .ok (.iaload, 1) := by decide +kernel
theorem dX13_readsNeeds_55 : decode cX13_readsNeeds 55 = .ok (.iload_n 2, 1) := by decide +kernel
theorem dX13_readsNeeds_56 : decode cX13_readsNeeds 56 = .ok (.invokestatic 167, 3) := by decide +kernel
theorem dX13_readsNeeds_59 : decode cX13_readsNeeds 59 = .ok (.ifCond .ne 7, 3) := by decide +kernel
theorem dX13_readsNeeds_62 : decode cX13_readsNeeds 62 = .ok (.iconst 1, 1) := by decide +kernel
theorem dX13_readsNeeds_63 : decode cX13_readsNeeds 63 = .ok (.goto 4, 3) := by decide +kernel
theorem dX13_readsNeeds_66 : decode cX13_readsNeeds 66 = .ok (.iconst 0, 1) := by decide +kernel
theorem dX13_readsNeeds_67 : decode cX13_readsNeeds 67 = .ok (.iconst 3, 1) := by decide +kernel
theorem dX13_readsNeeds_68 : decode cX13_readsNeeds 68 = .ok (.invokevirtual 392, 3) := by decide +kernel
theorem dX13_readsNeeds_71 : decode cX13_readsNeeds 71 = .ok (.aload_n 0, 1) := by decide +kernel
theorem dX13_readsNeeds_72 : decode cX13_readsNeeds 72 = .ok (.invokevirtual 399, 3) := by decide +kernel
theorem dX13_readsNeeds_75 : decode cX13_readsNeeds 75 = .ok (.aload_n 0, 1) := by decide +kernel
theorem dX13_readsNeeds_76 : decode cX13_readsNeeds 76 = .ok (.invokevirtual 379, 3) := by decide +kernel
theorem dX13_readsNeeds_79 : decode cX13_readsNeeds 79 = .ok (.ifCond .eq 27, 3) := by decide +kernel
theorem dX13_readsNeeds_82 : decode cX13_readsNeeds 82 = .ok (.aload_n 0, 1) := by decide +kernel
theorem dX13_readsNeeds_83 : decode cX13_readsNeeds 83 = .ok (.getfield 13, 3) := by decide +kernel
theorem dX13_readsNeeds_86 : decode cX13_readsNeeds 86 = .ok (.sipush 136, 3) := by decide +kernel
theorem dX13_readsNeeds_89 : decode cX13_readsNeeds 89 = .ok (.iload_n 1, 1) := by decide +kernel
theorem dX13_readsNeeds_90 : decode cX13_readsNeeds 90 = .ok (.iadd, 1) := by decide +kernel
theorem dX13_readsNeeds_91 : decode cX13_readsNeeds 91 = .ok (.aload_n 0, 1) := by decide +kernel
theorem dX13_readsNeeds_92 : decode cX13_readsNeeds 92 = .ok (.getfield 13, 3) := by decide +kernel
theorem dX13_readsNeeds_95 : decode cX13_readsNeeds 95 = .ok (.sipush 136, 3) := by decide +kernel
theorem dX13_readsNeeds_98 : decode cX13_readsNeeds 98 = .ok (.iload_n 1, 1) := by decide +kernel
theorem dX13_readsNeeds_99 : decode cX13_readsNeeds 99 = .ok (.iadd, 1) := by decide +kernel
theorem dX13_readsNeeds_100 : decode cX13_readsNeeds 100 = .ok (.iaload, 1) := by decide +kernel
theorem dX13_readsNeeds_101 : decode cX13_readsNeeds 101 = .ok (.iconst 1, 1) := by decide +kernel
theorem dX13_readsNeeds_102 : decode cX13_readsNeeds 102 = .ok (.iload_n 2, 1) := by decide +kernel
theorem dX13_readsNeeds_103 : decode cX13_readsNeeds 103 = .ok (.ishl, 1) := by decide +kernel
theorem dX13_readsNeeds_104 : decode cX13_readsNeeds 104 = .ok (.ior, 1) := by decide +kernel
theorem dX13_readsNeeds_105 : decode cX13_readsNeeds 105 = .ok (.iastore, 1) := by decide +kernel
theorem dX13_readsNeeds_106 : decode cX13_readsNeeds 106 = .ok (.return_, 1) := by decide +kernel
theorem hd_X13_readsNeeds : yX13_readsNeeds.cls = RX13 ∧ yX13_readsNeeds.cls ≠ "java/lang/invoke/MethodHandle" ∧ yX13_readsNeeds.cls ≠ "java/lang/invoke/VarHandle" ∧ (parseMethodDescriptor yX13_readsNeeds.desc).map (fun d => d.parameters.length) = some 1 := by decide +kernel
theorem hs_X13_readsNeeds : yX13_readsNeeds.cls ≠ "java/lang/invoke/MethodHandle" ∧ yX13_readsNeeds.cls ≠ "java/lang/invoke/VarHandle" ∧ (parseMethodDescriptor yX13_readsNeeds.desc).map (fun d => d.parameters.length) = some 1 := by decide +kernel
set_option maxHeartbeats 4000000 in
set_option maxRecDepth 100000 in
theorem k_X13_readsNeeds (l : Launch) (E : Ev) (K : Kd) (z : Nat) (o : Nat) (a_1 : Int32) (w : Wd) (ho : K o = some (11, 0)) {w' : Wd} (hf : f_X13_readsNeeds K o a_1 w = some w') : Met l yX13_readsNeeds (Cond.code yX13_readsNeeds cX13_readsNeeds 3 (Option.none : Option Jvm.ClassFile.FieldType) :: bt) ({ frames := 8, cells := 0, slots := 0, locals := 171 } : Room) (va_Pc [rv E (some o), .int a_1] (HB E K w z)) (QV E K z w') 0 0 (hA E) := by
  refine Met.ofW (cc := cX13_readsNeeds) (maxL := 3) (ret := (Option.none : Option Jvm.ClassFile.FieldType)) (by decide) rfl ?_
  intro p e s m args below meth c s₁ B hml hv
  obtain ⟨rfl, hz, hP, hKs, hT, hb0⟩ := hv
  have C : CX p l e s m _ meth c cX13_readsNeeds 3 RX13 (Option.none : Option Jvm.ClassFile.FieldType) E := ⟨B.exec, B.bytes, hml, findClass_of_methodNamed B.named, fun w h => atoms_spec (ws := Cond.code yX13_readsNeeds cX13_readsNeeds 3 (Option.none : Option Jvm.ClassFile.FieldType) :: bt) B.pre w (List.mem_cons_of_mem _ h), hKs, hT, by rw [hz]; exact hb0, B.notSynchronized, B.returns⟩
  have hH : HQ E K z w s s.heap [] := ⟨hP, va_S.rf, hz⟩
  obtain ⟨hx, hb, hml, hown, hts, hKs, hT, hb0, hlocks, hret⟩ := id C
  have hl := lv_entry [rv E (some o), .int a_1] (n := 3) (by simp [lg_len_nil, lg_len_i, lg_len_j, lg_len_q, lg_len_f, lg_len_d, lg_len_r])
  rw [lg_entry_eq]
  generalize (lg_sl [rv E (some o), .int a_1] ++ List.replicate (3 - (lg_sl [rv E (some o), .int a_1]).length) Slot.unset).toArray = ls at hl ⊢
  replace hl : lv_has ls 3 [(0, rv E (some o)), (1, .int a_1)] := by simpa only [lv_args, cat_q, cat_i, cat_j, reduceIte, Nat.reduceEqDiff, Nat.reduceAdd, Nat.zero_add] using hl
  generalize s.heap = H at hH ⊢
  unfold f_X13_readsNeeds at hf
  refine hl_aload_n hx hb dX13_readsNeeds_0 rfl (lv_at hl 0 rfl) ?_
  refine hl_aload_n hx hb dX13_readsNeeds_1 rfl (lv_at hl 0 rfl) ?_
  refine g13_2 hx hb hts hown hKs hH rfl ho m6_183 dX13_readsNeeds_2 ?_
  refine lv_sipush (v := 136) hx hb dX13_readsNeeds_5 (by decide) ?_
  refine lv_iload_n hx hb dX13_readsNeeds_8 rfl (lv_at hl 1 rfl) ?_
  refine lv_iadd hx hb dX13_readsNeeds_9 ?_
  obtain ⟨a1, ha1, hf⟩ := bnd hf
  replace ha1 := cha_some ha1
  obtain ⟨j2, hj2, hf⟩ := bnd hf
  refine hw_iald hx hb hKs hH ha1.1 ha1.2 hj2 dX13_readsNeeds_10 ?_
  obtain ⟨q3, hq3, hf⟩ := bnd hf
  refine hcS_i hx hb hml hown hts hKs hT hb0 hH (As := [.int ((aI w a1.1 j2))]) (rest := [rv E (some o)]) (k_X13_bits l E K H.size (aI w a1.1 j2) w hq3) (gS m7_147 m7_148 m1_16 m7_149) hs_X13_bits ⟨Nat.le_of_ble_eq_true rfl, Nat.le_of_ble_eq_true rfl, rfl, rfl⟩ hl.1 rfl (rcV rc0) rfl dX13_readsNeeds_11 ⟨Nat.zero_le _, Nat.zero_le _⟩ (fun H locs hH => ?_)
  refine lv_iconst (v := 4) hx hb dX13_readsNeeds_14 (by decide) ?_
  obtain ⟨q4, hq4, hf⟩ := bnd hf
  refine hcV_i hx hb hml hown hts hKs hT hb0 hH (As := [.int (q3.1), .int 4]) (rest := []) (k_X13_begins l E K H.size o q3.1 4 q3.2 ho hq4) (gV m9_62 m9_64 ms_108 m1_16 m9_65) hd_X13_begins ⟨Nat.le_of_ble_eq_true rfl, Nat.le_of_ble_eq_true rfl, rfl, rfl⟩ rfl ho rfl rfl rfl hl.1 rfl rc0 rfl dX13_readsNeeds_15 ⟨Nat.zero_le _, Nat.zero_le _⟩ (fun H locs hH => ?_)
  refine lv_if_ne (tgt := 22) hx hb dX13_readsNeeds_18 (by decide) (fun c5 => ?_) (fun c5 => ?_)
  · replace hf := (if_neg c5).symm.trans hf
    refine hl_aload_n hx hb dX13_readsNeeds_22 rfl (lv_at hl 0 rfl) ?_
    refine hl_aload_n hx hb dX13_readsNeeds_23 rfl (lv_at hl 0 rfl) ?_
    refine g13_35 hx hb hts hown hKs hH rfl ho m6_216 dX13_readsNeeds_24 ?_
    refine hl_aload_n hx hb dX13_readsNeeds_27 rfl (lv_at hl 0 rfl) ?_
    refine g13_2 hx hb hts hown hKs hH rfl ho m6_183 dX13_readsNeeds_28 ?_
    refine lv_iconst (v := 2) hx hb dX13_readsNeeds_31 (by decide) ?_
    obtain ⟨a6, ha6, hf⟩ := bnd hf
    replace ha6 := cha_some ha6
    obtain ⟨j7, hj7, hf⟩ := bnd hf
    refine hw_iald hx hb hKs hH ha6.1 ha6.2 hj7 dX13_readsNeeds_32 ?_
    obtain ⟨q8, hq8, hf⟩ := bnd hf
    refine hcV_i hx hb hml hown hts hKs hT hb0 hH (As := [rv E (wR q4.2 1335 o), .int ((aI q4.2 a6.1 j7))]) (rest := []) (k_X13_known l E K H.size o (wR q4.2 1335 o) (aI q4.2 a6.1 j7) q4.2 ho hq8) (gV m9_135 m9_137 ms_125 m1_16 m9_138) hd_X13_known ⟨Nat.le_of_ble_eq_true rfl, Nat.le_of_ble_eq_true rfl, rfl, rfl⟩ rfl ho rfl rfl rfl hl.1 rfl rc0 rfl dX13_readsNeeds_33 ⟨Nat.zero_le _, Nat.zero_le _⟩ (fun H locs hH => ?_)
    refine lv_istore_n (i := 2) (lv' := [(2, .int (q8.1)), (0, rv E (some o)), (1, .int a_1)]) hx hb dX13_readsNeeds_36 rfl hl (by decide) rfl (fun ls hl => ?_)
    refine hl_aload_n hx hb dX13_readsNeeds_37 rfl (lv_at hl 1 rfl) ?_
    obtain ⟨q9, hq9, hf⟩ := bnd hf
    refine hcV_i hx hb hml hown hts hKs hT hb0 hH (As := []) (rest := []) (k_X13_fine l E K H.size o q8.2 ho hq9) (gV m9_46 m9_48 ms_104 m1_16 m9_49) hd_X13_fine ⟨Nat.le_of_ble_eq_true rfl, Nat.le_of_ble_eq_true rfl, rfl, rfl⟩ rfl ho rfl rfl rfl hl.1 rfl rc0 rfl dX13_readsNeeds_38 ⟨Nat.zero_le _, Nat.zero_le _⟩ (fun H locs hH => ?_)
    refine lv_if_eq (tgt := 71) hx hb dX13_readsNeeds_41 (by decide) (fun c10 => ?_) (fun c10 => ?_)
    · replace hf := (if_pos c10).symm.trans hf
      refine hl_aload_n hx hb dX13_readsNeeds_71 rfl (lv_at hl 1 rfl) ?_
      obtain ⟨q11, hq11, hf⟩ := bnd hf
      refine hcV_v hx hb hml hown hts hKs hT hb0 hH (As := []) (rest := []) (k_X13_goOn l E K H.size o q9.2 ho hq11) (gV m9_70 m9_72 ms_110 m1_16 m9_73) hd_X13_goOn ⟨Nat.le_of_ble_eq_true rfl, Nat.le_of_ble_eq_true rfl, rfl, rfl⟩ rfl ho rfl rfl rfl hl.1 rfl rc0 rfl dX13_readsNeeds_72 ⟨Nat.zero_le _, Nat.zero_le _⟩ (fun H locs hH => ?_)
      refine hl_aload_n hx hb dX13_readsNeeds_75 rfl (lv_at hl 1 rfl) ?_
      obtain ⟨q12, hq12, hf⟩ := bnd hf
      refine hcV_i hx hb hml hown hts hKs hT hb0 hH (As := []) (rest := []) (k_X13_fine l E K H.size o q11 ho hq12) (gV m9_46 m9_48 ms_104 m1_16 m9_49) hd_X13_fine ⟨Nat.le_of_ble_eq_true rfl, Nat.le_of_ble_eq_true rfl, rfl, rfl⟩ rfl ho rfl rfl rfl hl.1 rfl rc0 rfl dX13_readsNeeds_76 ⟨Nat.zero_le _, Nat.zero_le _⟩ (fun H locs hH => ?_)
      refine lv_if_eq (tgt := 106) hx hb dX13_readsNeeds_79 (by decide) (fun c13 => ?_) (fun c13 => ?_)
      · replace hf := (if_pos c13).symm.trans hf
        exact hw_vret hx hb hret hf hH hlocks dX13_readsNeeds_106
      · replace hf := (if_neg c13).symm.trans hf
        refine hl_aload_n hx hb dX13_readsNeeds_82 rfl (lv_at hl 1 rfl) ?_
        refine g13_2 hx hb hts hown hKs hH rfl ho m6_183 dX13_readsNeeds_83 ?_
        refine lv_sipush (v := 136) hx hb dX13_readsNeeds_86 (by decide) ?_
        refine lv_iload_n hx hb dX13_readsNeeds_89 rfl (lv_at hl 2 rfl) ?_
        refine lv_iadd hx hb dX13_readsNeeds_90 ?_
        refine hl_aload_n hx hb dX13_readsNeeds_91 rfl (lv_at hl 1 rfl) ?_
        refine g13_2 hx hb hts hown hKs hH rfl ho m6_183 dX13_readsNeeds_92 ?_
        refine lv_sipush (v := 136) hx hb dX13_readsNeeds_95 (by decide) ?_
        refine lv_iload_n hx hb dX13_readsNeeds_98 rfl (lv_at hl 2 rfl) ?_
        refine lv_iadd hx hb dX13_readsNeeds_99 ?_
        obtain ⟨a14, ha14, hf⟩ := bnd hf
        replace ha14 := cha_some ha14
        obtain ⟨j15, hj15, hf⟩ := bnd hf
        refine hw_iald hx hb hKs hH ha14.1 ha14.2 hj15 dX13_readsNeeds_100 ?_
        refine lv_iconst (v := 1) hx hb dX13_readsNeeds_101 (by decide) ?_
        refine lv_iload_n hx hb dX13_readsNeeds_102 rfl (lv_at hl 0 rfl) ?_
        refine lv_ishl hx hb dX13_readsNeeds_103 ?_
        refine lv_ior hx hb dX13_readsNeeds_104 ?_
        obtain ⟨j16, hj16, hf⟩ := bnd hf
        obtain ⟨w17, hw17, hf⟩ := bnd hf
        replace hw17 := Option.some.inj hw17
        refine hw_iast (x := ((aI q12.2 a14.1 j15) ||| (1 <<< (q8.1 &&& 31)))) hx hb hKs hH ha14.1 ha14.2 hj16 dX13_readsNeeds_105 (fun H locs hH => ?_)
        rw [hw17] at hH
        exact hw_vret hx hb hret hf hH hlocks dX13_readsNeeds_106
    · replace hf := (if_neg c10).symm.trans hf
      refine hl_aload_n hx hb dX13_readsNeeds_44 rfl (lv_at hl 1 rfl) ?_
      refine hl_aload_n hx hb dX13_readsNeeds_45 rfl (lv_at hl 1 rfl) ?_
      refine g13_2 hx hb hts hown hKs hH rfl ho m6_183 dX13_readsNeeds_46 ?_
      refine lv_sipush (v := 136) hx hb dX13_readsNeeds_49 (by decide) ?_
      refine lv_iload_n hx hb dX13_readsNeeds_52 rfl (lv_at hl 2 rfl) ?_
      refine lv_iadd hx hb dX13_readsNeeds_53 ?_
      obtain ⟨a18, ha18, hf⟩ := bnd hf
      replace ha18 := cha_some ha18
      obtain ⟨j19, hj19, hf⟩ := bnd hf
      refine hw_iald hx hb hKs hH ha18.1 ha18.2 hj19 dX13_readsNeeds_54 ?_
      refine lv_iload_n hx hb dX13_readsNeeds_55 rfl (lv_at hl 0 rfl) ?_
      obtain ⟨q20, hq20, hf⟩ := bnd hf
      refine hcS_i hx hb hml hown hts hKs hT hb0 hH (As := [.int ((aI q9.2 a18.1 j19)), .int (q8.1)]) (rest := [rv E (some o)]) (k_X13_has l E K H.size (aI q9.2 a18.1 j19) q8.1 q9.2 hq20) (gS m7_223 m7_224 m1_16 m7_225) hs_X13_has ⟨Nat.le_of_ble_eq_true rfl, Nat.le_of_ble_eq_true rfl, rfl, rfl⟩ hl.1 rfl (rcV rc0) rfl dX13_readsNeeds_56 ⟨Nat.zero_le _, Nat.zero_le _⟩ (fun H locs hH => ?_)
      refine lv_if_ne (tgt := 66) hx hb dX13_readsNeeds_59 (by decide) (fun c21 => ?_) (fun c21 => ?_)
      · replace hf := (if_neg c21).symm.trans hf
        refine lv_iconst (v := 0) hx hb dX13_readsNeeds_66 (by decide) ?_
        refine lv_iconst (v := 3) hx hb dX13_readsNeeds_67 (by decide) ?_
        obtain ⟨q22, hq22, hf⟩ := bnd hf
        refine hcV_v hx hb hml hown hts hKs hT hb0 hH (As := [.int 0, .int 3]) (rest := []) (k_X13_needs l E K H.size o false 3 q20.2 ho hq22) (gV m9_66 m9_68 ms_109 m1_16 m9_69) hd_X13_needs ⟨Nat.le_of_ble_eq_true rfl, Nat.le_of_ble_eq_true rfl, rfl, rfl⟩ rfl ho rfl rfl rfl hl.1 rfl rc0 rfl dX13_readsNeeds_68 ⟨Nat.zero_le _, Nat.zero_le _⟩ (fun H locs hH => ?_)
        refine hl_aload_n hx hb dX13_readsNeeds_71 rfl (lv_at hl 1 rfl) ?_
        obtain ⟨q23, hq23, hf⟩ := bnd hf
        refine hcV_v hx hb hml hown hts hKs hT hb0 hH (As := []) (rest := []) (k_X13_goOn l E K H.size o q22 ho hq23) (gV m9_70 m9_72 ms_110 m1_16 m9_73) hd_X13_goOn ⟨Nat.le_of_ble_eq_true rfl, Nat.le_of_ble_eq_true rfl, rfl, rfl⟩ rfl ho rfl rfl rfl hl.1 rfl rc0 rfl dX13_readsNeeds_72 ⟨Nat.zero_le _, Nat.zero_le _⟩ (fun H locs hH => ?_)
        refine hl_aload_n hx hb dX13_readsNeeds_75 rfl (lv_at hl 1 rfl) ?_
        obtain ⟨q24, hq24, hf⟩ := bnd hf
        refine hcV_i hx hb hml hown hts hKs hT hb0 hH (As := []) (rest := []) (k_X13_fine l E K H.size o q23 ho hq24) (gV m9_46 m9_48 ms_104 m1_16 m9_49) hd_X13_fine ⟨Nat.le_of_ble_eq_true rfl, Nat.le_of_ble_eq_true rfl, rfl, rfl⟩ rfl ho rfl rfl rfl hl.1 rfl rc0 rfl dX13_readsNeeds_76 ⟨Nat.zero_le _, Nat.zero_le _⟩ (fun H locs hH => ?_)
        refine lv_if_eq (tgt := 106) hx hb dX13_readsNeeds_79 (by decide) (fun c25 => ?_) (fun c25 => ?_)
        · replace hf := (if_pos c25).symm.trans hf
          exact hw_vret hx hb hret hf hH hlocks dX13_readsNeeds_106
        · replace hf := (if_neg c25).symm.trans hf
          refine hl_aload_n hx hb dX13_readsNeeds_82 rfl (lv_at hl 1 rfl) ?_
          refine g13_2 hx hb hts hown hKs hH rfl ho m6_183 dX13_readsNeeds_83 ?_
          refine lv_sipush (v := 136) hx hb dX13_readsNeeds_86 (by decide) ?_
          refine lv_iload_n hx hb dX13_readsNeeds_89 rfl (lv_at hl 2 rfl) ?_
          refine lv_iadd hx hb dX13_readsNeeds_90 ?_
          refine hl_aload_n hx hb dX13_readsNeeds_91 rfl (lv_at hl 1 rfl) ?_
          refine g13_2 hx hb hts hown hKs hH rfl ho m6_183 dX13_readsNeeds_92 ?_
          refine lv_sipush (v := 136) hx hb dX13_readsNeeds_95 (by decide) ?_
          refine lv_iload_n hx hb dX13_readsNeeds_98 rfl (lv_at hl 2 rfl) ?_
          refine lv_iadd hx hb dX13_readsNeeds_99 ?_
          obtain ⟨a26, ha26, hf⟩ := bnd hf
          replace ha26 := cha_some ha26
          obtain ⟨j27, hj27, hf⟩ := bnd hf
          refine hw_iald hx hb hKs hH ha26.1 ha26.2 hj27 dX13_readsNeeds_100 ?_
          refine lv_iconst (v := 1) hx hb dX13_readsNeeds_101 (by decide) ?_
          refine lv_iload_n hx hb dX13_readsNeeds_102 rfl (lv_at hl 0 rfl) ?_
          refine lv_ishl hx hb dX13_readsNeeds_103 ?_
          refine lv_ior hx hb dX13_readsNeeds_104 ?_
          obtain ⟨j28, hj28, hf⟩ := bnd hf
          obtain ⟨w29, hw29, hf⟩ := bnd hf
          replace hw29 := Option.some.inj hw29
          refine hw_iast (x := ((aI q24.2 a26.1 j27) ||| (1 <<< (q8.1 &&& 31)))) hx hb hKs hH ha26.1 ha26.2 hj28 dX13_readsNeeds_105 (fun H locs hH => ?_)
          rw [hw29] at hH
          exact hw_vret hx hb hret hf hH hlocks dX13_readsNeeds_106
      · replace hf := (if_pos c21).symm.trans hf
        refine lv_iconst (v := 1) hx hb dX13_readsNeeds_62 (by decide) ?_
        refine lv_goto (tgt := 67) hx hb dX13_readsNeeds_63 (by decide) ?_
        refine lv_iconst (v := 3) hx hb dX13_readsNeeds_67 (by decide) ?_
        obtain ⟨q30, hq30, hf⟩ := bnd hf
        refine hcV_v hx hb hml hown hts hKs hT hb0 hH (As := [.int 1, .int 3]) (rest := []) (k_X13_needs l E K H.size o true 3 q20.2 ho hq30) (gV m9_66 m9_68 ms_109 m1_16 m9_69) hd_X13_needs ⟨Nat.le_of_ble_eq_true rfl, Nat.le_of_ble_eq_true rfl, rfl, rfl⟩ rfl ho rfl rfl rfl hl.1 rfl rc0 rfl dX13_readsNeeds_68 ⟨Nat.zero_le _, Nat.zero_le _⟩ (fun H locs hH => ?_)
        refine hl_aload_n hx hb dX13_readsNeeds_71 rfl (lv_at hl 1 rfl) ?_
        obtain ⟨q31, hq31, hf⟩ := bnd hf
        refine hcV_v hx hb hml hown hts hKs hT hb0 hH (As := []) (rest := []) (k_X13_goOn l E K H.size o q30 ho hq31) (gV m9_70 m9_72 ms_110 m1_16 m9_73) hd_X13_goOn ⟨Nat.le_of_ble_eq_true rfl, Nat.le_of_ble_eq_true rfl, rfl, rfl⟩ rfl ho rfl rfl rfl hl.1 rfl rc0 rfl dX13_readsNeeds_72 ⟨Nat.zero_le _, Nat.zero_le _⟩ (fun H locs hH => ?_)
        refine hl_aload_n hx hb dX13_readsNeeds_75 rfl (lv_at hl 1 rfl) ?_
        obtain ⟨q32, hq32, hf⟩ := bnd hf
        refine hcV_i hx hb hml hown hts hKs hT hb0 hH (As := []) (rest := []) (k_X13_fine l E K H.size o q31 ho hq32) (gV m9_46 m9_48 ms_104 m1_16 m9_49) hd_X13_fine ⟨Nat.le_of_ble_eq_true rfl, Nat.le_of_ble_eq_true rfl, rfl, rfl⟩ rfl ho rfl rfl rfl hl.1 rfl rc0 rfl dX13_readsNeeds_76 ⟨Nat.zero_le _, Nat.zero_le _⟩ (fun H locs hH => ?_)
        refine lv_if_eq (tgt := 106) hx hb dX13_readsNeeds_79 (by decide) (fun c33 => ?_) (fun c33 => ?_)
        · replace hf := (if_pos c33).symm.trans hf
          exact hw_vret hx hb hret hf hH hlocks dX13_readsNeeds_106
        · replace hf := (if_neg c33).symm.trans hf
          refine hl_aload_n hx hb dX13_readsNeeds_82 rfl (lv_at hl 1 rfl) ?_
          refine g13_2 hx hb hts hown hKs hH rfl ho m6_183 dX13_readsNeeds_83 ?_
          refine lv_sipush (v := 136) hx hb dX13_readsNeeds_86 (by decide) ?_
          refine lv_iload_n hx hb dX13_readsNeeds_89 rfl (lv_at hl 2 rfl) ?_
          refine lv_iadd hx hb dX13_readsNeeds_90 ?_
          refine hl_aload_n hx hb dX13_readsNeeds_91 rfl (lv_at hl 1 rfl) ?_
          refine g13_2 hx hb hts hown hKs hH rfl ho m6_183 dX13_readsNeeds_92 ?_
          refine lv_sipush (v := 136) hx hb dX13_readsNeeds_95 (by decide) ?_
          refine lv_iload_n hx hb dX13_readsNeeds_98 rfl (lv_at hl 2 rfl) ?_
          refine lv_iadd hx hb dX13_readsNeeds_99 ?_
          obtain ⟨a34, ha34, hf⟩ := bnd hf
          replace ha34 := cha_some ha34
          obtain ⟨j35, hj35, hf⟩ := bnd hf
          refine hw_iald hx hb hKs hH ha34.1 ha34.2 hj35 dX13_readsNeeds_100 ?_
          refine lv_iconst (v := 1) hx hb dX13_readsNeeds_101 (by decide) ?_
          refine lv_iload_n hx hb dX13_readsNeeds_102 rfl (lv_at hl 0 rfl) ?_
          refine lv_ishl hx hb dX13_readsNeeds_103 ?_
          refine lv_ior hx hb dX13_readsNeeds_104 ?_
          obtain ⟨j36, hj36, hf⟩ := bnd hf
          obtain ⟨w37, hw37, hf⟩ := bnd hf
          replace hw37 := Option.some.inj hw37
          refine hw_iast (x := ((aI q32.2 a34.1 j35) ||| (1 <<< (q8.1 &&& 31)))) hx hb hKs hH ha34.1 ha34.2 hj36 dX13_readsNeeds_105 (fun H locs hH => ?_)
          rw [hw37] at hH
          exact hw_vret hx hb hret hf hH hlocks dX13_readsNeeds_106
  · replace hf := (if_pos c5).symm.trans hf
    exact hw_vret hx hb hret hf hH hlocks dX13_readsNeeds_21

theorem dX13_readsCase_0 : decode cX13_readsCase 0 = .ok (.aload_n 0, 1) := by decide +kernel
theorem dX13_readsCase_1 : decode cX13_readsCase 1 = .ok (.getfield 13, 3) := by decide +kernel
theorem dX13_readsCase_4 : decode cX13_readsCase 4 = .ok (.iconst 3, 1) := by decide +kernel
theorem dX13_readsCase_5 : decode cX13_readsCase 5 = .ok (.iaload, 1) := by decide +kernel
theorem dX13_readsCase_6 : decode cX13_readsCase 6 = .ok (.istore_n 1, 1) := by decide +kernel
theorem dX13_readsCase_7 : decode cX13_readsCase 7 = .ok (.aload_n 0, 1) := by decide +kernel
theorem dX13_readsCase_8 : decode cX13_readsCase 8 = .ok (.iload_n 1, 1) := by decide +kernel
theorem dX13_readsCase_9 : decode cX13_readsCase 9 = .ok (.bipush 12, 2) := by decide +kernel
theorem dX13_readsCase_11 : decode cX13_readsCase 11 = .ok (.invokevirtual 423, 3) := by decide +kernel
theorem dX13_readsCase_14 : decode cX13_readsCase 14 = .ok (.ifCond .ne 4, 3) := by decide +kernel
theorem dX13_readsCase_17 : decode cX13_readsCase 17 = .ok (.return_, 1) := by decide +kernel
theorem dX13_readsCase_18 : decode cX13_readsCase 18 = .ok (.aload_n 0, 1) := by decide +kernel
theorem dX13_readsCase_19 : decode cX13_readsCase 19 = .ok (.aload_n 0, 1) := by decide +kernel
theorem dX13_readsCase_20 : decode cX13_readsCase 20 = .ok (.getfield 77, 3) := by decide +kernel
theorem dX13_readsCase_23 : decode cX13_readsCase 23 = .ok (.iload_n 1, 1) := by decide +kernel
theorem dX13_readsCase_24 : decode cX13_readsCase 24 = .ok (.invokevirtual 426, 3) := by decide +kernel
theorem dX13_readsCase_27 : decode cX13_readsCase 27 = .ok (.aload_n 0, 1) := by decide +kernel
theorem dX13_readsCase_28 : decode cX13_readsCase 28 = .ok (.bipush 88, 2) := by decide +kernel
theorem dX13_readsCase_30 : decode cX13_readsCase 30 = .ok (.iload_n 1, 1) := by decide +kernel
theorem dX13_readsCase_31 : decode cX13_readsCase 31 = .ok (.iadd, 1) := by decide +kernel
theorem dX13_readsCase_32 : decode cX13_readsCase 32 = .ok (.aload_n 0, 1) := by decide +kernel
theorem dX13_readsCase_33 : decode cX13_readsCase 33 = .ok (.bipush 8, 2) := by decide +kernel
theorem dX13_readsCase_35 : decode cX13_readsCase 35 = .ok (.iconst 0, 1) := by decide +kernel
theorem dX13_readsCase_36 : decode cX13_readsCase 36 = .ok (.bipush 99, 2) := by decide +kernel
theorem dX13_readsCase_38 : decode cX13_readsCase 38 = .ok (.invokevirtual 430, 3) := by decide +kernel
theorem dX13_readsCase_41 : decode cX13_readsCase 41 = .ok (.invokevirtual 434, 3) := by decide +kernel
theorem dX13_readsCase_44 : decode cX13_readsCase 44 = .ok (.aload_n 0, 1) := by decide +kernel
theorem dX13_readsCase_45 : decode cX13_readsCase 45 = .ok (.bipush 100, 2) := by decide +kernel
theorem dX13_readsCase_47 : decode cX13_readsCase 47 = .ok (.iload_n 1, 1) := by decide +kernel
theorem dX13_readsCase_48 : decode cX13_readsCase 48 = .ok (.iadd, 1) := by decide +kernel
theorem dX13_readsCase_49 : decode cX13_readsCase 49 = .ok (.aload_n 0, 1) := by decide +kernel
theorem dX13_readsCase_50 : decode cX13_readsCase 50 = .ok (.iconst 2, 1) := by decide +kernel
theorem dX13_readsCase_51 : decode cX13_readsCase 51 = .ok (.iconst 1, 1) := by decide +kernel
theorem dX13_readsCase_52 : decode cX13_readsCase 52 = .ok (.iconst 4, 1) := by decide +kernel
theorem dX13_readsCase_53 : decode cX13_readsCase 53 = .ok (.invokevirtual 430, 3) := by decide +kernel
theorem dX13_readsCase_56 : decode cX13_readsCase 56 = .ok (.invokevirtual 434, 3) := by decide +kernel
theorem dX13_readsCase_59 : decode cX13_readsCase 59 = .ok (.aload_n 0, 1) := by decide +kernel
theorem dX13_readsCase_60 : decode cX13_readsCase 60 = .ok (.bipush 112, 2) := by decide +kernel
theorem dX13_readsCase_62 : decode cX13_readsCase 62 = .ok (.iload_n 1, 1) := by decide +kernel
theorem dX13_readsCase_63 : decode cX13_readsCase 63 = .ok (.iadd, 1) := by decide +kernel
theorem dX13_readsCase_64 : decode cX13_readsCase 64 = .ok (.aload_n 0, 1) := by decide +kernel
theorem dX13_readsCase_65 : decode cX13_readsCase 65 = .ok (.bipush 9, 2) := by decide +kernel
theorem dX13_readsCase_67 : decode cX13_readsCase 67 = .ok (.iconst 1, 1) := by decide +kernel
theorem dX13_readsCase_68 : decode cX13_readsCase 68 = .ok (.bipush 60, 2) := by decide +kernel
theorem dX13_readsCase_70 : decode cX13_readsCase 70 = .ok (.invokevirtual 430, 3) := by decide +kernel
theorem dX13_readsCase_73 : decode cX13_readsCase 73 = .ok (.invokevirtual 434, 3) := by decide +kernel
theorem dX13_readsCase_76 : decode cX13_readsCase 76 = .ok (.aload_n 0, 1) := by decide +kernel
theorem dX13_readsCase_77 : decode cX13_readsCase 77 = .ok (.bipush 124, 2) := by decide +kernel
theorem dX13_readsCase_79 : decode cX13_readsCase 79 = .ok (.iload_n 1, 1) := by decide +kernel
theorem dX13_readsCase_80 : decode cX13_readsCase 80 = .ok (.iadd, 1) := by decide +kernel
theorem dX13_readsCase_81 : decode cX13_readsCase 81 = .ok (.aload_n 0, 1) := by decide +kernel
theorem dX13_readsCase_82 : decode cX13_readsCase 82 = .ok (.bipush 10, 2) := by decide +kernel
theorem dX13_readsCase_84 : decode cX13_readsCase 84 = .ok (.invokevirtual 389, 3) := by decide +kernel
theorem dX13_readsCase_87 : decode cX13_readsCase 87 = .ok (.ifCond .eq 7, 3) := by decide +kernel
theorem dX13_readsCase_90 : decode cX13_readsCase 90 = .ok (.iconst 1, 1) := by decide +kernel
theorem dX13_readsCase_91 : decode cX13_readsCase 91 = .ok (.goto 4, 3) := by decide +kernel
theorem dX13_readsCase_94 : decode cX13_readsCase 94 = .ok (.iconst 0, 1) := by decide +kernel
theorem dX13_readsCase_95 : decode cX13_readsCase 95 = .ok (.invokevirtual 434, 3) := by decide +kernel
theorem dX13_readsCase_98 : decode cX13_readsCase 98 = .ok (.aload_n 0, 1) := by decide +kernel
theorem dX13_readsCase_99 : decode cX13_readsCase 99 = .ok (.sipush 136, 3) := by decide +kernel
theorem dX13_readsCase_102 : decode cX13_readsCase 102 = .ok (.iload_n 1, 1) := by decide +kernel
theorem dX13_readsCase_103 : decode cX13_readsCase 103 = .ok (.iadd, 1) := by decide +kernel
theorem dX13_readsCase_104 : decode cX13_readsCase 104 = .ok (.iconst 0, 1) := by decide +kernel
theorem dX13_readsCase_105 : decode cX13_readsCase 105 = .ok (.invokevirtual 434, 3) := by decide +kernel
theorem dX13_readsCase_108 : decode cX13_readsCase 108 = .ok (.aload_n 0, 1) := by decide +kernel
theorem dX13_readsCase_109 : decode cX13_readsCase 109 = .ok (.bipush 11, 2) := by decide +kernel
theorem dX13_readsCase_111 : decode cX13_readsCase 111 = .ok (.invokevirtual 386, 3) := by decide +kernel
theorem dX13_readsCase_114 : decode cX13_readsCase 114 = .ok (.ifCond .eq 11, 3) := by decide +kernel
theorem dX13_readsCase_117 : decode cX13_readsCase 117 = .ok (.aload_n 0, 1) := by decide +kernel
theorem dX13_readsCase_118 : decode cX13_readsCase 118 = .ok (.iload_n 1, 1) := by decide +kernel
theorem dX13_readsCase_119 : decode cX13_readsCase 119 = .ok (.invokevirtual 441, 3) := by decide +kernel
theorem dX13_readsCase_122 : decode cX13_readsCase 122 = .ok (.goto (-14), 3) := by decide +kernel
theorem dX13_readsCase_125 : decode cX13_readsCase 125 = .ok (.aload_n 0, 1) := by decide +kernel
theorem dX13_readsCase_126 : decode cX13_readsCase 126 = .ok (.iconst 3, 1) := by decide +kernel
theorem dX13_readsCase_127 : decode cX13_readsCase 127 = .ok (.iload_n 1, 1) := by decide +kernel
theorem dX13_readsCase_128 : decode cX13_readsCase 128 = .ok (.iconst 1, 1) := by decide +kernel
theorem dX13_readsCase_129 : decode cX13_readsCase 129 = .ok (.iadd, 1) := by decide +kernel
theorem dX13_readsCase_130 : decode cX13_readsCase 130 = .ok (.invokevirtual 434, 3) := by decide +kernel
theorem dX13_readsCase_133 : decode cX13_readsCase 133 = .ok (.return_, 1) := by decide +kernel
theorem hd_X13_readsCase : yX13_readsCase.cls = RX13 ∧ yX13_readsCase.cls ≠ "java/lang/invoke/MethodHandle" ∧ yX13_readsCase.cls ≠ "java/lang/invoke/VarHandle" ∧ (parseMethodDescriptor yX13_readsCase.desc).map (fun d => d.parameters.length) = some 0 := by decide +kernel
theorem hs_X13_readsCase : yX13_readsCase.cls ≠ "java/lang/invoke/MethodHandle" ∧ yX13_readsCase.cls ≠ "java/lang/invoke/VarHandle" ∧ (parseMethodDescriptor yX13_readsCase.desc).map (fun d => d.parameters.length) = some 0 := by decide +kernel
set_option maxHeartbeats 4000000 in
set_option maxRecDepth 100000 in
theorem l_X13_readsCase_L108 (C : CX p l e s m args meth c cX13_readsCase 2 RX13 (Option.none : Option Jvm.ClassFile.FieldType) E) {o : Nat} (ho : K o = some (11, 0)) {w' : Wd} (k : Int32 → Wd → Option Wd) (hk : ∀ (v1_108 : Int32) (w : Wd) (H : Heap) (locs : List Loc) (ls : Array Slot), HQ E K z w s H locs → lv_has ls 2 [(1, .int v1_108), (0, rv E (some o))] → k v1_108 w = some w' → W p l e ({ frames := 9, cells := 0, slots := 0, locals := 195 } : Room) s m args below meth c H locs 0 0 (MQ below (QV E K z w') args s 0 0 (hA E)) (F0 m 125 ls [])) : ∀ (n : Nat) (v1_108 : Int32) (w : Wd) (H : Heap) (locs : List Loc) (ls : Array Slot), HQ E K z w s H locs → lv_has ls 2 [(1, .int v1_108), (0, rv E (some o))] → f_X13_readsCase_L108 K o k n v1_108 w = some w' → W p l e ({ frames := 9, cells := 0, slots := 0, locals := 195 } : Room) s m args below meth c H locs 0 0 (MQ below (QV E K z w') args s 0 0 (hA E)) (F0 m 108 ls []) := by
  obtain ⟨hx, hb, hml, hown, hts, hKs, hT, hb0, hlocks, hret⟩ := id C
  intro n
  induction n with
  | zero =>
    intro v1_108 w H locs ls hH hl hf
    cases hf
  | succ n ih =>
    intro v1_108 w H locs ls hH hl hf
    rw [f_X13_readsCase_L108] at hf
    refine hl_aload_n hx hb dX13_readsCase_108 rfl (lv_at hl 1 rfl) ?_
    refine lv_bipush (v := 11) hx hb dX13_readsCase_109 (by decide) ?_
    obtain ⟨q17, hq17, hf⟩ := bnd hf
    refine hcV_i hx hb hml hown hts hKs hT hb0 hH (As := [.int 11]) (rest := []) (k_X13_isWord l E K H.size o 11 w ho hq17) (gV m9_54 m9_56 ms_106 m1_16 m9_57) hd_X13_isWord ⟨Nat.le_of_ble_eq_true rfl, Nat.le_of_ble_eq_true rfl, rfl, rfl⟩ rfl ho rfl rfl rfl hl.1 rfl rc0 rfl dX13_readsCase_111 ⟨Nat.zero_le _, Nat.zero_le _⟩ (fun H locs hH => ?_)
    refine lv_if_eq (tgt := 125) hx hb dX13_readsCase_114 (by decide) (fun c18 => ?_) (fun c18 => ?_)
    · replace hf := (if_pos c18).symm.trans hf
      exact hk v1_108 _ _ _ _ hH (lv_sub hl [0, 1] rfl) hf
    · replace hf := (if_neg c18).symm.trans hf
      refine hl_aload_n hx hb dX13_readsCase_117 rfl (lv_at hl 1 rfl) ?_
      refine lv_iload_n hx hb dX13_readsCase_118 rfl (lv_at hl 0 rfl) ?_
      obtain ⟨q19, hq19, hf⟩ := bnd hf
      refine hcV_v hx hb hml hown hts hKs hT hb0 hH (As := [.int v1_108]) (rest := []) (k_X13_readsNeeds l E K H.size o v1_108 q17.2 ho hq19) (gV m9_131 m9_133 ms_124 m1_16 m9_134) hd_X13_readsNeeds ⟨Nat.le_of_ble_eq_true rfl, Nat.le_of_ble_eq_true rfl, rfl, rfl⟩ rfl ho rfl rfl rfl hl.1 rfl rc0 rfl dX13_readsCase_119 ⟨Nat.zero_le _, Nat.zero_le _⟩ (fun H locs hH => ?_)
      refine lv_goto (tgt := 108) hx hb dX13_readsCase_122 (by decide) ?_
      exact ih v1_108 _ _ _ _ hH (lv_sub hl [0, 1] rfl) hf
set_option maxHeartbeats 4000000 in
set_option maxRecDepth 100000 in
theorem k_X13_readsCase (l : Launch) (E : Ev) (K : Kd) (z : Nat) (o : Nat) (w : Wd) (ho : K o = some (11, 0)) {w' : Wd} (hf : f_X13_readsCase K o w = some w') : Met l yX13_readsCase (Cond.code yX13_readsCase cX13_readsCase 2 (Option.none : Option Jvm.ClassFile.FieldType) :: bt) ({ frames := 9, cells := 0, slots := 0, locals := 195 } : Room) (va_Pc [rv E (some o)] (HB E K w z)) (QV E K z w') 0 0 (hA E) := by
  refine Met.ofW (cc := cX13_readsCase) (maxL := 2) (ret := (Option.none : Option Jvm.ClassFile.FieldType)) (by decide) rfl ?_
  intro p e s m args below meth c s₁ B hml hv
  obtain ⟨rfl, hz, hP, hKs, hT, hb0⟩ := hv
  have C : CX p l e s m _ meth c cX13_readsCase 2 RX13 (Option.none : Option Jvm.ClassFile.FieldType) E := ⟨B.exec, B.bytes, hml, findClass_of_methodNamed B.named, fun w h => atoms_spec (ws := Cond.code yX13_readsCase cX13_readsCase 2 (Option.none : Option Jvm.ClassFile.FieldType) :: bt) B.pre w (List.mem_cons_of_mem _ h), hKs, hT, by rw [hz]; exact hb0, B.notSynchronized, B.returns⟩
  have hH : HQ E K z w s s.heap [] := ⟨hP, va_S.rf, hz⟩
  obtain ⟨hx, hb, hml, hown, hts, hKs, hT, hb0, hlocks, hret⟩ := id C
  have hl := lv_entry [rv E (some o)] (n := 2) (by simp [lg_len_nil, lg_len_i, lg_len_j, lg_len_q, lg_len_f, lg_len_d, lg_len_r])
  rw [lg_entry_eq]
  generalize (lg_sl [rv E (some o)] ++ List.replicate (2 - (lg_sl [rv E (some o)]).length) Slot.unset).toArray = ls at hl ⊢
  replace hl : lv_has ls 2 [(0, rv E (some o))] := by simpa only [lv_args, cat_q, cat_i, cat_j, reduceIte, Nat.reduceEqDiff, Nat.reduceAdd, Nat.zero_add] using hl
  generalize s.heap = H at hH ⊢
  unfold f_X13_readsCase at hf
  refine hl_aload_n hx hb dX13_readsCase_0 rfl (lv_at hl 0 rfl) ?_
  refine g13_2 hx hb hts hown hKs hH rfl ho m6_183 dX13_readsCase_1 ?_
  refine lv_iconst (v := 3) hx hb dX13_readsCase_4 (by decide) ?_
  obtain ⟨a1, ha1, hf⟩ := bnd hf
  replace ha1 := cha_some ha1
  obtain ⟨j2, hj2, hf⟩ := bnd hf
  refine hw_iald hx hb hKs hH ha1.1 ha1.2 hj2 dX13_readsCase_5 ?_
  refine lv_istore_n (i := 1) (lv' := [(1, .int ((aI w a1.1 j2))), (0, rv E (some o))]) hx hb dX13_readsCase_6 rfl hl (by decide) rfl (fun ls hl => ?_)
  refine hl_aload_n hx hb dX13_readsCase_7 rfl (lv_at hl 1 rfl) ?_
  refine lv_iload_n hx hb dX13_readsCase_8 rfl (lv_at hl 0 rfl) ?_
  refine lv_bipush (v := 12) hx hb dX13_readsCase_9 (by decide) ?_
  obtain ⟨q3, hq3, hf⟩ := bnd hf
  refine hcV_i hx hb hml hown hts hKs hT hb0 hH (As := [.int ((aI w a1.1 j2)), .int 12]) (rest := []) (k_X13_begins l E K H.size o (aI w a1.1 j2) 12 w ho hq3) (gV m9_62 m9_64 ms_108 m1_16 m9_65) hd_X13_begins ⟨Nat.le_of_ble_eq_true rfl, Nat.le_of_ble_eq_true rfl, rfl, rfl⟩ rfl ho rfl rfl rfl hl.1 rfl rc0 rfl dX13_readsCase_11 ⟨Nat.zero_le _, Nat.zero_le _⟩ (fun H locs hH => ?_)
  refine lv_if_ne (tgt := 18) hx hb dX13_readsCase_14 (by decide) (fun c4 => ?_) (fun c4 => ?_)
  · replace hf := (if_neg c4).symm.trans hf
    refine hl_aload_n hx hb dX13_readsCase_18 rfl (lv_at hl 1 rfl) ?_
    refine hl_aload_n hx hb dX13_readsCase_19 rfl (lv_at hl 1 rfl) ?_
    refine g13_36 hx hb hts hown hKs hH rfl ho m6_217 dX13_readsCase_20 ?_
    refine lv_iload_n hx hb dX13_readsCase_23 rfl (lv_at hl 0 rfl) ?_
    obtain ⟨q5, hq5, hf⟩ := bnd hf
    refine hcV_v hx hb hml hown hts hKs hT hb0 hH (As := [rv E (wR q3.2 1336 o), .int ((aI w a1.1 j2))]) (rest := []) (k_X13_newName l E K H.size o (wR q3.2 1336 o) (aI w a1.1 j2) q3.2 ho hq5) (gV m9_82 m9_84 ms_113 m1_16 m9_85) hd_X13_newName ⟨Nat.le_of_ble_eq_true rfl, Nat.le_of_ble_eq_true rfl, rfl, rfl⟩ rfl ho rfl rfl rfl hl.1 rfl rc0 rfl dX13_readsCase_24 ⟨Nat.zero_le _, Nat.zero_le _⟩ (fun H locs hH => ?_)
    refine hl_aload_n hx hb dX13_readsCase_27 rfl (lv_at hl 1 rfl) ?_
    refine lv_bipush (v := 88) hx hb dX13_readsCase_28 (by decide) ?_
    refine lv_iload_n hx hb dX13_readsCase_30 rfl (lv_at hl 0 rfl) ?_
    refine lv_iadd hx hb dX13_readsCase_31 ?_
    refine hl_aload_n hx hb dX13_readsCase_32 rfl (lv_at hl 1 rfl) ?_
    refine lv_bipush (v := 8) hx hb dX13_readsCase_33 (by decide) ?_
    refine lv_iconst (v := 0) hx hb dX13_readsCase_35 (by decide) ?_
    refine lv_bipush (v := 99) hx hb dX13_readsCase_36 (by decide) ?_
    obtain ⟨q6, hq6, hf⟩ := bnd hf
    refine hcV_i hx hb hml hown hts hKs hT hb0 hH (As := [.int 8, .int 0, .int 99]) (rest := [.int ((88 + (aI w a1.1 j2))), rv E (some o)]) (k_X13_numberBehind l E K H.size o 8 0 99 q5 ho hq6) (gV m9_99 m9_101 ms_116 m1_16 m9_102) hd_X13_numberBehind ⟨Nat.le_of_ble_eq_true rfl, Nat.le_of_ble_eq_true rfl, rfl, rfl⟩ rfl ho rfl rfl rfl hl.1 rfl (rcI (rcV rc0)) rfl dX13_readsCase_38 ⟨Nat.zero_le _, Nat.zero_le _⟩ (fun H locs hH => ?_)
    obtain ⟨q7, hq7, hf⟩ := bnd hf
    refine hcV_v hx hb hml hown hts hKs hT hb0 hH (As := [.int ((88 + (aI w a1.1 j2))), .int (q6.1)]) (rest := []) (k_X13_laysDraft l E K H.size o (88 + (aI w a1.1 j2)) q6.1 q6.2 ho hq7) (gV m9_115 m9_117 ms_120 m1_16 m9_118) hd_X13_laysDraft ⟨Nat.le_of_ble_eq_true rfl, Nat.le_of_ble_eq_true rfl, rfl, rfl⟩ rfl ho rfl rfl rfl hl.1 rfl rc0 rfl dX13_readsCase_41 ⟨Nat.zero_le _, Nat.zero_le _⟩ (fun H locs hH => ?_)
    refine hl_aload_n hx hb dX13_readsCase_44 rfl (lv_at hl 1 rfl) ?_
    refine lv_bipush (v := 100) hx hb dX13_readsCase_45 (by decide) ?_
    refine lv_iload_n hx hb dX13_readsCase_47 rfl (lv_at hl 0 rfl) ?_
    refine lv_iadd hx hb dX13_readsCase_48 ?_
    refine hl_aload_n hx hb dX13_readsCase_49 rfl (lv_at hl 1 rfl) ?_
    refine lv_iconst (v := 2) hx hb dX13_readsCase_50 (by decide) ?_
    refine lv_iconst (v := 1) hx hb dX13_readsCase_51 (by decide) ?_
    refine lv_iconst (v := 4) hx hb dX13_readsCase_52 (by decide) ?_
    obtain ⟨q8, hq8, hf⟩ := bnd hf
    refine hcV_i hx hb hml hown hts hKs hT hb0 hH (As := [.int 2, .int 1, .int 4]) (rest := [.int ((100 + (aI w a1.1 j2))), rv E (some o)]) (k_X13_numberBehind l E K H.size o 2 1 4 q7 ho hq8) (gV m9_99 m9_101 ms_116 m1_16 m9_102) hd_X13_numberBehind ⟨Nat.le_of_ble_eq_true rfl, Nat.le_of_ble_eq_true rfl, rfl, rfl⟩ rfl ho rfl rfl rfl hl.1 rfl (rcI (rcV rc0)) rfl dX13_readsCase_53 ⟨Nat.zero_le _, Nat.zero_le _⟩ (fun H locs hH => ?_)
    obtain ⟨q9, hq9, hf⟩ := bnd hf
    refine hcV_v hx hb hml hown hts hKs hT hb0 hH (As := [.int ((100 + (aI w a1.1 j2))), .int (q8.1)]) (rest := []) (k_X13_laysDraft l E K H.size o (100 + (aI w a1.1 j2)) q8.1 q8.2 ho hq9) (gV m9_115 m9_117 ms_120 m1_16 m9_118) hd_X13_laysDraft ⟨Nat.le_of_ble_eq_true rfl, Nat.le_of_ble_eq_true rfl, rfl, rfl⟩ rfl ho rfl rfl rfl hl.1 rfl rc0 rfl dX13_readsCase_56 ⟨Nat.zero_le _, Nat.zero_le _⟩ (fun H locs hH => ?_)
    refine hl_aload_n hx hb dX13_readsCase_59 rfl (lv_at hl 1 rfl) ?_
    refine lv_bipush (v := 112) hx hb dX13_readsCase_60 (by decide) ?_
    refine lv_iload_n hx hb dX13_readsCase_62 rfl (lv_at hl 0 rfl) ?_
    refine lv_iadd hx hb dX13_readsCase_63 ?_
    refine hl_aload_n hx hb dX13_readsCase_64 rfl (lv_at hl 1 rfl) ?_
    refine lv_bipush (v := 9) hx hb dX13_readsCase_65 (by decide) ?_
    refine lv_iconst (v := 1) hx hb dX13_readsCase_67 (by decide) ?_
    refine lv_bipush (v := 60) hx hb dX13_readsCase_68 (by decide) ?_
    obtain ⟨q10, hq10, hf⟩ := bnd hf
    refine hcV_i hx hb hml hown hts hKs hT hb0 hH (As := [.int 9, .int 1, .int 60]) (rest := [.int ((112 + (aI w a1.1 j2))), rv E (some o)]) (k_X13_numberBehind l E K H.size o 9 1 60 q9 ho hq10) (gV m9_99 m9_101 ms_116 m1_16 m9_102) hd_X13_numberBehind ⟨Nat.le_of_ble_eq_true rfl, Nat.le_of_ble_eq_true rfl, rfl, rfl⟩ rfl ho rfl rfl rfl hl.1 rfl (rcI (rcV rc0)) rfl dX13_readsCase_70 ⟨Nat.zero_le _, Nat.zero_le _⟩ (fun H locs hH => ?_)
    obtain ⟨q11, hq11, hf⟩ := bnd hf
    refine hcV_v hx hb hml hown hts hKs hT hb0 hH (As := [.int ((112 + (aI w a1.1 j2))), .int (q10.1)]) (rest := []) (k_X13_laysDraft l E K H.size o (112 + (aI w a1.1 j2)) q10.1 q10.2 ho hq11) (gV m9_115 m9_117 ms_120 m1_16 m9_118) hd_X13_laysDraft ⟨Nat.le_of_ble_eq_true rfl, Nat.le_of_ble_eq_true rfl, rfl, rfl⟩ rfl ho rfl rfl rfl hl.1 rfl rc0 rfl dX13_readsCase_73 ⟨Nat.zero_le _, Nat.zero_le _⟩ (fun H locs hH => ?_)
    refine hl_aload_n hx hb dX13_readsCase_76 rfl (lv_at hl 1 rfl) ?_
    refine lv_bipush (v := 124) hx hb dX13_readsCase_77 (by decide) ?_
    refine lv_iload_n hx hb dX13_readsCase_79 rfl (lv_at hl 0 rfl) ?_
    refine lv_iadd hx hb dX13_readsCase_80 ?_
    refine hl_aload_n hx hb dX13_readsCase_81 rfl (lv_at hl 1 rfl) ?_
    refine lv_bipush (v := 10) hx hb dX13_readsCase_82 (by decide) ?_
    obtain ⟨q12, hq12, hf⟩ := bnd hf
    refine hcV_i hx hb hml hown hts hKs hT hb0 hH (As := [.int 10]) (rest := [.int ((124 + (aI w a1.1 j2))), rv E (some o)]) (k_X13_takes l E K H.size o 10 q11 ho hq12) (gV m9_107 m9_109 ms_118 m1_16 m9_110) hd_X13_takes ⟨Nat.le_of_ble_eq_true rfl, Nat.le_of_ble_eq_true rfl, rfl, rfl⟩ rfl ho rfl rfl rfl hl.1 rfl (rcI (rcV rc0)) rfl dX13_readsCase_84 ⟨Nat.zero_le _, Nat.zero_le _⟩ (fun H locs hH => ?_)
    refine lv_if_eq (tgt := 94) hx hb dX13_readsCase_87 (by decide) (fun c13 => ?_) (fun c13 => ?_)
    · replace hf := (if_pos c13).symm.trans hf
      refine lv_iconst (v := 0) hx hb dX13_readsCase_94 (by decide) ?_
      obtain ⟨q14, hq14, hf⟩ := bnd hf
      refine hcV_v hx hb hml hown hts hKs hT hb0 hH (As := [.int ((124 + (aI w a1.1 j2))), .int 0]) (rest := []) (k_X13_laysDraft l E K H.size o (124 + (aI w a1.1 j2)) 0 q12.2 ho hq14) (gV m9_115 m9_117 ms_120 m1_16 m9_118) hd_X13_laysDraft ⟨Nat.le_of_ble_eq_true rfl, Nat.le_of_ble_eq_true rfl, rfl, rfl⟩ rfl ho rfl rfl rfl hl.1 rfl rc0 rfl dX13_readsCase_95 ⟨Nat.zero_le _, Nat.zero_le _⟩ (fun H locs hH => ?_)
      refine hl_aload_n hx hb dX13_readsCase_98 rfl (lv_at hl 1 rfl) ?_
      refine lv_sipush (v := 136) hx hb dX13_readsCase_99 (by decide) ?_
      refine lv_iload_n hx hb dX13_readsCase_102 rfl (lv_at hl 0 rfl) ?_
      refine lv_iadd hx hb dX13_readsCase_103 ?_
      refine lv_iconst (v := 0) hx hb dX13_readsCase_104 (by decide) ?_
      obtain ⟨q15, hq15, hf⟩ := bnd hf
      refine hcV_v hx hb hml hown hts hKs hT hb0 hH (As := [.int ((136 + (aI w a1.1 j2))), .int 0]) (rest := []) (k_X13_laysDraft l E K H.size o (136 + (aI w a1.1 j2)) 0 q14 ho hq15) (gV m9_115 m9_117 ms_120 m1_16 m9_118) hd_X13_laysDraft ⟨Nat.le_of_ble_eq_true rfl, Nat.le_of_ble_eq_true rfl, rfl, rfl⟩ rfl ho rfl rfl rfl hl.1 rfl rc0 rfl dX13_readsCase_105 ⟨Nat.zero_le _, Nat.zero_le _⟩ (fun H locs hH => ?_)
      refine l_X13_readsCase_L108  C ho _ (fun v1_108 w16 H locs ls hH hl hf => ?_) fu (aI w a1.1 j2) q15 _ _ _ hH (lv_sub hl [0, 1] rfl) hf
      refine hl_aload_n hx hb dX13_readsCase_125 rfl (lv_at hl 1 rfl) ?_
      refine lv_iconst (v := 3) hx hb dX13_readsCase_126 (by decide) ?_
      refine lv_iload_n hx hb dX13_readsCase_127 rfl (lv_at hl 0 rfl) ?_
      refine lv_iconst (v := 1) hx hb dX13_readsCase_128 (by decide) ?_
      refine lv_iadd hx hb dX13_readsCase_129 ?_
      obtain ⟨q20, hq20, hf⟩ := bnd hf
      refine hcV_v hx hb hml hown hts hKs hT hb0 hH (As := [.int 3, .int ((v1_108 + 1))]) (rest := []) (k_X13_laysDraft l E K H.size o 3 (v1_108 + 1) w16 ho hq20) (gV m9_115 m9_117 ms_120 m1_16 m9_118) hd_X13_laysDraft ⟨Nat.le_of_ble_eq_true rfl, Nat.le_of_ble_eq_true rfl, rfl, rfl⟩ rfl ho rfl rfl rfl hl.1 rfl rc0 rfl dX13_readsCase_130 ⟨Nat.zero_le _, Nat.zero_le _⟩ (fun H locs hH => ?_)
      exact hw_vret hx hb hret hf hH hlocks dX13_readsCase_133
    · replace hf := (if_neg c13).symm.trans hf
      refine lv_iconst (v := 1) hx hb dX13_readsCase_90 (by decide) ?_
      refine lv_goto (tgt := 95) hx hb dX13_readsCase_91 (by decide) ?_
      obtain ⟨q21, hq21, hf⟩ := bnd hf
      refine hcV_v hx hb hml hown hts hKs hT hb0 hH (As := [.int ((124 + (aI w a1.1 j2))), .int 1]) (rest := []) (k_X13_laysDraft l E K H.size o (124 + (aI w a1.1 j2)) 1 q12.2 ho hq21) (gV m9_115 m9_117 ms_120 m1_16 m9_118) hd_X13_laysDraft ⟨Nat.le_of_ble_eq_true rfl, Nat.le_of_ble_eq_true rfl, rfl, rfl⟩ rfl ho rfl rfl rfl hl.1 rfl rc0 rfl dX13_readsCase_95 ⟨Nat.zero_le _, Nat.zero_le _⟩ (fun H locs hH => ?_)
      refine hl_aload_n hx hb dX13_readsCase_98 rfl (lv_at hl 1 rfl) ?_
      refine lv_sipush (v := 136) hx hb dX13_readsCase_99 (by decide) ?_
      refine lv_iload_n hx hb dX13_readsCase_102 rfl (lv_at hl 0 rfl) ?_
      refine lv_iadd hx hb dX13_readsCase_103 ?_
      refine lv_iconst (v := 0) hx hb dX13_readsCase_104 (by decide) ?_
      obtain ⟨q22, hq22, hf⟩ := bnd hf
      refine hcV_v hx hb hml hown hts hKs hT hb0 hH (As := [.int ((136 + (aI w a1.1 j2))), .int 0]) (rest := []) (k_X13_laysDraft l E K H.size o (136 + (aI w a1.1 j2)) 0 q21 ho hq22) (gV m9_115 m9_117 ms_120 m1_16 m9_118) hd_X13_laysDraft ⟨Nat.le_of_ble_eq_true rfl, Nat.le_of_ble_eq_true rfl, rfl, rfl⟩ rfl ho rfl rfl rfl hl.1 rfl rc0 rfl dX13_readsCase_105 ⟨Nat.zero_le _, Nat.zero_le _⟩ (fun H locs hH => ?_)
      refine l_X13_readsCase_L108  C ho _ (fun v1_108 w23 H locs ls hH hl hf => ?_) fu (aI w a1.1 j2) q22 _ _ _ hH (lv_sub hl [0, 1] rfl) hf
      refine hl_aload_n hx hb dX13_readsCase_125 rfl (lv_at hl 1 rfl) ?_
      refine lv_iconst (v := 3) hx hb dX13_readsCase_126 (by decide) ?_
      refine lv_iload_n hx hb dX13_readsCase_127 rfl (lv_at hl 0 rfl) ?_
      refine lv_iconst (v := 1) hx hb dX13_readsCase_128 (by decide) ?_
      refine lv_iadd hx hb dX13_readsCase_129 ?_
      obtain ⟨q24, hq24, hf⟩ := bnd hf
      refine hcV_v hx hb hml hown hts hKs hT hb0 hH (As := [.int 3, .int ((v1_108 + 1))]) (rest := []) (k_X13_laysDraft l E K H.size o 3 (v1_108 + 1) w23 ho hq24) (gV m9_115 m9_117 ms_120 m1_16 m9_118) hd_X13_laysDraft ⟨Nat.le_of_ble_eq_true rfl, Nat.le_of_ble_eq_true rfl, rfl, rfl⟩ rfl ho rfl rfl rfl hl.1 rfl rc0 rfl dX13_readsCase_130 ⟨Nat.zero_le _, Nat.zero_le _⟩ (fun H locs hH => ?_)
      exact hw_vret hx hb hret hf hH hlocks dX13_readsCase_133
  · replace hf := (if_pos c4).symm.trans hf
    exact hw_vret hx hb hret hf hH hlocks dX13_readsCase_17

theorem dX13_readsBar_0 : decode cX13_readsBar 0 = .ok (.aload_n 0, 1) := by decide +kernel
theorem dX13_readsBar_1 : decode cX13_readsBar 1 = .ok (.invokevirtual 399, 3) := by decide +kernel
theorem dX13_readsBar_4 : decode cX13_readsBar 4 = .ok (.aload_n 0, 1) := by decide +kernel
theorem dX13_readsBar_5 : decode cX13_readsBar 5 = .ok (.aload_n 0, 1) := by decide +kernel
theorem dX13_readsBar_6 : decode cX13_readsBar 6 = .ok (.getfield 71, 3) := by decide +kernel
theorem dX13_readsBar_9 : decode cX13_readsBar 9 = .ok (.aload_n 0, 1) := by decide +kernel
theorem dX13_readsBar_10 : decode cX13_readsBar 10 = .ok (.getfield 13, 3) := by decide +kernel
theorem dX13_readsBar_13 : decode cX13_readsBar 13 = .ok (.iconst 1, 1) := by decide +kernel
theorem dX13_readsBar_14 : decode cX13_readsBar 14 = .ok (.iaload, 1) := by decide +kernel
theorem dX13_readsBar_15 : decode cX13_readsBar 15 = .ok (.invokevirtual 437, 3) := by decide +kernel
theorem dX13_readsBar_18 : decode cX13_readsBar 18 = .ok (.istore_n 1, 1) := by decide +kernel
theorem dX13_readsBar_19 : decode cX13_readsBar 19 = .ok (.aload_n 0, 1) := by decide +kernel
theorem dX13_readsBar_20 : decode cX13_readsBar 20 = .ok (.invokevirtual 399, 3) := by decide +kernel
theorem dX13_readsBar_23 : decode cX13_readsBar 23 = .ok (.aload_n 0, 1) := by decide +kernel
theorem dX13_readsBar_24 : decode cX13_readsBar 24 = .ok (.aload_n 0, 1) := by decide +kernel
theorem dX13_readsBar_25 : decode cX13_readsBar 25 = .ok (.getfield 77, 3) := by decide +kernel
theorem dX13_readsBar_28 : decode cX13_readsBar 28 = .ok (.aload_n 0, 1) := by decide +kernel
theorem dX13_readsBar_29 : decode cX13_readsBar 29 = .ok (.getfield 13, 3) := by decide +kernel
theorem dX13_readsBar_32 : decode cX13_readsBar 32 = .ok (.iconst 3, 1) := by decide +kernel
theorem dX13_readsBar_33 : decode cX13_readsBar 33 = .ok (.iaload, 1) := by decide +kernel
theorem dX13_readsBar_34 : decode cX13_readsBar 34 = .ok (.invokevirtual 437, 3) := by decide +kernel
theorem dX13_readsBar_37 : decode cX13_readsBar 37 = .ok (.istore_n 2, 1) := by decide +kernel
theorem dX13_readsBar_38 : decode cX13_readsBar 38 = .ok (.aload_n 0, 1) := by decide +kernel
theorem dX13_readsBar_39 : decode cX13_readsBar 39 = .ok (.invokevirtual 379, 3) := by decide +kernel
theorem dX13_readsBar_42 : decode cX13_readsBar 42 = .ok (.ifCond .eq 29, 3) := by decide +kernel
theorem dX13_readsBar_45 : decode cX13_readsBar 45 = .ok (.aload_n 0, 1) := by decide +kernel
theorem dX13_readsBar_46 : decode cX13_readsBar 46 = .ok (.aload_n 0, 1) := by decide +kernel
theorem dX13_readsBar_47 : decode cX13_readsBar 47 = .ok (.getfield 19, 3) := by decide +kernel
theorem dX13_readsBar_50 : decode cX13_readsBar 50 = .ok (.bipush 34, 2) := by decide +kernel
theorem dX13_readsBar_52 : decode cX13_readsBar 52 = .ok (.iload_n 2, 1) := by decide +kernel
theorem dX13_readsBar_53 : decode cX13_readsBar 53 = .ok (.iadd, 1) := by decide +kernel
theorem dX13_readsBar_54 : decode cX13_readsBar 54 = .ok (.iaload, 1) := by decide +kernel
theorem dX13_readsBar_55 : decode cX13_readsBar 55 = .ok (.iload_n 1, 1) := by decide +kernel
theorem dX13_readsBar_56 : decode cX13_readsBar 56 = .ok (.invokestatic 167, 3) := by decide +kernel
theorem dX13_readsBar_59 : decode cX13_readsBar 59 = .ok (.ifCond .ne 7, 3) := by decide +kernel
theorem dX13_readsBar_62 : decode cX13_readsBar 62 = .ok (.iconst 1, 1) := by decide +kernel
theorem dX13_readsBar_63 : decode cX13_readsBar 63 = .ok (.goto 4, 3) := by decide +kernel
theorem dX13_readsBar_66 : decode cX13_readsBar 66 = .ok (.iconst 0, 1) := by decide +kernel
theorem dX13_readsBar_67 : decode cX13_readsBar 67 = .ok (.iconst 3, 1) := by decide +kernel
theorem dX13_readsBar_68 : decode cX13_readsBar 68 = .ok (.invokevirtual 392, 3) := by decide +kernel
theorem dX13_readsBar_71 : decode cX13_readsBar 71 = .ok (.aload_n 0, 1) := by decide +kernel
theorem dX13_readsBar_72 : decode cX13_readsBar 72 = .ok (.invokevirtual 399, 3) := by decide +kernel
theorem dX13_readsBar_75 : decode cX13_readsBar 75 = .ok (.aload_n 0, 1) := by decide +kernel
theorem dX13_readsBar_76 : decode cX13_readsBar 76 = .ok (.invokevirtual 379, 3) := by decide +kernel
theorem dX13_readsBar_79 : decode cX13_readsBar 79 = .ok (.ifCond .eq 25, 3) := by decide +kernel
theorem dX13_readsBar_82 : decode cX13_readsBar 82 = .ok (.aload_n 0, 1) := by decide +kernel
theorem dX13_readsBar_83 : decode cX13_readsBar 83 = .ok (.getfield 19, 3) := by decide +kernel
theorem dX13_readsBar_86 : decode cX13_readsBar 86 = .ok (.bipush 34, 2) := by decide +kernel
theorem dX13_readsBar_88 : decode cX13_readsBar 88 = .ok (.iload_n 2, 1) := by decide +kernel
theorem dX13_readsBar_89 : decode cX13_readsBar 89 = .ok (.iadd, 1) := by decide +kernel
theorem dX13_readsBar_90 : decode cX13_readsBar 90 = .ok (.aload_n 0, 1) := by decide +kernel
theorem dX13_readsBar_91 : decode cX13_readsBar 91 = .ok (.getfield 19, 3) := by decide +kernel
theorem dX13_readsBar_94 : decode cX13_readsBar 94 = .ok (.bipush 34, 2) := by decide +kernel
theorem dX13_readsBar_96 : decode cX13_readsBar 96 = .ok (.iload_n 2, 1) := by decide +kernel
theorem dX13_readsBar_97 : decode cX13_readsBar 97 = .ok (.iadd, 1) := by decide +kernel
theorem dX13_readsBar_98 : decode cX13_readsBar 98 = .ok (.iaload, 1) := by decide +kernel
theorem dX13_readsBar_99 : decode cX13_readsBar 99 = .ok (.iconst 1, 1) := by decide +kernel
theorem dX13_readsBar_100 : decode cX13_readsBar 100 = .ok (.iload_n 1, 1) := by decide +kernel
theorem dX13_readsBar_101 : decode cX13_readsBar 101 = .ok (.ishl, 1) := by decide +kernel
theorem dX13_readsBar_102 : decode cX13_readsBar 102 = .ok (.ior, 1) := by decide +kernel
theorem dX13_readsBar_103 : decode cX13_readsBar 103 = .ok (.iastore, 1) := by decide +kernel
theorem dX13_readsBar_104 : decode cX13_readsBar 104 = .ok (.return_, 1) := by decide +kernel
theorem hd_X13_readsBar : yX13_readsBar.cls = RX13 ∧ yX13_readsBar.cls ≠ "java/lang/invoke/MethodHandle" ∧ yX13_readsBar.cls ≠ "java/lang/invoke/VarHandle" ∧ (parseMethodDescriptor yX13_readsBar.desc).map (fun d => d.parameters.length) = some 0 := by decide +kernel
theorem hs_X13_readsBar : yX13_readsBar.cls ≠ "java/lang/invoke/MethodHandle" ∧ yX13_readsBar.cls ≠ "java/lang/invoke/VarHandle" ∧ (parseMethodDescriptor yX13_readsBar.desc).map (fun d => d.parameters.length) = some 0 := by decide +kernel
set_option maxHeartbeats 4000000 in
set_option maxRecDepth 100000 in
theorem k_X13_readsBar (l : Launch) (E : Ev) (K : Kd) (z : Nat) (o : Nat) (w : Wd) (ho : K o = some (11, 0)) {w' : Wd} (hf : f_X13_readsBar K o w = some w') : Met l yX13_readsBar (Cond.code yX13_readsBar cX13_readsBar 3 (Option.none : Option Jvm.ClassFile.FieldType) :: bt) ({ frames := 7, cells := 0, slots := 0, locals := 149 } : Room) (va_Pc [rv E (some o)] (HB E K w z)) (QV E K z w') 0 0 (hA E) := by
  refine Met.ofW (cc := cX13_readsBar) (maxL := 3) (ret := (Option.none : Option Jvm.ClassFile.FieldType)) (by decide) rfl ?_
  intro p e s m args below meth c s₁ B hml hv
  obtain ⟨rfl, hz, hP, hKs, hT, hb0⟩ := hv
  have C : CX p l e s m _ meth c cX13_readsBar 3 RX13 (Option.none : Option Jvm.ClassFile.FieldType) E := ⟨B.exec, B.bytes, hml, findClass_of_methodNamed B.named, fun w h => atoms_spec (ws := Cond.code yX13_readsBar cX13_readsBar 3 (Option.none : Option Jvm.ClassFile.FieldType) :: bt) B.pre w (List.mem_cons_of_mem _ h), hKs, hT, by rw [hz]; exact hb0, B.notSynchronized, B.returns⟩
  have hH : HQ E K z w s s.heap [] := ⟨hP, va_S.rf, hz⟩
  obtain ⟨hx, hb, hml, hown, hts, hKs, hT, hb0, hlocks, hret⟩ := id C
  have hl := lv_entry [rv E (some o)] (n := 3) (by simp [lg_len_nil, lg_len_i, lg_len_j, lg_len_q, lg_len_f, lg_len_d, lg_len_r])
  rw [lg_entry_eq]
  generalize (lg_sl [rv E (some o)] ++ List.replicate (3 - (lg_sl [rv E (some o)]).length) Slot.unset).toArray = ls at hl ⊢
  replace hl : lv_has ls 3 [(0, rv E (some o))] := by simpa only [lv_args, cat_q, cat_i, cat_j, reduceIte, Nat.reduceEqDiff, Nat.reduceAdd, Nat.zero_add] using hl
  generalize s.heap = H at hH ⊢
  unfold f_X13_readsBar at hf
  refine hl_aload_n hx hb dX13_readsBar_0 rfl (lv_at hl 0 rfl) ?_
  obtain ⟨q1, hq1, hf⟩ := bnd hf
  refine hcV_v hx hb hml hown hts hKs hT hb0 hH (As := []) (rest := []) (k_X13_goOn l E K H.size o w ho hq1) (gV m9_70 m9_72 ms_110 m1_16 m9_73) hd_X13_goOn ⟨Nat.le_of_ble_eq_true rfl, Nat.le_of_ble_eq_true rfl, rfl, rfl⟩ rfl ho rfl rfl rfl hl.1 rfl rc0 rfl dX13_readsBar_1 ⟨Nat.zero_le _, Nat.zero_le _⟩ (fun H locs hH => ?_)
  refine hl_aload_n hx hb dX13_readsBar_4 rfl (lv_at hl 0 rfl) ?_
  refine hl_aload_n hx hb dX13_readsBar_5 rfl (lv_at hl 0 rfl) ?_
  refine g13_34 hx hb hts hown hKs hH rfl ho m6_215 dX13_readsBar_6 ?_
  refine hl_aload_n hx hb dX13_readsBar_9 rfl (lv_at hl 0 rfl) ?_
  refine g13_2 hx hb hts hown hKs hH rfl ho m6_183 dX13_readsBar_10 ?_
  refine lv_iconst (v := 1) hx hb dX13_readsBar_13 (by decide) ?_
  obtain ⟨a2, ha2, hf⟩ := bnd hf
  replace ha2 := cha_some ha2
  obtain ⟨j3, hj3, hf⟩ := bnd hf
  refine hw_iald hx hb hKs hH ha2.1 ha2.2 hj3 dX13_readsBar_14 ?_
  obtain ⟨q4, hq4, hf⟩ := bnd hf
  refine hcV_i hx hb hml hown hts hKs hT hb0 hH (As := [rv E (wR q1 1334 o), .int ((aI q1 a2.1 j3))]) (rest := []) (k_X13_known l E K H.size o (wR q1 1334 o) (aI q1 a2.1 j3) q1 ho hq4) (gV m9_135 m9_137 ms_125 m1_16 m9_138) hd_X13_known ⟨Nat.le_of_ble_eq_true rfl, Nat.le_of_ble_eq_true rfl, rfl, rfl⟩ rfl ho rfl rfl rfl hl.1 rfl rc0 rfl dX13_readsBar_15 ⟨Nat.zero_le _, Nat.zero_le _⟩ (fun H locs hH => ?_)
  refine lv_istore_n (i := 1) (lv' := [(1, .int (q4.1)), (0, rv E (some o))]) hx hb dX13_readsBar_18 rfl hl (by decide) rfl (fun ls hl => ?_)
  refine hl_aload_n hx hb dX13_readsBar_19 rfl (lv_at hl 1 rfl) ?_
  obtain ⟨q5, hq5, hf⟩ := bnd hf
  refine hcV_v hx hb hml hown hts hKs hT hb0 hH (As := []) (rest := []) (k_X13_goOn l E K H.size o q4.2 ho hq5) (gV m9_70 m9_72 ms_110 m1_16 m9_73) hd_X13_goOn ⟨Nat.le_of_ble_eq_true rfl, Nat.le_of_ble_eq_true rfl, rfl, rfl⟩ rfl ho rfl rfl rfl hl.1 rfl rc0 rfl dX13_readsBar_20 ⟨Nat.zero_le _, Nat.zero_le _⟩ (fun H locs hH => ?_)
  refine hl_aload_n hx hb dX13_readsBar_23 rfl (lv_at hl 1 rfl) ?_
  refine hl_aload_n hx hb dX13_readsBar_24 rfl (lv_at hl 1 rfl) ?_
  refine g13_36 hx hb hts hown hKs hH rfl ho m6_217 dX13_readsBar_25 ?_
  refine hl_aload_n hx hb dX13_readsBar_28 rfl (lv_at hl 1 rfl) ?_
  refine g13_2 hx hb hts hown hKs hH rfl ho m6_183 dX13_readsBar_29 ?_
  refine lv_iconst (v := 3) hx hb dX13_readsBar_32 (by decide) ?_
  obtain ⟨a6, ha6, hf⟩ := bnd hf
  replace ha6 := cha_some ha6
  obtain ⟨j7, hj7, hf⟩ := bnd hf
  refine hw_iald hx hb hKs hH ha6.1 ha6.2 hj7 dX13_readsBar_33 ?_
  obtain ⟨q8, hq8, hf⟩ := bnd hf
  refine hcV_i hx hb hml hown hts hKs hT hb0 hH (As := [rv E (wR q5 1336 o), .int ((aI q5 a6.1 j7))]) (rest := []) (k_X13_known l E K H.size o (wR q5 1336 o) (aI q5 a6.1 j7) q5 ho hq8) (gV m9_135 m9_137 ms_125 m1_16 m9_138) hd_X13_known ⟨Nat.le_of_ble_eq_true rfl, Nat.le_of_ble_eq_true rfl, rfl, rfl⟩ rfl ho rfl rfl rfl hl.1 rfl rc0 rfl dX13_readsBar_34 ⟨Nat.zero_le _, Nat.zero_le _⟩ (fun H locs hH => ?_)
  refine lv_istore_n (i := 2) (lv' := [(2, .int (q8.1)), (1, .int (q4.1)), (0, rv E (some o))]) hx hb dX13_readsBar_37 rfl hl (by decide) rfl (fun ls hl => ?_)
  refine hl_aload_n hx hb dX13_readsBar_38 rfl (lv_at hl 2 rfl) ?_
  obtain ⟨q9, hq9, hf⟩ := bnd hf
  refine hcV_i hx hb hml hown hts hKs hT hb0 hH (As := []) (rest := []) (k_X13_fine l E K H.size o q8.2 ho hq9) (gV m9_46 m9_48 ms_104 m1_16 m9_49) hd_X13_fine ⟨Nat.le_of_ble_eq_true rfl, Nat.le_of_ble_eq_true rfl, rfl, rfl⟩ rfl ho rfl rfl rfl hl.1 rfl rc0 rfl dX13_readsBar_39 ⟨Nat.zero_le _, Nat.zero_le _⟩ (fun H locs hH => ?_)
  refine lv_if_eq (tgt := 71) hx hb dX13_readsBar_42 (by decide) (fun c10 => ?_) (fun c10 => ?_)
  · replace hf := (if_pos c10).symm.trans hf
    refine hl_aload_n hx hb dX13_readsBar_71 rfl (lv_at hl 2 rfl) ?_
    obtain ⟨q11, hq11, hf⟩ := bnd hf
    refine hcV_v hx hb hml hown hts hKs hT hb0 hH (As := []) (rest := []) (k_X13_goOn l E K H.size o q9.2 ho hq11) (gV m9_70 m9_72 ms_110 m1_16 m9_73) hd_X13_goOn ⟨Nat.le_of_ble_eq_true rfl, Nat.le_of_ble_eq_true rfl, rfl, rfl⟩ rfl ho rfl rfl rfl hl.1 rfl rc0 rfl dX13_readsBar_72 ⟨Nat.zero_le _, Nat.zero_le _⟩ (fun H locs hH => ?_)
    refine hl_aload_n hx hb dX13_readsBar_75 rfl (lv_at hl 2 rfl) ?_
    obtain ⟨q12, hq12, hf⟩ := bnd hf
    refine hcV_i hx hb hml hown hts hKs hT hb0 hH (As := []) (rest := []) (k_X13_fine l E K H.size o q11 ho hq12) (gV m9_46 m9_48 ms_104 m1_16 m9_49) hd_X13_fine ⟨Nat.le_of_ble_eq_true rfl, Nat.le_of_ble_eq_true rfl, rfl, rfl⟩ rfl ho rfl rfl rfl hl.1 rfl rc0 rfl dX13_readsBar_76 ⟨Nat.zero_le _, Nat.zero_le _⟩ (fun H locs hH => ?_)
    refine lv_if_eq (tgt := 104) hx hb dX13_readsBar_79 (by decide) (fun c13 => ?_) (fun c13 => ?_)
    · replace hf := (if_pos c13).symm.trans hf
      exact hw_vret hx hb hret hf hH hlocks dX13_readsBar_104
    · replace hf := (if_neg c13).symm.trans hf
      refine hl_aload_n hx hb dX13_readsBar_82 rfl (lv_at hl 2 rfl) ?_
      refine g13_4 hx hb hts hown hKs hH rfl ho m6_185 dX13_readsBar_83 ?_
      refine lv_bipush (v := 34) hx hb dX13_readsBar_86 (by decide) ?_
      refine lv_iload_n hx hb dX13_readsBar_88 rfl (lv_at hl 0 rfl) ?_
      refine lv_iadd hx hb dX13_readsBar_89 ?_
      refine hl_aload_n hx hb dX13_readsBar_90 rfl (lv_at hl 2 rfl) ?_
      refine g13_4 hx hb hts hown hKs hH rfl ho m6_185 dX13_readsBar_91 ?_
      refine lv_bipush (v := 34) hx hb dX13_readsBar_94 (by decide) ?_
      refine lv_iload_n hx hb dX13_readsBar_96 rfl (lv_at hl 0 rfl) ?_
      refine lv_iadd hx hb dX13_readsBar_97 ?_
      obtain ⟨a14, ha14, hf⟩ := bnd hf
      replace ha14 := cha_some ha14
      obtain ⟨j15, hj15, hf⟩ := bnd hf
      refine hw_iald hx hb hKs hH ha14.1 ha14.2 hj15 dX13_readsBar_98 ?_
      refine lv_iconst (v := 1) hx hb dX13_readsBar_99 (by decide) ?_
      refine lv_iload_n hx hb dX13_readsBar_100 rfl (lv_at hl 1 rfl) ?_
      refine lv_ishl hx hb dX13_readsBar_101 ?_
      refine lv_ior hx hb dX13_readsBar_102 ?_
      obtain ⟨j16, hj16, hf⟩ := bnd hf
      obtain ⟨w17, hw17, hf⟩ := bnd hf
      replace hw17 := Option.some.inj hw17
      refine hw_iast (x := ((aI q12.2 a14.1 j15) ||| (1 <<< (q4.1 &&& 31)))) hx hb hKs hH ha14.1 ha14.2 hj16 dX13_readsBar_103 (fun H locs hH => ?_)
      rw [hw17] at hH
      exact hw_vret hx hb hret hf hH hlocks dX13_readsBar_104
  · replace hf := (if_neg c10).symm.trans hf
    refine hl_aload_n hx hb dX13_readsBar_45 rfl (lv_at hl 2 rfl) ?_
    refine hl_aload_n hx hb dX13_readsBar_46 rfl (lv_at hl 2 rfl) ?_
    refine g13_4 hx hb hts hown hKs hH rfl ho m6_185 dX13_readsBar_47 ?_
    refine lv_bipush (v := 34) hx hb dX13_readsBar_50 (by decide) ?_
    refine lv_iload_n hx hb dX13_readsBar_52 rfl (lv_at hl 0 rfl) ?_
    refine lv_iadd hx hb dX13_readsBar_53 ?_
    obtain ⟨a18, ha18, hf⟩ := bnd hf
    replace ha18 := cha_some ha18
    obtain ⟨j19, hj19, hf⟩ := bnd hf
    refine hw_iald hx hb hKs hH ha18.1 ha18.2 hj19 dX13_readsBar_54 ?_
    refine lv_iload_n hx hb dX13_readsBar_55 rfl (lv_at hl 1 rfl) ?_
    obtain ⟨q20, hq20, hf⟩ := bnd hf
    refine hcS_i hx hb hml hown hts hKs hT hb0 hH (As := [.int ((aI q9.2 a18.1 j19)), .int (q4.1)]) (rest := [rv E (some o)]) (k_X13_has l E K H.size (aI q9.2 a18.1 j19) q4.1 q9.2 hq20) (gS m7_223 m7_224 m1_16 m7_225) hs_X13_has ⟨Nat.le_of_ble_eq_true rfl, Nat.le_of_ble_eq_true rfl, rfl, rfl⟩ hl.1 rfl (rcV rc0) rfl dX13_readsBar_56 ⟨Nat.zero_le _, Nat.zero_le _⟩ (fun H locs hH => ?_)
    refine lv_if_ne (tgt := 66) hx hb dX13_readsBar_59 (by decide) (fun c21 => ?_) (fun c21 => ?_)
    · replace hf := (if_neg c21).symm.trans hf
      refine lv_iconst (v := 0) hx hb dX13_readsBar_66 (by decide) ?_
      refine lv_iconst (v := 3) hx hb dX13_readsBar_67 (by decide) ?_
      obtain ⟨q22, hq22, hf⟩ := bnd hf
      refine hcV_v hx hb hml hown hts hKs hT hb0 hH (As := [.int 0, .int 3]) (rest := []) (k_X13_needs l E K H.size o false 3 q20.2 ho hq22) (gV m9_66 m9_68 ms_109 m1_16 m9_69) hd_X13_needs ⟨Nat.le_of_ble_eq_true rfl, Nat.le_of_ble_eq_true rfl, rfl, rfl⟩ rfl ho rfl rfl rfl hl.1 rfl rc0 rfl dX13_readsBar_68 ⟨Nat.zero_le _, Nat.zero_le _⟩ (fun H locs hH => ?_)
      refine hl_aload_n hx hb dX13_readsBar_71 rfl (lv_at hl 2 rfl) ?_
      obtain ⟨q23, hq23, hf⟩ := bnd hf
      refine hcV_v hx hb hml hown hts hKs hT hb0 hH (As := []) (rest := []) (k_X13_goOn l E K H.size o q22 ho hq23) (gV m9_70 m9_72 ms_110 m1_16 m9_73) hd_X13_goOn ⟨Nat.le_of_ble_eq_true rfl, Nat.le_of_ble_eq_true rfl, rfl, rfl⟩ rfl ho rfl rfl rfl hl.1 rfl rc0 rfl dX13_readsBar_72 ⟨Nat.zero_le _, Nat.zero_le _⟩ (fun H locs hH => ?_)
      refine hl_aload_n hx hb dX13_readsBar_75 rfl (lv_at hl 2 rfl) ?_
      obtain ⟨q24, hq24, hf⟩ := bnd hf
      refine hcV_i hx hb hml hown hts hKs hT hb0 hH (As := []) (rest := []) (k_X13_fine l E K H.size o q23 ho hq24) (gV m9_46 m9_48 ms_104 m1_16 m9_49) hd_X13_fine ⟨Nat.le_of_ble_eq_true rfl, Nat.le_of_ble_eq_true rfl, rfl, rfl⟩ rfl ho rfl rfl rfl hl.1 rfl rc0 rfl dX13_readsBar_76 ⟨Nat.zero_le _, Nat.zero_le _⟩ (fun H locs hH => ?_)
      refine lv_if_eq (tgt := 104) hx hb dX13_readsBar_79 (by decide) (fun c25 => ?_) (fun c25 => ?_)
      · replace hf := (if_pos c25).symm.trans hf
        exact hw_vret hx hb hret hf hH hlocks dX13_readsBar_104
      · replace hf := (if_neg c25).symm.trans hf
        refine hl_aload_n hx hb dX13_readsBar_82 rfl (lv_at hl 2 rfl) ?_
        refine g13_4 hx hb hts hown hKs hH rfl ho m6_185 dX13_readsBar_83 ?_
        refine lv_bipush (v := 34) hx hb dX13_readsBar_86 (by decide) ?_
        refine lv_iload_n hx hb dX13_readsBar_88 rfl (lv_at hl 0 rfl) ?_
        refine lv_iadd hx hb dX13_readsBar_89 ?_
        refine hl_aload_n hx hb dX13_readsBar_90 rfl (lv_at hl 2 rfl) ?_
        refine g13_4 hx hb hts hown hKs hH rfl ho m6_185 dX13_readsBar_91 ?_
        refine lv_bipush (v := 34) hx hb dX13_readsBar_94 (by decide) ?_
        refine lv_iload_n hx hb dX13_readsBar_96 rfl (lv_at hl 0 rfl) ?_
        refine lv_iadd hx hb dX13_readsBar_97 ?_
        obtain ⟨a26, ha26, hf⟩ := bnd hf
        replace ha26 := cha_some ha26
        obtain ⟨j27, hj27, hf⟩ := bnd hf
        refine hw_iald hx hb hKs hH ha26.1 ha26.2 hj27 dX13_readsBar_98 ?_
        refine lv_iconst (v := 1) hx hb dX13_readsBar_99 (by decide) ?_
        refine lv_iload_n hx hb dX13_readsBar_100 rfl (lv_at hl 1 rfl) ?_
        refine lv_ishl hx hb dX13_readsBar_101 ?_
        refine lv_ior hx hb dX13_readsBar_102 ?_
        obtain ⟨j28, hj28, hf⟩ := bnd hf
        obtain ⟨w29, hw29, hf⟩ := bnd hf
        replace hw29 := Option.some.inj hw29
        refine hw_iast (x := ((aI q24.2 a26.1 j27) ||| (1 <<< (q4.1 &&& 31)))) hx hb hKs hH ha26.1 ha26.2 hj28 dX13_readsBar_103 (fun H locs hH => ?_)
        rw [hw29] at hH
        exact hw_vret hx hb hret hf hH hlocks dX13_readsBar_104
    · replace hf := (if_pos c21).symm.trans hf
      refine lv_iconst (v := 1) hx hb dX13_readsBar_62 (by decide) ?_
      refine lv_goto (tgt := 67) hx hb dX13_readsBar_63 (by decide) ?_
      refine lv_iconst (v := 3) hx hb dX13_readsBar_67 (by decide) ?_
      obtain ⟨q30, hq30, hf⟩ := bnd hf
      refine hcV_v hx hb hml hown hts hKs hT hb0 hH (As := [.int 1, .int 3]) (rest := []) (k_X13_needs l E K H.size o true 3 q20.2 ho hq30) (gV m9_66 m9_68 ms_109 m1_16 m9_69) hd_X13_needs ⟨Nat.le_of_ble_eq_true rfl, Nat.le_of_ble_eq_true rfl, rfl, rfl⟩ rfl ho rfl rfl rfl hl.1 rfl rc0 rfl dX13_readsBar_68 ⟨Nat.zero_le _, Nat.zero_le _⟩ (fun H locs hH => ?_)
      refine hl_aload_n hx hb dX13_readsBar_71 rfl (lv_at hl 2 rfl) ?_
      obtain ⟨q31, hq31, hf⟩ := bnd hf
      refine hcV_v hx hb hml hown hts hKs hT hb0 hH (As := []) (rest := []) (k_X13_goOn l E K H.size o q30 ho hq31) (gV m9_70 m9_72 ms_110 m1_16 m9_73) hd_X13_goOn ⟨Nat.le_of_ble_eq_true rfl, Nat.le_of_ble_eq_true rfl, rfl, rfl⟩ rfl ho rfl rfl rfl hl.1 rfl rc0 rfl dX13_readsBar_72 ⟨Nat.zero_le _, Nat.zero_le _⟩ (fun H locs hH => ?_)
      refine hl_aload_n hx hb dX13_readsBar_75 rfl (lv_at hl 2 rfl) ?_
      obtain ⟨q32, hq32, hf⟩ := bnd hf
      refine hcV_i hx hb hml hown hts hKs hT hb0 hH (As := []) (rest := []) (k_X13_fine l E K H.size o q31 ho hq32) (gV m9_46 m9_48 ms_104 m1_16 m9_49) hd_X13_fine ⟨Nat.le_of_ble_eq_true rfl, Nat.le_of_ble_eq_true rfl, rfl, rfl⟩ rfl ho rfl rfl rfl hl.1 rfl rc0 rfl dX13_readsBar_76 ⟨Nat.zero_le _, Nat.zero_le _⟩ (fun H locs hH => ?_)
      refine lv_if_eq (tgt := 104) hx hb dX13_readsBar_79 (by decide) (fun c33 => ?_) (fun c33 => ?_)
      · replace hf := (if_pos c33).symm.trans hf
        exact hw_vret hx hb hret hf hH hlocks dX13_readsBar_104
      · replace hf := (if_neg c33).symm.trans hf
        refine hl_aload_n hx hb dX13_readsBar_82 rfl (lv_at hl 2 rfl) ?_
        refine g13_4 hx hb hts hown hKs hH rfl ho m6_185 dX13_readsBar_83 ?_
        refine lv_bipush (v := 34) hx hb dX13_readsBar_86 (by decide) ?_
        refine lv_iload_n hx hb dX13_readsBar_88 rfl (lv_at hl 0 rfl) ?_
        refine lv_iadd hx hb dX13_readsBar_89 ?_
        refine hl_aload_n hx hb dX13_readsBar_90 rfl (lv_at hl 2 rfl) ?_
        refine g13_4 hx hb hts hown hKs hH rfl ho m6_185 dX13_readsBar_91 ?_
        refine lv_bipush (v := 34) hx hb dX13_readsBar_94 (by decide) ?_
        refine lv_iload_n hx hb dX13_readsBar_96 rfl (lv_at hl 0 rfl) ?_
        refine lv_iadd hx hb dX13_readsBar_97 ?_
        obtain ⟨a34, ha34, hf⟩ := bnd hf
        replace ha34 := cha_some ha34
        obtain ⟨j35, hj35, hf⟩ := bnd hf
        refine hw_iald hx hb hKs hH ha34.1 ha34.2 hj35 dX13_readsBar_98 ?_
        refine lv_iconst (v := 1) hx hb dX13_readsBar_99 (by decide) ?_
        refine lv_iload_n hx hb dX13_readsBar_100 rfl (lv_at hl 1 rfl) ?_
        refine lv_ishl hx hb dX13_readsBar_101 ?_
        refine lv_ior hx hb dX13_readsBar_102 ?_
        obtain ⟨j36, hj36, hf⟩ := bnd hf
        obtain ⟨w37, hw37, hf⟩ := bnd hf
        replace hw37 := Option.some.inj hw37
        refine hw_iast (x := ((aI q32.2 a34.1 j35) ||| (1 <<< (q4.1 &&& 31)))) hx hb hKs hH ha34.1 ha34.2 hj36 dX13_readsBar_103 (fun H locs hH => ?_)
        rw [hw37] at hH
        exact hw_vret hx hb hret hf hH hlocks dX13_readsBar_104
end
