section
variable {p : Program} {l : Launch} {e : Env} {s : State} {m : MethodId} {args : Array Value} {below : List Frame} {meth : Method} {c : Code} {E : Ev} {K : Kd} {z : Nat}

theorem dX13_readsConflict_0 : decode cX13_readsConflict 0 = .ok (.aload_n 0, 1) := by decide +kernel
theorem dX13_readsConflict_1 : decode cX13_readsConflict 1 = .ok (.invokevirtual 399, 3) := by decide +kernel
theorem dX13_readsConflict_4 : decode cX13_readsConflict 4 = .ok (.aload_n 0, 1) := by decide +kernel
theorem dX13_readsConflict_5 : decode cX13_readsConflict 5 = .ok (.aload_n 0, 1) := by decide +kernel
theorem dX13_readsConflict_6 : decode cX13_readsConflict 6 = .ok (.getfield 77, 3) := by decide +kernel
theorem dX13_readsConflict_9 : decode cX13_readsConflict 9 = .ok (.aload_n 0, 1) := by decide +kernel
theorem dX13_readsConflict_10 : decode cX13_readsConflict 10 = .ok (.getfield 13, 3) := by decide +kernel
theorem dX13_readsConflict_13 : decode cX13_readsConflict 13 = .ok (.iconst 3, 1) := by decide +kernel
theorem dX13_readsConflict_14 : decode cX13_readsConflict 14 = .ok (.iaload, 1) := by decide +kernel
theorem dX13_readsConflict_15 : decode cX13_readsConflict 15 = .ok (.invokevirtual 437, 3) := by decide +kernel
theorem dX13_readsConflict_18 : decode cX13_readsConflict 18 = .ok (.istore_n 1, 1) := by decide +kernel
theorem dX13_readsConflict_19 : decode cX13_readsConflict 19 = .ok (.aload_n 0, 1) := by decide +kernel
theorem dX13_readsConflict_20 : decode cX13_readsConflict 20 = .ok (.invokevirtual 399, 3) := by decide +kernel
theorem dX13_readsConflict_23 : decode cX13_readsConflict 23 = .ok (.aload_n 0, 1) := by decide +kernel
theorem dX13_readsConflict_24 : decode cX13_readsConflict 24 = .ok (.aload_n 0, 1) := by decide +kernel
theorem dX13_readsConflict_25 : decode cX13_readsConflict 25 = .ok (.getfield 77, 3) := by decide +kernel
theorem dX13_readsConflict_28 : decode cX13_readsConflict 28 = .ok (.aload_n 0, 1) := by decide +kernel
theorem dX13_readsConflict_29 : decode cX13_readsConflict 29 = .ok (.getfield 13, 3) := by decide +kernel
theorem dX13_readsConflict_32 : decode cX13_readsConflict 32 = .ok (.iconst 3, 1) := by decide +kernel
theorem dX13_readsConflict_33 : decode cX13_readsConflict 33 = .ok (.iaload, 1) := by decide +kernel
theorem dX13_readsConflict_34 : decode cX13_readsConflict 34 = .ok (.invokevirtual 437, 3) := by decide +kernel
theorem dX13_readsConflict_37 : decode cX13_readsConflict 37 = .ok (.istore_n 2, 1) := by decide +kernel
theorem dX13_readsConflict_38 : decode cX13_readsConflict 38 = .ok (.aload_n 0, 1) := by decide +kernel
theorem dX13_readsConflict_39 : decode cX13_readsConflict 39 = .ok (.invokevirtual 379, 3) := by decide +kernel
theorem dX13_readsConflict_42 : decode cX13_readsConflict 42 = .ok (.ifCond .eq 35, 3) := by decide +kernel
theorem dX13_readsConflict_45 : decode cX13_readsConflict 45 = .ok (.aload_n 0, 1) := by decide +kernel
theorem dX13_readsConflict_46 : decode cX13_readsConflict 46 = .ok (.iload_n 1, 1) := by decide +kernel
theorem dX13_readsConflict_47 : decode cX13_readsConflict 47 = .ok (.iload_n 2, 1) := by decide +kernel
theorem dX13_readsConflict_48 : decode cX13_readsConflict 48 = .ok (.if_icmp .eq 24, 3) := by decide +kernel
theorem dX13_readsConflict_51 : decode cX13_readsConflict 51 = .ok (.aload_n 0, 1) := by decide +kernel
theorem dX13_readsConflict_52 : decode cX13_readsConflict 52 = .ok (.getfield 13, 3) := by decide +kernel
theorem dX13_readsConflict_55 : decode cX13_readsConflict 55 = .ok (.sipush 148, 3) := by decide +kernel
theorem dX13_readsConflict_58 : decode cX13_readsConflict 58 = .ok (.iload_n 1, 1) := by decide +kernel
theorem dX13_readsConflict_59 : decode cX13_readsConflict 59 = .ok (.iadd, 1) := by decide +kernel
theorem dX13_readsConflict_60 : decode cX13_readsConflict 60 = .ok (.iaload, 1) := by decide +kernel
theorem dX13_readsConflict_61 : decode cX13_readsConflict 61 = .ok (.iload_n 2, 1) := by decide +kernel
theorem dX13_readsConflict_62 : decode cX13_readsConflict 62 = .ok (.invokestatic 167, 3) := by decide +kernel
theorem dX13_readsConflict_65 : decode cX13_readsConflict 65 = .ok (.ifCond .ne 7, 3) := by decide +kernel
theorem dX13_readsConflict_68 : decode cX13_readsConflict 68 = .ok (.iconst 1, 1) := by decide +kernel
theorem dX13_readsConflict_69 : decode cX13_readsConflict 69 = .ok (.goto 4, 3) := by decide +kernel
theorem dX13_readsConflict_72 : decode cX13_readsConflict 72 = .ok (.iconst 0, 1) := by decide +kernel
theorem dX13_readsConflict_73 : decode cX13_readsConflict 73 = .ok (.iconst 3, 1) := by decide +kernel
theorem dX13_readsConflict_74 : decode cX13_readsConflict 74 = .ok (.invokevirtual 392, 3) := by decide +kernel
theorem dX13_readsConflict_77 : decode cX13_readsConflict 77 = .ok (.aload_n 0, 1) := by decide +kernel
theorem dX13_readsConflict_78 : decode cX13_readsConflict 78 = .ok (.invokevirtual 399, 3) := by decide +kernel
theorem dX13_readsConflict_81 : decode cX13_readsConflict 81 = .ok (.aload_n 0, 1) := by decide +kernel
theorem dX13_readsConflict_82 : decode cX13_readsConflict 82 = .ok (.invokevirtual 379, 3) := by decide +kernel
theorem dX13_readsConflict_85 : decode cX13_readsConflict 85 = .ok (.ifCond .ne 4, 3) := by decide +kernel
theorem dX13_readsConflict_88 : decode cX13_readsConflict 88 = .ok (.return_, 1) := by decide +kernel
theorem dX13_readsConflict_89 : decode cX13_readsConflict 89 = .ok (.aload_n 0, 1) := by decide +kernel
theorem dX13_readsConflict_90 : decode cX13_readsConflict 90 = .ok (.getfield 13, 3) := by decide +kernel
theorem dX13_readsConflict_93 : decode cX13_readsConflict 93 = .ok (.sipush 148, 3) := by decide +kernel
theorem dX13_readsConflict_96 : decode cX13_readsConflict 96 = .ok (.iload_n 1, 1) := by decide +kernel
theorem dX13_readsConflict_97 : decode cX13_readsConflict 97 = .ok (.iadd, 1) := by decide +kernel
theorem dX13_readsConflict_98 : decode cX13_readsConflict 98 = .ok (.aload_n 0, 1) := by decide +kernel
theorem dX13_readsConflict_99 : decode cX13_readsConflict 99 = .ok (.getfield 13, 3) := by decide +kernel
theorem dX13_readsConflict_102 : decode cX13_readsConflict 102 = .ok (.sipush 148, 3) := by decide +kernel
theorem dX13_readsConflict_105 : decode cX13_readsConflict 105 = .ok (.iload_n 1, 1) := by decide +kernel
theorem dX13_readsConflict_106 : decode cX13_readsConflict 106 = .ok (.iadd, 1) := by decide +kernel
theorem dX13_readsConflict_107 : decode cX13_readsConflict 107 = .ok (.iaload, 1) := by decide +kernel
theorem dX13_readsConflict_108 : decode cX13_readsConflict 108 = .ok (.iconst 1, 1) := by decide +kernel
theorem dX13_readsConflict_109 : decode cX13_readsConflict 109 = .ok (.iload_n 2, 1) := by decide +kernel
theorem dX13_readsConflict_110 : decode cX13_readsConflict 110 = .ok (.ishl, 1) := by decide +kernel
theorem dX13_readsConflict_111 : decode cX13_readsConflict 111 = .ok (.ior, 1) := by decide +kernel
theorem dX13_readsConflict_112 : decode cX13_readsConflict 112 = .ok (.iastore, 1) := by decide +kernel
theorem dX13_readsConflict_113 : decode cX13_readsConflict 113 = .ok (.aload_n 0, 1) := by decide +kernel
theorem dX13_readsConflict_114 : decode cX13_readsConflict 114 = .ok (.getfield 13, 3) := by decide +kernel
theorem dX13_readsConflict_117 : decode cX13_readsConflict 117 = .ok (.sipush 148, 3) := by decide +kernel
theorem dX13_readsConflict_120 : decode cX13_readsConflict 120 = .ok (.iload_n 2, 1) := by decide +kernel
theorem dX13_readsConflict_121 : decode cX13_readsConflict 121 = .ok (.iadd, 1) := by decide +kernel
theorem dX13_readsConflict_122 : decode cX13_readsConflict 122 = .ok (.aload_n 0, 1) := by decide +kernel
theorem dX13_readsConflict_123 : decode cX13_readsConflict 123 = .ok (.getfield 13, 3) := by decide +kernel
theorem dX13_readsConflict_126 : decode cX13_readsConflict 126 = .ok (.sipush 148, 3) := by decide +kernel
theorem dX13_readsConflict_129 : decode cX13_readsConflict 129 = .ok (.iload_n 2, 1) := by decide +kernel
theorem dX13_readsConflict_130 : decode cX13_readsConflict 130 = .ok (.iadd, 1) := by decide +kernel
theorem dX13_readsConflict_131 : decode cX13_readsConflict 131 = .ok (.iaload, 1) := by decide +kernel
theorem dX13_readsConflict_132 : decode cX13_readsConflict 132 = .ok (.iconst 1, 1) := by decide +kernel
theorem dX13_readsConflict_133 : decode cX13_readsConflict 133 = .ok (.iload_n 1, 1) := by decide +kernel
theorem dX13_readsConflict_134 : decode cX13_readsConflict 134 = .ok (.ishl, 1) := by decide +kernel
theorem dX13_readsConflict_135 : decode cX13_readsConflict 135 = .ok (.ior, 1) := by decide +kernel
theorem dX13_readsConflict_136 : decode cX13_readsConflict 136 = .ok (.iastore, 1) := by decide +kernel
theorem dX13_readsConflict_137 : decode cX13_readsConflict 137 = .ok (.return_, 1) := by decide +kernel
theorem hd_X13_readsConflict : yX13_readsConflict.cls = RX13 ∧ yX13_readsConflict.cls ≠ "java/lang/invoke/MethodHandle" ∧ yX13_readsConflict.cls ≠ "java/lang/invoke/VarHandle" ∧ (parseMethodDescriptor yX13_readsConflict.desc).map (fun d => d.parameters.length) = some 0 := by decide +kernel
theorem hs_X13_readsConflict : yX13_readsConflict.cls ≠ "java/lang/invoke/MethodHandle" ∧ yX13_readsConflict.cls ≠ "java/lang/invoke/VarHandle" ∧ (parseMethodDescriptor yX13_readsConflict.desc).map (fun d => d.parameters.length) = some 0 := by decide +kernel
set_option maxHeartbeats 4000000 in
set_option maxRecDepth 100000 in
theorem k_X13_readsConflict (l : Launch) (E : Ev) (K : Kd) (z : Nat) (o : Nat) (w : Wd) (ho : K o = some (11, 0)) {w' : Wd} (hf : f_X13_readsConflict K o w = some w') : Met l yX13_readsConflict (Cond.code yX13_readsConflict cX13_readsConflict 3 (Option.none : Option Jvm.ClassFile.FieldType) :: bt) ({ frames := 7, cells := 0, slots := 0, locals := 149 } : Room) (va_Pc [rv E (some o)] (HB E K w z)) (QV E K z w') 0 0 (hA E) := by
  refine Met.ofW (cc := cX13_readsConflict) (maxL := 3) (ret := (Option.none : Option Jvm.ClassFile.FieldType)) (by decide) rfl ?_
  intro p e s m args below meth c s₁ B hml hv
  obtain ⟨rfl, hz, hP, hKs, hT, hb0⟩ := hv
  have C : CX p l e s m _ meth c cX13_readsConflict 3 RX13 (Option.none : Option Jvm.ClassFile.FieldType) E := ⟨B.exec, B.bytes, hml, findClass_of_methodNamed B.named, fun w h => atoms_spec (ws := Cond.code yX13_readsConflict cX13_readsConflict 3 (Option.none : Option Jvm.ClassFile.FieldType) :: bt) B.pre w (List.mem_cons_of_mem _ h), hKs, hT, by rw [hz]; exact hb0, B.notSynchronized, B.returns⟩
  have hH : HQ E K z w s s.heap [] := ⟨hP, va_S.rf, hz⟩
  obtain ⟨hx, hb, hml, hown, hts, hKs, hT, hb0, hlocks, hret⟩ := id C
  have hl := lv_entry [rv E (some o)] (n := 3) (by simp [lg_len_nil, lg_len_i, lg_len_j, lg_len_q, lg_len_f, lg_len_d, lg_len_r])
  rw [lg_entry_eq]
  generalize (lg_sl [rv E (some o)] ++ List.replicate (3 - (lg_sl [rv E (some o)]).length) Slot.unset).toArray = ls at hl ⊢
  replace hl : lv_has ls 3 [(0, rv E (some o))] := by simpa only [lv_args, cat_q, cat_i, cat_j, reduceIte, Nat.reduceEqDiff, Nat.reduceAdd, Nat.zero_add] using hl
  generalize s.heap = H at hH ⊢
  unfold f_X13_readsConflict at hf
  refine hl_aload_n hx hb dX13_readsConflict_0 rfl (lv_at hl 0 rfl) ?_
  obtain ⟨q1, hq1, hf⟩ := bnd hf
  refine hcV_v hx hb hml hown hts hKs hT hb0 hH (As := []) (rest := []) (k_X13_goOn l E K H.size o w ho hq1) (gV m9_70 m9_72 ms_110 m1_16 m9_73) hd_X13_goOn ⟨Nat.le_of_ble_eq_true rfl, Nat.le_of_ble_eq_true rfl, rfl, rfl⟩ rfl ho rfl rfl rfl hl.1 rfl rc0 rfl dX13_readsConflict_1 ⟨Nat.zero_le _, Nat.zero_le _⟩ (fun H locs hH => ?_)
  refine hl_aload_n hx hb dX13_readsConflict_4 rfl (lv_at hl 0 rfl) ?_
  refine hl_aload_n hx hb dX13_readsConflict_5 rfl (lv_at hl 0 rfl) ?_
  refine g13_36 hx hb hts hown hKs hH rfl ho m6_217 dX13_readsConflict_6 ?_
  refine hl_aload_n hx hb dX13_readsConflict_9 rfl (lv_at hl 0 rfl) ?_
  refine g13_2 hx hb hts hown hKs hH rfl ho m6_183 dX13_readsConflict_10 ?_
  refine lv_iconst (v := 3) hx hb dX13_readsConflict_13 (by decide) ?_
  obtain ⟨a2, ha2, hf⟩ := bnd hf
  replace ha2 := cha_some ha2
  obtain ⟨j3, hj3, hf⟩ := bnd hf
  refine hw_iald hx hb hKs hH ha2.1 ha2.2 hj3 dX13_readsConflict_14 ?_
  obtain ⟨q4, hq4, hf⟩ := bnd hf
  refine hcV_i hx hb hml hown hts hKs hT hb0 hH (As := [rv E (wR q1 1336 o), .int ((aI q1 a2.1 j3))]) (rest := []) (k_X13_known l E K H.size o (wR q1 1336 o) (aI q1 a2.1 j3) q1 ho hq4) (gV m9_135 m9_137 ms_125 m1_16 m9_138) hd_X13_known ⟨Nat.le_of_ble_eq_true rfl, Nat.le_of_ble_eq_true rfl, rfl, rfl⟩ rfl ho rfl rfl rfl hl.1 rfl rc0 rfl dX13_readsConflict_15 ⟨Nat.zero_le _, Nat.zero_le _⟩ (fun H locs hH => ?_)
  refine lv_istore_n (i := 1) (lv' := [(1, .int (q4.1)), (0, rv E (some o))]) hx hb dX13_readsConflict_18 rfl hl (by decide) rfl (fun ls hl => ?_)
  refine hl_aload_n hx hb dX13_readsConflict_19 rfl (lv_at hl 1 rfl) ?_
  obtain ⟨q5, hq5, hf⟩ := bnd hf
  refine hcV_v hx hb hml hown hts hKs hT hb0 hH (As := []) (rest := []) (k_X13_goOn l E K H.size o q4.2 ho hq5) (gV m9_70 m9_72 ms_110 m1_16 m9_73) hd_X13_goOn ⟨Nat.le_of_ble_eq_true rfl, Nat.le_of_ble_eq_true rfl, rfl, rfl⟩ rfl ho rfl rfl rfl hl.1 rfl rc0 rfl dX13_readsConflict_20 ⟨Nat.zero_le _, Nat.zero_le _⟩ (fun H locs hH => ?_)
  refine hl_aload_n hx hb dX13_readsConflict_23 rfl (lv_at hl 1 rfl) ?_
  refine hl_aload_n hx hb dX13_readsConflict_24 rfl (lv_at hl 1 rfl) ?_
  refine g13_36 hx hb hts hown hKs hH rfl ho m6_217 dX13_readsConflict_25 ?_
  refine hl_aload_n hx hb dX13_readsConflict_28 rfl (lv_at hl 1 rfl) ?_
  refine g13_2 hx hb hts hown hKs hH rfl ho m6_183 dX13_readsConflict_29 ?_
  refine lv_iconst (v := 3) hx hb dX13_readsConflict_32 (by decide) ?_
  obtain ⟨a6, ha6, hf⟩ := bnd hf
  replace ha6 := cha_some ha6
  obtain ⟨j7, hj7, hf⟩ := bnd hf
  refine hw_iald hx hb hKs hH ha6.1 ha6.2 hj7 dX13_readsConflict_33 ?_
  obtain ⟨q8, hq8, hf⟩ := bnd hf
  refine hcV_i hx hb hml hown hts hKs hT hb0 hH (As := [rv E (wR q5 1336 o), .int ((aI q5 a6.1 j7))]) (rest := []) (k_X13_known l E K H.size o (wR q5 1336 o) (aI q5 a6.1 j7) q5 ho hq8) (gV m9_135 m9_137 ms_125 m1_16 m9_138) hd_X13_known ⟨Nat.le_of_ble_eq_true rfl, Nat.le_of_ble_eq_true rfl, rfl, rfl⟩ rfl ho rfl rfl rfl hl.1 rfl rc0 rfl dX13_readsConflict_34 ⟨Nat.zero_le _, Nat.zero_le _⟩ (fun H locs hH => ?_)
  refine lv_istore_n (i := 2) (lv' := [(2, .int (q8.1)), (1, .int (q4.1)), (0, rv E (some o))]) hx hb dX13_readsConflict_37 rfl hl (by decide) rfl (fun ls hl => ?_)
  refine hl_aload_n hx hb dX13_readsConflict_38 rfl (lv_at hl 2 rfl) ?_
  obtain ⟨q9, hq9, hf⟩ := bnd hf
  refine hcV_i hx hb hml hown hts hKs hT hb0 hH (As := []) (rest := []) (k_X13_fine l E K H.size o q8.2 ho hq9) (gV m9_46 m9_48 ms_104 m1_16 m9_49) hd_X13_fine ⟨Nat.le_of_ble_eq_true rfl, Nat.le_of_ble_eq_true rfl, rfl, rfl⟩ rfl ho rfl rfl rfl hl.1 rfl rc0 rfl dX13_readsConflict_39 ⟨Nat.zero_le _, Nat.zero_le _⟩ (fun H locs hH => ?_)
  refine lv_if_eq (tgt := 77) hx hb dX13_readsConflict_42 (by decide) (fun c10 => ?_) (fun c10 => ?_)
  · replace hf := (if_pos c10).symm.trans hf
    refine hl_aload_n hx hb dX13_readsConflict_77 rfl (lv_at hl 2 rfl) ?_
    obtain ⟨q11, hq11, hf⟩ := bnd hf
    refine hcV_v hx hb hml hown hts hKs hT hb0 hH (As := []) (rest := []) (k_X13_goOn l E K H.size o q9.2 ho hq11) (gV m9_70 m9_72 ms_110 m1_16 m9_73) hd_X13_goOn ⟨Nat.le_of_ble_eq_true rfl, Nat.le_of_ble_eq_true rfl, rfl, rfl⟩ rfl ho rfl rfl rfl hl.1 rfl rc0 rfl dX13_readsConflict_78 ⟨Nat.zero_le _, Nat.zero_le _⟩ (fun H locs hH => ?_)
    refine hl_aload_n hx hb dX13_readsConflict_81 rfl (lv_at hl 2 rfl) ?_
    obtain ⟨q12, hq12, hf⟩ := bnd hf
    refine hcV_i hx hb hml hown hts hKs hT hb0 hH (As := []) (rest := []) (k_X13_fine l E K H.size o q11 ho hq12) (gV m9_46 m9_48 ms_104 m1_16 m9_49) hd_X13_fine ⟨Nat.le_of_ble_eq_true rfl, Nat.le_of_ble_eq_true rfl, rfl, rfl⟩ rfl ho rfl rfl rfl hl.1 rfl rc0 rfl dX13_readsConflict_82 ⟨Nat.zero_le _, Nat.zero_le _⟩ (fun H locs hH => ?_)
    refine lv_if_ne (tgt := 89) hx hb dX13_readsConflict_85 (by decide) (fun c13 => ?_) (fun c13 => ?_)
    · replace hf := (if_neg c13).symm.trans hf
      refine hl_aload_n hx hb dX13_readsConflict_89 rfl (lv_at hl 2 rfl) ?_
      refine g13_2 hx hb hts hown hKs hH rfl ho m6_183 dX13_readsConflict_90 ?_
      refine lv_sipush (v := 148) hx hb dX13_readsConflict_93 (by decide) ?_
      refine lv_iload_n hx hb dX13_readsConflict_96 rfl (lv_at hl 1 rfl) ?_
      refine lv_iadd hx hb dX13_readsConflict_97 ?_
      refine hl_aload_n hx hb dX13_readsConflict_98 rfl (lv_at hl 2 rfl) ?_
      refine g13_2 hx hb hts hown hKs hH rfl ho m6_183 dX13_readsConflict_99 ?_
      refine lv_sipush (v := 148) hx hb dX13_readsConflict_102 (by decide) ?_
      refine lv_iload_n hx hb dX13_readsConflict_105 rfl (lv_at hl 1 rfl) ?_
      refine lv_iadd hx hb dX13_readsConflict_106 ?_
      obtain ⟨a14, ha14, hf⟩ := bnd hf
      replace ha14 := cha_some ha14
      obtain ⟨j15, hj15, hf⟩ := bnd hf
      refine hw_iald hx hb hKs hH ha14.1 ha14.2 hj15 dX13_readsConflict_107 ?_
      refine lv_iconst (v := 1) hx hb dX13_readsConflict_108 (by decide) ?_
      refine lv_iload_n hx hb dX13_readsConflict_109 rfl (lv_at hl 0 rfl) ?_
      refine lv_ishl hx hb dX13_readsConflict_110 ?_
      refine lv_ior hx hb dX13_readsConflict_111 ?_
      obtain ⟨j16, hj16, hf⟩ := bnd hf
      obtain ⟨w17, hw17, hf⟩ := bnd hf
      replace hw17 := Option.some.inj hw17
      refine hw_iast (x := ((aI q12.2 a14.1 j15) ||| (1 <<< (q8.1 &&& 31)))) hx hb hKs hH ha14.1 ha14.2 hj16 dX13_readsConflict_112 (fun H locs hH => ?_)
      rw [hw17] at hH
      refine hl_aload_n hx hb dX13_readsConflict_113 rfl (lv_at hl 2 rfl) ?_
      refine g13_2 hx hb hts hown hKs hH rfl ho m6_183 dX13_readsConflict_114 ?_
      refine lv_sipush (v := 148) hx hb dX13_readsConflict_117 (by decide) ?_
      refine lv_iload_n hx hb dX13_readsConflict_120 rfl (lv_at hl 0 rfl) ?_
      refine lv_iadd hx hb dX13_readsConflict_121 ?_
      refine hl_aload_n hx hb dX13_readsConflict_122 rfl (lv_at hl 2 rfl) ?_
      refine g13_2 hx hb hts hown hKs hH rfl ho m6_183 dX13_readsConflict_123 ?_
      refine lv_sipush (v := 148) hx hb dX13_readsConflict_126 (by decide) ?_
      refine lv_iload_n hx hb dX13_readsConflict_129 rfl (lv_at hl 0 rfl) ?_
      refine lv_iadd hx hb dX13_readsConflict_130 ?_
      obtain ⟨a18, ha18, hf⟩ := bnd hf
      replace ha18 := cha_some ha18
      obtain ⟨j19, hj19, hf⟩ := bnd hf
      refine hw_iald hx hb hKs hH ha18.1 ha18.2 hj19 dX13_readsConflict_131 ?_
      refine lv_iconst (v := 1) hx hb dX13_readsConflict_132 (by decide) ?_
      refine lv_iload_n hx hb dX13_readsConflict_133 rfl (lv_at hl 1 rfl) ?_
      refine lv_ishl hx hb dX13_readsConflict_134 ?_
      refine lv_ior hx hb dX13_readsConflict_135 ?_
      obtain ⟨j20, hj20, hf⟩ := bnd hf
      obtain ⟨w21, hw21, hf⟩ := bnd hf
      replace hw21 := Option.some.inj hw21
      refine hw_iast (x := ((aI w17 a18.1 j19) ||| (1 <<< (q4.1 &&& 31)))) hx hb hKs hH ha18.1 ha18.2 hj20 dX13_readsConflict_136 (fun H locs hH => ?_)
      rw [hw21] at hH
      exact hw_vret hx hb hret hf hH hlocks dX13_readsConflict_137
    · replace hf := (if_pos c13).symm.trans hf
      exact hw_vret hx hb hret hf hH hlocks dX13_readsConflict_88
  · replace hf := (if_neg c10).symm.trans hf
    refine hl_aload_n hx hb dX13_readsConflict_45 rfl (lv_at hl 2 rfl) ?_
    refine lv_iload_n hx hb dX13_readsConflict_46 rfl (lv_at hl 1 rfl) ?_
    refine lv_iload_n hx hb dX13_readsConflict_47 rfl (lv_at hl 0 rfl) ?_
    refine lv_icmp_eq (tgt := 72) hx hb dX13_readsConflict_48 (by decide) (fun c22 => ?_) (fun c22 => ?_)
    · replace hf := (if_pos c22).symm.trans hf
      refine lv_iconst (v := 0) hx hb dX13_readsConflict_72 (by decide) ?_
      refine lv_iconst (v := 3) hx hb dX13_readsConflict_73 (by decide) ?_
      obtain ⟨q23, hq23, hf⟩ := bnd hf
      refine hcV_v hx hb hml hown hts hKs hT hb0 hH (As := [.int 0, .int 3]) (rest := []) (k_X13_needs l E K H.size o false 3 q9.2 ho hq23) (gV m9_66 m9_68 ms_109 m1_16 m9_69) hd_X13_needs ⟨Nat.le_of_ble_eq_true rfl, Nat.le_of_ble_eq_true rfl, rfl, rfl⟩ rfl ho rfl rfl rfl hl.1 rfl rc0 rfl dX13_readsConflict_74 ⟨Nat.zero_le _, Nat.zero_le _⟩ (fun H locs hH => ?_)
      refine hl_aload_n hx hb dX13_readsConflict_77 rfl (lv_at hl 2 rfl) ?_
      obtain ⟨q24, hq24, hf⟩ := bnd hf
      refine hcV_v hx hb hml hown hts hKs hT hb0 hH (As := []) (rest := []) (k_X13_goOn l E K H.size o q23 ho hq24) (gV m9_70 m9_72 ms_110 m1_16 m9_73) hd_X13_goOn ⟨Nat.le_of_ble_eq_true rfl, Nat.le_of_ble_eq_true rfl, rfl, rfl⟩ rfl ho rfl rfl rfl hl.1 rfl rc0 rfl dX13_readsConflict_78 ⟨Nat.zero_le _, Nat.zero_le _⟩ (fun H locs hH => ?_)
      refine hl_aload_n hx hb dX13_readsConflict_81 rfl (lv_at hl 2 rfl) ?_
      obtain ⟨q25, hq25, hf⟩ := bnd hf
      refine hcV_i hx hb hml hown hts hKs hT hb0 hH (As := []) (rest := []) (k_X13_fine l E K H.size o q24 ho hq25) (gV m9_46 m9_48 ms_104 m1_16 m9_49) hd_X13_fine ⟨Nat.le_of_ble_eq_true rfl, Nat.le_of_ble_eq_true rfl, rfl, rfl⟩ rfl ho rfl rfl rfl hl.1 rfl rc0 rfl dX13_readsConflict_82 ⟨Nat.zero_le _, Nat.zero_le _⟩ (fun H locs hH => ?_)
      refine lv_if_ne (tgt := 89) hx hb dX13_readsConflict_85 (by decide) (fun c26 => ?_) (fun c26 => ?_)
      · replace hf := (if_neg c26).symm.trans hf
        refine hl_aload_n hx hb dX13_readsConflict_89 rfl (lv_at hl 2 rfl) ?_
        refine g13_2 hx hb hts hown hKs hH rfl ho m6_183 dX13_readsConflict_90 ?_
        refine lv_sipush (v := 148) hx hb dX13_readsConflict_93 (by decide) ?_
        refine lv_iload_n hx hb dX13_readsConflict_96 rfl (lv_at hl 1 rfl) ?_
        refine lv_iadd hx hb dX13_readsConflict_97 ?_
        refine hl_aload_n hx hb dX13_readsConflict_98 rfl (lv_at hl 2 rfl) ?_
        refine g13_2 hx hb hts hown hKs hH rfl ho m6_183 dX13_readsConflict_99 ?_
        refine lv_sipush (v := 148) hx hb dX13_readsConflict_102 (by decide) ?_
        refine lv_iload_n hx hb dX13_readsConflict_105 rfl (lv_at hl 1 rfl) ?_
        refine lv_iadd hx hb dX13_readsConflict_106 ?_
        obtain ⟨a27, ha27, hf⟩ := bnd hf
        replace ha27 := cha_some ha27
        obtain ⟨j28, hj28, hf⟩ := bnd hf
        refine hw_iald hx hb hKs hH ha27.1 ha27.2 hj28 dX13_readsConflict_107 ?_
        refine lv_iconst (v := 1) hx hb dX13_readsConflict_108 (by decide) ?_
        refine lv_iload_n hx hb dX13_readsConflict_109 rfl (lv_at hl 0 rfl) ?_
        refine lv_ishl hx hb dX13_readsConflict_110 ?_
        refine lv_ior hx hb dX13_readsConflict_111 ?_
        obtain ⟨j29, hj29, hf⟩ := bnd hf
        obtain ⟨w30, hw30, hf⟩ := bnd hf
        replace hw30 := Option.some.inj hw30
        refine hw_iast (x := ((aI q25.2 a27.1 j28) ||| (1 <<< (q8.1 &&& 31)))) hx hb hKs hH ha27.1 ha27.2 hj29 dX13_readsConflict_112 (fun H locs hH => ?_)
        rw [hw30] at hH
        refine hl_aload_n hx hb dX13_readsConflict_113 rfl (lv_at hl 2 rfl) ?_
        refine g13_2 hx hb hts hown hKs hH rfl ho m6_183 dX13_readsConflict_114 ?_
        refine lv_sipush (v := 148) hx hb dX13_readsConflict_117 (by decide) ?_
        refine lv_iload_n hx hb dX13_readsConflict_120 rfl (lv_at hl 0 rfl) ?_
        refine lv_iadd hx hb dX13_readsConflict_121 ?_
        refine hl_aload_n hx hb dX13_readsConflict_122 rfl (lv_at hl 2 rfl) ?_
        refine g13_2 hx hb hts hown hKs hH rfl ho m6_183 dX13_readsConflict_123 ?_
        refine lv_sipush (v := 148) hx hb dX13_readsConflict_126 (by decide) ?_
        refine lv_iload_n hx hb dX13_readsConflict_129 rfl (lv_at hl 0 rfl) ?_
        refine lv_iadd hx hb dX13_readsConflict_130 ?_
        obtain ⟨a31, ha31, hf⟩ := bnd hf
        replace ha31 := cha_some ha31
        obtain ⟨j32, hj32, hf⟩ := bnd hf
        refine hw_iald hx hb hKs hH ha31.1 ha31.2 hj32 dX13_readsConflict_131 ?_
        refine lv_iconst (v := 1) hx hb dX13_readsConflict_132 (by decide) ?_
        refine lv_iload_n hx hb dX13_readsConflict_133 rfl (lv_at hl 1 rfl) ?_
        refine lv_ishl hx hb dX13_readsConflict_134 ?_
        refine lv_ior hx hb dX13_readsConflict_135 ?_
        obtain ⟨j33, hj33, hf⟩ := bnd hf
        obtain ⟨w34, hw34, hf⟩ := bnd hf
        replace hw34 := Option.some.inj hw34
        refine hw_iast (x := ((aI w30 a31.1 j32) ||| (1 <<< (q4.1 &&& 31)))) hx hb hKs hH ha31.1 ha31.2 hj33 dX13_readsConflict_136 (fun H locs hH => ?_)
        rw [hw34] at hH
        exact hw_vret hx hb hret hf hH hlocks dX13_readsConflict_137
      · replace hf := (if_pos c26).symm.trans hf
        exact hw_vret hx hb hret hf hH hlocks dX13_readsConflict_88
    · replace hf := (if_neg c22).symm.trans hf
      refine hl_aload_n hx hb dX13_readsConflict_51 rfl (lv_at hl 2 rfl) ?_
      refine g13_2 hx hb hts hown hKs hH rfl ho m6_183 dX13_readsConflict_52 ?_
      refine lv_sipush (v := 148) hx hb dX13_readsConflict_55 (by decide) ?_
      refine lv_iload_n hx hb dX13_readsConflict_58 rfl (lv_at hl 1 rfl) ?_
      refine lv_iadd hx hb dX13_readsConflict_59 ?_
      obtain ⟨a35, ha35, hf⟩ := bnd hf
      replace ha35 := cha_some ha35
      obtain ⟨j36, hj36, hf⟩ := bnd hf
      refine hw_iald hx hb hKs hH ha35.1 ha35.2 hj36 dX13_readsConflict_60 ?_
      refine lv_iload_n hx hb dX13_readsConflict_61 rfl (lv_at hl 0 rfl) ?_
      obtain ⟨q37, hq37, hf⟩ := bnd hf
      refine hcS_i hx hb hml hown hts hKs hT hb0 hH (As := [.int ((aI q9.2 a35.1 j36)), .int (q8.1)]) (rest := [rv E (some o)]) (k_X13_has l E K H.size (aI q9.2 a35.1 j36) q8.1 q9.2 hq37) (gS m7_223 m7_224 m1_16 m7_225) hs_X13_has ⟨Nat.le_of_ble_eq_true rfl, Nat.le_of_ble_eq_true rfl, rfl, rfl⟩ hl.1 rfl (rcV rc0) rfl dX13_readsConflict_62 ⟨Nat.zero_le _, Nat.zero_le _⟩ (fun H locs hH => ?_)
      refine lv_if_ne (tgt := 72) hx hb dX13_readsConflict_65 (by decide) (fun c38 => ?_) (fun c38 => ?_)
      · replace hf := (if_neg c38).symm.trans hf
        refine lv_iconst (v := 0) hx hb dX13_readsConflict_72 (by decide) ?_
        refine lv_iconst (v := 3) hx hb dX13_readsConflict_73 (by decide) ?_
        obtain ⟨q39, hq39, hf⟩ := bnd hf
        refine hcV_v hx hb hml hown hts hKs hT hb0 hH (As := [.int 0, .int 3]) (rest := []) (k_X13_needs l E K H.size o false 3 q37.2 ho hq39) (gV m9_66 m9_68 ms_109 m1_16 m9_69) hd_X13_needs ⟨Nat.le_of_ble_eq_true rfl, Nat.le_of_ble_eq_true rfl, rfl, rfl⟩ rfl ho rfl rfl rfl hl.1 rfl rc0 rfl dX13_readsConflict_74 ⟨Nat.zero_le _, Nat.zero_le _⟩ (fun H locs hH => ?_)
        refine hl_aload_n hx hb dX13_readsConflict_77 rfl (lv_at hl 2 rfl) ?_
        obtain ⟨q40, hq40, hf⟩ := bnd hf
        refine hcV_v hx hb hml hown hts hKs hT hb0 hH (As := []) (rest := []) (k_X13_goOn l E K H.size o q39 ho hq40) (gV m9_70 m9_72 ms_110 m1_16 m9_73) hd_X13_goOn ⟨Nat.le_of_ble_eq_true rfl, Nat.le_of_ble_eq_true rfl, rfl, rfl⟩ rfl ho rfl rfl rfl hl.1 rfl rc0 rfl dX13_readsConflict_78 ⟨Nat.zero_le _, Nat.zero_le _⟩ (fun H locs hH => ?_)
        refine hl_aload_n hx hb dX13_readsConflict_81 rfl (lv_at hl 2 rfl) ?_
        obtain ⟨q41, hq41, hf⟩ := bnd hf
        refine hcV_i hx hb hml hown hts hKs hT hb0 hH (As := []) (rest := []) (k_X13_fine l E K H.size o q40 ho hq41) (gV m9_46 m9_48 ms_104 m1_16 m9_49) hd_X13_fine ⟨Nat.le_of_ble_eq_true rfl, Nat.le_of_ble_eq_true rfl, rfl, rfl⟩ rfl ho rfl rfl rfl hl.1 rfl rc0 rfl dX13_readsConflict_82 ⟨Nat.zero_le _, Nat.zero_le _⟩ (fun H locs hH => ?_)
        refine lv_if_ne (tgt := 89) hx hb dX13_readsConflict_85 (by decide) (fun c42 => ?_) (fun c42 => ?_)
        · replace hf := (if_neg c42).symm.trans hf
          refine hl_aload_n hx hb dX13_readsConflict_89 rfl (lv_at hl 2 rfl) ?_
          refine g13_2 hx hb hts hown hKs hH rfl ho m6_183 dX13_readsConflict_90 ?_
          refine lv_sipush (v := 148) hx hb dX13_readsConflict_93 (by decide) ?_
          refine lv_iload_n hx hb dX13_readsConflict_96 rfl (lv_at hl 1 rfl) ?_
          refine lv_iadd hx hb dX13_readsConflict_97 ?_
          refine hl_aload_n hx hb dX13_readsConflict_98 rfl (lv_at hl 2 rfl) ?_
          refine g13_2 hx hb hts hown hKs hH rfl ho m6_183 dX13_readsConflict_99 ?_
          refine lv_sipush (v := 148) hx hb dX13_readsConflict_102 (by decide) ?_
          refine lv_iload_n hx hb dX13_readsConflict_105 rfl (lv_at hl 1 rfl) ?_
          refine lv_iadd hx hb dX13_readsConflict_106 ?_
          obtain ⟨a43, ha43, hf⟩ := bnd hf
          replace ha43 := cha_some ha43
          obtain ⟨j44, hj44, hf⟩ := bnd hf
          refine hw_iald hx hb hKs hH ha43.1 ha43.2 hj44 dX13_readsConflict_107 ?_
          refine lv_iconst (v := 1) hx hb dX13_readsConflict_108 (by decide) ?_
          refine lv_iload_n hx hb dX13_readsConflict_109 rfl (lv_at hl 0 rfl) ?_
          refine lv_ishl hx hb dX13_readsConflict_110 ?_
          refine lv_ior hx hb dX13_readsConflict_111 ?_
          obtain ⟨j45, hj45, hf⟩ := bnd hf
          obtain ⟨w46, hw46, hf⟩ := bnd hf
          replace hw46 := Option.some.inj hw46
          refine hw_iast (x := ((aI q41.2 a43.1 j44) ||| (1 <<< (q8.1 &&& 31)))) hx hb hKs hH ha43.1 ha43.2 hj45 dX13_readsConflict_112 (fun H locs hH => ?_)
          rw [hw46] at hH
          refine hl_aload_n hx hb dX13_readsConflict_113 rfl (lv_at hl 2 rfl) ?_
          refine g13_2 hx hb hts hown hKs hH rfl ho m6_183 dX13_readsConflict_114 ?_
          refine lv_sipush (v := 148) hx hb dX13_readsConflict_117 (by decide) ?_
          refine lv_iload_n hx hb dX13_readsConflict_120 rfl (lv_at hl 0 rfl) ?_
          refine lv_iadd hx hb dX13_readsConflict_121 ?_
          refine hl_aload_n hx hb dX13_readsConflict_122 rfl (lv_at hl 2 rfl) ?_
          refine g13_2 hx hb hts hown hKs hH rfl ho m6_183 dX13_readsConflict_123 ?_
          refine lv_sipush (v := 148) hx hb dX13_readsConflict_126 (by decide) ?_
          refine lv_iload_n hx hb dX13_readsConflict_129 rfl (lv_at hl 0 rfl) ?_
          refine lv_iadd hx hb dX13_readsConflict_130 ?_
          obtain ⟨a47, ha47, hf⟩ := bnd hf
          replace ha47 := cha_some ha47
          obtain ⟨j48, hj48, hf⟩ := bnd hf
          refine hw_iald hx hb hKs hH ha47.1 ha47.2 hj48 dX13_readsConflict_131 ?_
          refine lv_iconst (v := 1) hx hb dX13_readsConflict_132 (by decide) ?_
          refine lv_iload_n hx hb dX13_readsConflict_133 rfl (lv_at hl 1 rfl) ?_
          refine lv_ishl hx hb dX13_readsConflict_134 ?_
          refine lv_ior hx hb dX13_readsConflict_135 ?_
          obtain ⟨j49, hj49, hf⟩ := bnd hf
          obtain ⟨w50, hw50, hf⟩ := bnd hf
          replace hw50 := Option.some.inj hw50
          refine hw_iast (x := ((aI w46 a47.1 j48) ||| (1 <<< (q4.1 &&& 31)))) hx hb hKs hH ha47.1 ha47.2 hj49 dX13_readsConflict_136 (fun H locs hH => ?_)
          rw [hw50] at hH
          exact hw_vret hx hb hret hf hH hlocks dX13_readsConflict_137
        · replace hf := (if_pos c42).symm.trans hf
          exact hw_vret hx hb hret hf hH hlocks dX13_readsConflict_88
      · replace hf := (if_pos c38).symm.trans hf
        refine lv_iconst (v := 1) hx hb dX13_readsConflict_68 (by decide) ?_
        refine lv_goto (tgt := 73) hx hb dX13_readsConflict_69 (by decide) ?_
        refine lv_iconst (v := 3) hx hb dX13_readsConflict_73 (by decide) ?_
        obtain ⟨q51, hq51, hf⟩ := bnd hf
        refine hcV_v hx hb hml hown hts hKs hT hb0 hH (As := [.int 1, .int 3]) (rest := []) (k_X13_needs l E K H.size o true 3 q37.2 ho hq51) (gV m9_66 m9_68 ms_109 m1_16 m9_69) hd_X13_needs ⟨Nat.le_of_ble_eq_true rfl, Nat.le_of_ble_eq_true rfl, rfl, rfl⟩ rfl ho rfl rfl rfl hl.1 rfl rc0 rfl dX13_readsConflict_74 ⟨Nat.zero_le _, Nat.zero_le _⟩ (fun H locs hH => ?_)
        refine hl_aload_n hx hb dX13_readsConflict_77 rfl (lv_at hl 2 rfl) ?_
        obtain ⟨q52, hq52, hf⟩ := bnd hf
        refine hcV_v hx hb hml hown hts hKs hT hb0 hH (As := []) (rest := []) (k_X13_goOn l E K H.size o q51 ho hq52) (gV m9_70 m9_72 ms_110 m1_16 m9_73) hd_X13_goOn ⟨Nat.le_of_ble_eq_true rfl, Nat.le_of_ble_eq_true rfl, rfl, rfl⟩ rfl ho rfl rfl rfl hl.1 rfl rc0 rfl dX13_readsConflict_78 ⟨Nat.zero_le _, Nat.zero_le _⟩ (fun H locs hH => ?_)
        refine hl_aload_n hx hb dX13_readsConflict_81 rfl (lv_at hl 2 rfl) ?_
        obtain ⟨q53, hq53, hf⟩ := bnd hf
        refine hcV_i hx hb hml hown hts hKs hT hb0 hH (As := []) (rest := []) (k_X13_fine l E K H.size o q52 ho hq53) (gV m9_46 m9_48 ms_104 m1_16 m9_49) hd_X13_fine ⟨Nat.le_of_ble_eq_true rfl, Nat.le_of_ble_eq_true rfl, rfl, rfl⟩ rfl ho rfl rfl rfl hl.1 rfl rc0 rfl dX13_readsConflict_82 ⟨Nat.zero_le _, Nat.zero_le _⟩ (fun H locs hH => ?_)
        refine lv_if_ne (tgt := 89) hx hb dX13_readsConflict_85 (by decide) (fun c54 => ?_) (fun c54 => ?_)
        · replace hf := (if_neg c54).symm.trans hf
          refine hl_aload_n hx hb dX13_readsConflict_89 rfl (lv_at hl 2 rfl) ?_
          refine g13_2 hx hb hts hown hKs hH rfl ho m6_183 dX13_readsConflict_90 ?_
          refine lv_sipush (v := 148) hx hb dX13_readsConflict_93 (by decide) ?_
          refine lv_iload_n hx hb dX13_readsConflict_96 rfl (lv_at hl 1 rfl) ?_
          refine lv_iadd hx hb dX13_readsConflict_97 ?_
          refine hl_aload_n hx hb dX13_readsConflict_98 rfl (lv_at hl 2 rfl) ?_
          refine g13_2 hx hb hts hown hKs hH rfl ho m6_183 dX13_readsConflict_99 ?_
          refine lv_sipush (v := 148) hx hb dX13_readsConflict_102 (by decide) ?_
          refine lv_iload_n hx hb dX13_readsConflict_105 rfl (lv_at hl 1 rfl) ?_
          refine lv_iadd hx hb dX13_readsConflict_106 ?_
          obtain ⟨a55, ha55, hf⟩ := bnd hf
          replace ha55 := cha_some ha55
          obtain ⟨j56, hj56, hf⟩ := bnd hf
          refine hw_iald hx hb hKs hH ha55.1 ha55.2 hj56 dX13_readsConflict_107 ?_
          refine lv_iconst (v := 1) hx hb dX13_readsConflict_108 (by decide) ?_
          refine lv_iload_n hx hb dX13_readsConflict_109 rfl (lv_at hl 0 rfl) ?_
          refine lv_ishl hx hb dX13_readsConflict_110 ?_
          refine lv_ior hx hb dX13_readsConflict_111 ?_
          obtain ⟨j57, hj57, hf⟩ := bnd hf
          obtain ⟨w58, hw58, hf⟩ := bnd hf
          replace hw58 := Option.some.inj hw58
          refine hw_iast (x := ((aI q53.2 a55.1 j56) ||| (1 <<< (q8.1 &&& 31)))) hx hb hKs hH ha55.1 ha55.2 hj57 dX13_readsConflict_112 (fun H locs hH => ?_)
          rw [hw58] at hH
          refine hl_aload_n hx hb dX13_readsConflict_113 rfl (lv_at hl 2 rfl) ?_
          refine g13_2 hx hb hts hown hKs hH rfl ho m6_183 dX13_readsConflict_114 ?_
          refine lv_sipush (v := 148) hx hb dX13_readsConflict_117 (by decide) ?_
          refine lv_iload_n hx hb dX13_readsConflict_120 rfl (lv_at hl 0 rfl) ?_
          refine lv_iadd hx hb dX13_readsConflict_121 ?_
          refine hl_aload_n hx hb dX13_readsConflict_122 rfl (lv_at hl 2 rfl) ?_
          refine g13_2 hx hb hts hown hKs hH rfl ho m6_183 dX13_readsConflict_123 ?_
          refine lv_sipush (v := 148) hx hb dX13_readsConflict_126 (by decide) ?_
          refine lv_iload_n hx hb dX13_readsConflict_129 rfl (lv_at hl 0 rfl) ?_
          refine lv_iadd hx hb dX13_readsConflict_130 ?_
          obtain ⟨a59, ha59, hf⟩ := bnd hf
          replace ha59 := cha_some ha59
          obtain ⟨j60, hj60, hf⟩ := bnd hf
          refine hw_iald hx hb hKs hH ha59.1 ha59.2 hj60 dX13_readsConflict_131 ?_
          refine lv_iconst (v := 1) hx hb dX13_readsConflict_132 (by decide) ?_
          refine lv_iload_n hx hb dX13_readsConflict_133 rfl (lv_at hl 1 rfl) ?_
          refine lv_ishl hx hb dX13_readsConflict_134 ?_
          refine lv_ior hx hb dX13_readsConflict_135 ?_
          obtain ⟨j61, hj61, hf⟩ := bnd hf
          obtain ⟨w62, hw62, hf⟩ := bnd hf
          replace hw62 := Option.some.inj hw62
          refine hw_iast (x := ((aI w58 a59.1 j60) ||| (1 <<< (q4.1 &&& 31)))) hx hb hKs hH ha59.1 ha59.2 hj61 dX13_readsConflict_136 (fun H locs hH => ?_)
          rw [hw62] at hH
          exact hw_vret hx hb hret hf hH hlocks dX13_readsConflict_137
        · replace hf := (if_pos c54).symm.trans hf
          exact hw_vret hx hb hret hf hH hlocks dX13_readsConflict_88

theorem dX13_readsLengthen_0 : decode cX13_readsLengthen 0 = .ok (.aload_n 0, 1) := by decide +kernel
theorem dX13_readsLengthen_1 : decode cX13_readsLengthen 1 = .ok (.invokevirtual 399, 3) := by decide +kernel
theorem dX13_readsLengthen_4 : decode cX13_readsLengthen 4 = .ok (.aload_n 0, 1) := by decide +kernel
theorem dX13_readsLengthen_5 : decode cX13_readsLengthen 5 = .ok (.iconst 0, 1) := by decide +kernel
theorem dX13_readsLengthen_6 : decode cX13_readsLengthen 6 = .ok (.iconst 3, 1) := by decide +kernel
theorem dX13_readsLengthen_7 : decode cX13_readsLengthen 7 = .ok (.invokevirtual 396, 3) := by decide +kernel
theorem dX13_readsLengthen_10 : decode cX13_readsLengthen 10 = .ok (.istore_n 1, 1) := by decide +kernel
theorem dX13_readsLengthen_11 : decode cX13_readsLengthen 11 = .ok (.aload_n 0, 1) := by decide +kernel
theorem dX13_readsLengthen_12 : decode cX13_readsLengthen 12 = .ok (.invokevirtual 379, 3) := by decide +kernel
theorem dX13_readsLengthen_15 : decode cX13_readsLengthen 15 = .ok (.ifCond .eq 26, 3) := by decide +kernel
theorem dX13_readsLengthen_18 : decode cX13_readsLengthen 18 = .ok (.aload_n 0, 1) := by decide +kernel
theorem dX13_readsLengthen_19 : decode cX13_readsLengthen 19 = .ok (.aload_n 0, 1) := by decide +kernel
theorem dX13_readsLengthen_20 : decode cX13_readsLengthen 20 = .ok (.getfield 13, 3) := by decide +kernel
theorem dX13_readsLengthen_23 : decode cX13_readsLengthen 23 = .ok (.sipush 166, 3) := by decide +kernel
theorem dX13_readsLengthen_26 : decode cX13_readsLengthen 26 = .ok (.iload_n 1, 1) := by decide +kernel
theorem dX13_readsLengthen_27 : decode cX13_readsLengthen 27 = .ok (.iadd, 1) := by decide +kernel
theorem dX13_readsLengthen_28 : decode cX13_readsLengthen 28 = .ok (.iaload, 1) := by decide +kernel
theorem dX13_readsLengthen_29 : decode cX13_readsLengthen 29 = .ok (.ifCond .ne 7, 3) := by decide +kernel
theorem dX13_readsLengthen_32 : decode cX13_readsLengthen 32 = .ok (.iconst 1, 1) := by decide +kernel
theorem dX13_readsLengthen_33 : decode cX13_readsLengthen 33 = .ok (.goto 4, 3) := by decide +kernel
theorem dX13_readsLengthen_36 : decode cX13_readsLengthen 36 = .ok (.iconst 0, 1) := by decide +kernel
theorem dX13_readsLengthen_37 : decode cX13_readsLengthen 37 = .ok (.iconst 3, 1) := by decide +kernel
theorem dX13_readsLengthen_38 : decode cX13_readsLengthen 38 = .ok (.invokevirtual 392, 3) := by decide +kernel
theorem dX13_readsLengthen_41 : decode cX13_readsLengthen 41 = .ok (.aload_n 0, 1) := by decide +kernel
theorem dX13_readsLengthen_42 : decode cX13_readsLengthen 42 = .ok (.invokevirtual 399, 3) := by decide +kernel
theorem dX13_readsLengthen_45 : decode cX13_readsLengthen 45 = .ok (.aload_n 0, 1) := by decide +kernel
theorem dX13_readsLengthen_46 : decode cX13_readsLengthen 46 = .ok (.iconst 0, 1) := by decide +kernel
theorem dX13_readsLengthen_47 : decode cX13_readsLengthen 47 = .ok (.bipush 30, 2) := by decide +kernel
theorem dX13_readsLengthen_49 : decode cX13_readsLengthen 49 = .ok (.invokevirtual 405, 3) := by decide +kernel
theorem dX13_readsLengthen_52 : decode cX13_readsLengthen 52 = .ok (.istore_n 2, 1) := by decide +kernel
theorem dX13_readsLengthen_53 : decode cX13_readsLengthen 53 = .ok (.aload_n 0, 1) := by decide +kernel
theorem dX13_readsLengthen_54 : decode cX13_readsLengthen 54 = .ok (.invokevirtual 379, 3) := by decide +kernel
theorem dX13_readsLengthen_57 : decode cX13_readsLengthen 57 = .ok (.ifCond .ne 4, 3) := by decide +kernel
theorem dX13_readsLengthen_60 : decode cX13_readsLengthen 60 = .ok (.return_, 1) := by decide +kernel
theorem dX13_readsLengthen_61 : decode cX13_readsLengthen 61 = .ok (.aload_n 0, 1) := by decide +kernel
theorem dX13_readsLengthen_62 : decode cX13_readsLengthen 62 = .ok (.getfield 13, 3) := by decide +kernel
theorem dX13_readsLengthen_65 : decode cX13_readsLengthen 65 = .ok (.sipush 166, 3) := by decide +kernel
theorem dX13_readsLengthen_68 : decode cX13_readsLengthen 68 = .ok (.iload_n 1, 1) := by decide +kernel
theorem dX13_readsLengthen_69 : decode cX13_readsLengthen 69 = .ok (.iadd, 1) := by decide +kernel
theorem dX13_readsLengthen_70 : decode cX13_readsLengthen 70 = .ok (.iconst 1, 1) := by decide +kernel
theorem dX13_readsLengthen_71 : decode cX13_readsLengthen 71 = .ok (.iastore, 1) := by decide +kernel
theorem dX13_readsLengthen_72 : decode cX13_readsLengthen 72 = .ok (.aload_n 0, 1) := by decide +kernel
theorem dX13_readsLengthen_73 : decode cX13_readsLengthen 73 = .ok (.getfield 13, 3) := by decide +kernel
theorem dX13_readsLengthen_76 : decode cX13_readsLengthen 76 = .ok (.sipush 160, 3) := by decide +kernel
theorem dX13_readsLengthen_79 : decode cX13_readsLengthen 79 = .ok (.iload_n 1, 1) := by decide +kernel
theorem dX13_readsLengthen_80 : decode cX13_readsLengthen 80 = .ok (.iadd, 1) := by decide +kernel
theorem dX13_readsLengthen_81 : decode cX13_readsLengthen 81 = .ok (.iload_n 2, 1) := by decide +kernel
theorem dX13_readsLengthen_82 : decode cX13_readsLengthen 82 = .ok (.iastore, 1) := by decide +kernel
theorem dX13_readsLengthen_83 : decode cX13_readsLengthen 83 = .ok (.return_, 1) := by decide +kernel
theorem hd_X13_readsLengthen : yX13_readsLengthen.cls = RX13 ∧ yX13_readsLengthen.cls ≠ "java/lang/invoke/MethodHandle" ∧ yX13_readsLengthen.cls ≠ "java/lang/invoke/VarHandle" ∧ (parseMethodDescriptor yX13_readsLengthen.desc).map (fun d => d.parameters.length) = some 0 := by decide +kernel
theorem hs_X13_readsLengthen : yX13_readsLengthen.cls ≠ "java/lang/invoke/MethodHandle" ∧ yX13_readsLengthen.cls ≠ "java/lang/invoke/VarHandle" ∧ (parseMethodDescriptor yX13_readsLengthen.desc).map (fun d => d.parameters.length) = some 0 := by decide +kernel
set_option maxHeartbeats 4000000 in
set_option maxRecDepth 100000 in
theorem k_X13_readsLengthen (l : Launch) (E : Ev) (K : Kd) (z : Nat) (o : Nat) (w : Wd) (ho : K o = some (11, 0)) {w' : Wd} (hf : f_X13_readsLengthen K o w = some w') : Met l yX13_readsLengthen (Cond.code yX13_readsLengthen cX13_readsLengthen 3 (Option.none : Option Jvm.ClassFile.FieldType) :: bt) ({ frames := 8, cells := 0, slots := 0, locals := 172 } : Room) (va_Pc [rv E (some o)] (HB E K w z)) (QV E K z w') 0 0 (hA E) := by
  refine Met.ofW (cc := cX13_readsLengthen) (maxL := 3) (ret := (Option.none : Option Jvm.ClassFile.FieldType)) (by decide) rfl ?_
  intro p e s m args below meth c s₁ B hml hv
  obtain ⟨rfl, hz, hP, hKs, hT, hb0⟩ := hv
  have C : CX p l e s m _ meth c cX13_readsLengthen 3 RX13 (Option.none : Option Jvm.ClassFile.FieldType) E := ⟨B.exec, B.bytes, hml, findClass_of_methodNamed B.named, fun w h => atoms_spec (ws := Cond.code yX13_readsLengthen cX13_readsLengthen 3 (Option.none : Option Jvm.ClassFile.FieldType) :: bt) B.pre w (List.mem_cons_of_mem _ h), hKs, hT, by rw [hz]; exact hb0, B.notSynchronized, B.returns⟩
  have hH : HQ E K z w s s.heap [] := ⟨hP, va_S.rf, hz⟩
  obtain ⟨hx, hb, hml, hown, hts, hKs, hT, hb0, hlocks, hret⟩ := id C
  have hl := lv_entry [rv E (some o)] (n := 3) (by simp [lg_len_nil, lg_len_i, lg_len_j, lg_len_q, lg_len_f, lg_len_d, lg_len_r])
  rw [lg_entry_eq]
  generalize (lg_sl [rv E (some o)] ++ List.replicate (3 - (lg_sl [rv E (some o)]).length) Slot.unset).toArray = ls at hl ⊢
  replace hl : lv_has ls 3 [(0, rv E (some o))] := by simpa only [lv_args, cat_q, cat_i, cat_j, reduceIte, Nat.reduceEqDiff, Nat.reduceAdd, Nat.zero_add] using hl
  generalize s.heap = H at hH ⊢
  unfold f_X13_readsLengthen at hf
  refine hl_aload_n hx hb dX13_readsLengthen_0 rfl (lv_at hl 0 rfl) ?_
  obtain ⟨q1, hq1, hf⟩ := bnd hf
  refine hcV_v hx hb hml hown hts hKs hT hb0 hH (As := []) (rest := []) (k_X13_goOn l E K H.size o w ho hq1) (gV m9_70 m9_72 ms_110 m1_16 m9_73) hd_X13_goOn ⟨Nat.le_of_ble_eq_true rfl, Nat.le_of_ble_eq_true rfl, rfl, rfl⟩ rfl ho rfl rfl rfl hl.1 rfl rc0 rfl dX13_readsLengthen_1 ⟨Nat.zero_le _, Nat.zero_le _⟩ (fun H locs hH => ?_)
  refine hl_aload_n hx hb dX13_readsLengthen_4 rfl (lv_at hl 0 rfl) ?_
  refine lv_iconst (v := 0) hx hb dX13_readsLengthen_5 (by decide) ?_
  refine lv_iconst (v := 3) hx hb dX13_readsLengthen_6 (by decide) ?_
  obtain ⟨q2, hq2, hf⟩ := bnd hf
  refine hcV_i hx hb hml hown hts hKs hT hb0 hH (As := [.int 0, .int 3]) (rest := []) (k_X13_look l E K H.size o 0 3 q1 ho hq2) (gV m9_74 m9_76 ms_111 m1_16 m9_77) hd_X13_look ⟨Nat.le_of_ble_eq_true rfl, Nat.le_of_ble_eq_true rfl, rfl, rfl⟩ rfl ho rfl rfl rfl hl.1 rfl rc0 rfl dX13_readsLengthen_7 ⟨Nat.zero_le _, Nat.zero_le _⟩ (fun H locs hH => ?_)
  refine lv_istore_n (i := 1) (lv' := [(1, .int (q2.1)), (0, rv E (some o))]) hx hb dX13_readsLengthen_10 rfl hl (by decide) rfl (fun ls hl => ?_)
  refine hl_aload_n hx hb dX13_readsLengthen_11 rfl (lv_at hl 1 rfl) ?_
  obtain ⟨q3, hq3, hf⟩ := bnd hf
  refine hcV_i hx hb hml hown hts hKs hT hb0 hH (As := []) (rest := []) (k_X13_fine l E K H.size o q2.2 ho hq3) (gV m9_46 m9_48 ms_104 m1_16 m9_49) hd_X13_fine ⟨Nat.le_of_ble_eq_true rfl, Nat.le_of_ble_eq_true rfl, rfl, rfl⟩ rfl ho rfl rfl rfl hl.1 rfl rc0 rfl dX13_readsLengthen_12 ⟨Nat.zero_le _, Nat.zero_le _⟩ (fun H locs hH => ?_)
  refine lv_if_eq (tgt := 41) hx hb dX13_readsLengthen_15 (by decide) (fun c4 => ?_) (fun c4 => ?_)
  · replace hf := (if_pos c4).symm.trans hf
    refine hl_aload_n hx hb dX13_readsLengthen_41 rfl (lv_at hl 1 rfl) ?_
    obtain ⟨q5, hq5, hf⟩ := bnd hf
    refine hcV_v hx hb hml hown hts hKs hT hb0 hH (As := []) (rest := []) (k_X13_goOn l E K H.size o q3.2 ho hq5) (gV m9_70 m9_72 ms_110 m1_16 m9_73) hd_X13_goOn ⟨Nat.le_of_ble_eq_true rfl, Nat.le_of_ble_eq_true rfl, rfl, rfl⟩ rfl ho rfl rfl rfl hl.1 rfl rc0 rfl dX13_readsLengthen_42 ⟨Nat.zero_le _, Nat.zero_le _⟩ (fun H locs hH => ?_)
    refine hl_aload_n hx hb dX13_readsLengthen_45 rfl (lv_at hl 1 rfl) ?_
    refine lv_iconst (v := 0) hx hb dX13_readsLengthen_46 (by decide) ?_
    refine lv_bipush (v := 30) hx hb dX13_readsLengthen_47 (by decide) ?_
    obtain ⟨q6, hq6, hf⟩ := bnd hf
    refine hcV_i hx hb hml hown hts hKs hT hb0 hH (As := [.int 0, .int 30]) (rest := []) (k_X13_number l E K H.size o 0 30 q5 ho hq6) (gV m9_111 m9_113 ms_119 m1_16 m9_114) hd_X13_number ⟨Nat.le_of_ble_eq_true rfl, Nat.le_of_ble_eq_true rfl, rfl, rfl⟩ rfl ho rfl rfl rfl hl.1 rfl rc0 rfl dX13_readsLengthen_49 ⟨Nat.zero_le _, Nat.zero_le _⟩ (fun H locs hH => ?_)
    refine lv_istore_n (i := 2) (lv' := [(2, .int (q6.1)), (1, .int (q2.1)), (0, rv E (some o))]) hx hb dX13_readsLengthen_52 rfl hl (by decide) rfl (fun ls hl => ?_)
    refine hl_aload_n hx hb dX13_readsLengthen_53 rfl (lv_at hl 2 rfl) ?_
    obtain ⟨q7, hq7, hf⟩ := bnd hf
    refine hcV_i hx hb hml hown hts hKs hT hb0 hH (As := []) (rest := []) (k_X13_fine l E K H.size o q6.2 ho hq7) (gV m9_46 m9_48 ms_104 m1_16 m9_49) hd_X13_fine ⟨Nat.le_of_ble_eq_true rfl, Nat.le_of_ble_eq_true rfl, rfl, rfl⟩ rfl ho rfl rfl rfl hl.1 rfl rc0 rfl dX13_readsLengthen_54 ⟨Nat.zero_le _, Nat.zero_le _⟩ (fun H locs hH => ?_)
    refine lv_if_ne (tgt := 61) hx hb dX13_readsLengthen_57 (by decide) (fun c8 => ?_) (fun c8 => ?_)
    · replace hf := (if_neg c8).symm.trans hf
      refine hl_aload_n hx hb dX13_readsLengthen_61 rfl (lv_at hl 2 rfl) ?_
      refine g13_2 hx hb hts hown hKs hH rfl ho m6_183 dX13_readsLengthen_62 ?_
      refine lv_sipush (v := 166) hx hb dX13_readsLengthen_65 (by decide) ?_
      refine lv_iload_n hx hb dX13_readsLengthen_68 rfl (lv_at hl 1 rfl) ?_
      refine lv_iadd hx hb dX13_readsLengthen_69 ?_
      refine lv_iconst (v := 1) hx hb dX13_readsLengthen_70 (by decide) ?_
      obtain ⟨a9, ha9, hf⟩ := bnd hf
      replace ha9 := cha_some ha9
      obtain ⟨j10, hj10, hf⟩ := bnd hf
      obtain ⟨w11, hw11, hf⟩ := bnd hf
      replace hw11 := Option.some.inj hw11
      refine hw_iast (x := 1) hx hb hKs hH ha9.1 ha9.2 hj10 dX13_readsLengthen_71 (fun H locs hH => ?_)
      rw [hw11] at hH
      refine hl_aload_n hx hb dX13_readsLengthen_72 rfl (lv_at hl 2 rfl) ?_
      refine g13_2 hx hb hts hown hKs hH rfl ho m6_183 dX13_readsLengthen_73 ?_
      refine lv_sipush (v := 160) hx hb dX13_readsLengthen_76 (by decide) ?_
      refine lv_iload_n hx hb dX13_readsLengthen_79 rfl (lv_at hl 1 rfl) ?_
      refine lv_iadd hx hb dX13_readsLengthen_80 ?_
      refine lv_iload_n hx hb dX13_readsLengthen_81 rfl (lv_at hl 0 rfl) ?_
      obtain ⟨a12, ha12, hf⟩ := bnd hf
      replace ha12 := cha_some ha12
      obtain ⟨j13, hj13, hf⟩ := bnd hf
      obtain ⟨w14, hw14, hf⟩ := bnd hf
      replace hw14 := Option.some.inj hw14
      refine hw_iast (x := q6.1) hx hb hKs hH ha12.1 ha12.2 hj13 dX13_readsLengthen_82 (fun H locs hH => ?_)
      rw [hw14] at hH
      exact hw_vret hx hb hret hf hH hlocks dX13_readsLengthen_83
    · replace hf := (if_pos c8).symm.trans hf
      exact hw_vret hx hb hret hf hH hlocks dX13_readsLengthen_60
  · replace hf := (if_neg c4).symm.trans hf
    refine hl_aload_n hx hb dX13_readsLengthen_18 rfl (lv_at hl 1 rfl) ?_
    refine hl_aload_n hx hb dX13_readsLengthen_19 rfl (lv_at hl 1 rfl) ?_
    refine g13_2 hx hb hts hown hKs hH rfl ho m6_183 dX13_readsLengthen_20 ?_
    refine lv_sipush (v := 166) hx hb dX13_readsLengthen_23 (by decide) ?_
    refine lv_iload_n hx hb dX13_readsLengthen_26 rfl (lv_at hl 0 rfl) ?_
    refine lv_iadd hx hb dX13_readsLengthen_27 ?_
    obtain ⟨a15, ha15, hf⟩ := bnd hf
    replace ha15 := cha_some ha15
    obtain ⟨j16, hj16, hf⟩ := bnd hf
    refine hw_iald hx hb hKs hH ha15.1 ha15.2 hj16 dX13_readsLengthen_28 ?_
    refine lv_if_ne (tgt := 36) hx hb dX13_readsLengthen_29 (by decide) (fun c17 => ?_) (fun c17 => ?_)
    · replace hf := (if_neg c17).symm.trans hf
      refine lv_iconst (v := 0) hx hb dX13_readsLengthen_36 (by decide) ?_
      refine lv_iconst (v := 3) hx hb dX13_readsLengthen_37 (by decide) ?_
      obtain ⟨q18, hq18, hf⟩ := bnd hf
      refine hcV_v hx hb hml hown hts hKs hT hb0 hH (As := [.int 0, .int 3]) (rest := []) (k_X13_needs l E K H.size o false 3 q3.2 ho hq18) (gV m9_66 m9_68 ms_109 m1_16 m9_69) hd_X13_needs ⟨Nat.le_of_ble_eq_true rfl, Nat.le_of_ble_eq_true rfl, rfl, rfl⟩ rfl ho rfl rfl rfl hl.1 rfl rc0 rfl dX13_readsLengthen_38 ⟨Nat.zero_le _, Nat.zero_le _⟩ (fun H locs hH => ?_)
      refine hl_aload_n hx hb dX13_readsLengthen_41 rfl (lv_at hl 1 rfl) ?_
      obtain ⟨q19, hq19, hf⟩ := bnd hf
      refine hcV_v hx hb hml hown hts hKs hT hb0 hH (As := []) (rest := []) (k_X13_goOn l E K H.size o q18 ho hq19) (gV m9_70 m9_72 ms_110 m1_16 m9_73) hd_X13_goOn ⟨Nat.le_of_ble_eq_true rfl, Nat.le_of_ble_eq_true rfl, rfl, rfl⟩ rfl ho rfl rfl rfl hl.1 rfl rc0 rfl dX13_readsLengthen_42 ⟨Nat.zero_le _, Nat.zero_le _⟩ (fun H locs hH => ?_)
      refine hl_aload_n hx hb dX13_readsLengthen_45 rfl (lv_at hl 1 rfl) ?_
      refine lv_iconst (v := 0) hx hb dX13_readsLengthen_46 (by decide) ?_
      refine lv_bipush (v := 30) hx hb dX13_readsLengthen_47 (by decide) ?_
      obtain ⟨q20, hq20, hf⟩ := bnd hf
      refine hcV_i hx hb hml hown hts hKs hT hb0 hH (As := [.int 0, .int 30]) (rest := []) (k_X13_number l E K H.size o 0 30 q19 ho hq20) (gV m9_111 m9_113 ms_119 m1_16 m9_114) hd_X13_number ⟨Nat.le_of_ble_eq_true rfl, Nat.le_of_ble_eq_true rfl, rfl, rfl⟩ rfl ho rfl rfl rfl hl.1 rfl rc0 rfl dX13_readsLengthen_49 ⟨Nat.zero_le _, Nat.zero_le _⟩ (fun H locs hH => ?_)
      refine lv_istore_n (i := 2) (lv' := [(2, .int (q20.1)), (1, .int (q2.1)), (0, rv E (some o))]) hx hb dX13_readsLengthen_52 rfl hl (by decide) rfl (fun ls hl => ?_)
      refine hl_aload_n hx hb dX13_readsLengthen_53 rfl (lv_at hl 2 rfl) ?_
      obtain ⟨q21, hq21, hf⟩ := bnd hf
      refine hcV_i hx hb hml hown hts hKs hT hb0 hH (As := []) (rest := []) (k_X13_fine l E K H.size o q20.2 ho hq21) (gV m9_46 m9_48 ms_104 m1_16 m9_49) hd_X13_fine ⟨Nat.le_of_ble_eq_true rfl, Nat.le_of_ble_eq_true rfl, rfl, rfl⟩ rfl ho rfl rfl rfl hl.1 rfl rc0 rfl dX13_readsLengthen_54 ⟨Nat.zero_le _, Nat.zero_le _⟩ (fun H locs hH => ?_)
      refine lv_if_ne (tgt := 61) hx hb dX13_readsLengthen_57 (by decide) (fun c22 => ?_) (fun c22 => ?_)
      · replace hf := (if_neg c22).symm.trans hf
        refine hl_aload_n hx hb dX13_readsLengthen_61 rfl (lv_at hl 2 rfl) ?_
        refine g13_2 hx hb hts hown hKs hH rfl ho m6_183 dX13_readsLengthen_62 ?_
        refine lv_sipush (v := 166) hx hb dX13_readsLengthen_65 (by decide) ?_
        refine lv_iload_n hx hb dX13_readsLengthen_68 rfl (lv_at hl 1 rfl) ?_
        refine lv_iadd hx hb dX13_readsLengthen_69 ?_
        refine lv_iconst (v := 1) hx hb dX13_readsLengthen_70 (by decide) ?_
        obtain ⟨a23, ha23, hf⟩ := bnd hf
        replace ha23 := cha_some ha23
        obtain ⟨j24, hj24, hf⟩ := bnd hf
        obtain ⟨w25, hw25, hf⟩ := bnd hf
        replace hw25 := Option.some.inj hw25
        refine hw_iast (x := 1) hx hb hKs hH ha23.1 ha23.2 hj24 dX13_readsLengthen_71 (fun H locs hH => ?_)
        rw [hw25] at hH
        refine hl_aload_n hx hb dX13_readsLengthen_72 rfl (lv_at hl 2 rfl) ?_
        refine g13_2 hx hb hts hown hKs hH rfl ho m6_183 dX13_readsLengthen_73 ?_
        refine lv_sipush (v := 160) hx hb dX13_readsLengthen_76 (by decide) ?_
        refine lv_iload_n hx hb dX13_readsLengthen_79 rfl (lv_at hl 1 rfl) ?_
        refine lv_iadd hx hb dX13_readsLengthen_80 ?_
        refine lv_iload_n hx hb dX13_readsLengthen_81 rfl (lv_at hl 0 rfl) ?_
        obtain ⟨a26, ha26, hf⟩ := bnd hf
        replace ha26 := cha_some ha26
        obtain ⟨j27, hj27, hf⟩ := bnd hf
        obtain ⟨w28, hw28, hf⟩ := bnd hf
        replace hw28 := Option.some.inj hw28
        refine hw_iast (x := q20.1) hx hb hKs hH ha26.1 ha26.2 hj27 dX13_readsLengthen_82 (fun H locs hH => ?_)
        rw [hw28] at hH
        exact hw_vret hx hb hret hf hH hlocks dX13_readsLengthen_83
      · replace hf := (if_pos c22).symm.trans hf
        exact hw_vret hx hb hret hf hH hlocks dX13_readsLengthen_60
    · replace hf := (if_pos c17).symm.trans hf
      refine lv_iconst (v := 1) hx hb dX13_readsLengthen_32 (by decide) ?_
      refine lv_goto (tgt := 37) hx hb dX13_readsLengthen_33 (by decide) ?_
      refine lv_iconst (v := 3) hx hb dX13_readsLengthen_37 (by decide) ?_
      obtain ⟨q29, hq29, hf⟩ := bnd hf
      refine hcV_v hx hb hml hown hts hKs hT hb0 hH (As := [.int 1, .int 3]) (rest := []) (k_X13_needs l E K H.size o true 3 q3.2 ho hq29) (gV m9_66 m9_68 ms_109 m1_16 m9_69) hd_X13_needs ⟨Nat.le_of_ble_eq_true rfl, Nat.le_of_ble_eq_true rfl, rfl, rfl⟩ rfl ho rfl rfl rfl hl.1 rfl rc0 rfl dX13_readsLengthen_38 ⟨Nat.zero_le _, Nat.zero_le _⟩ (fun H locs hH => ?_)
      refine hl_aload_n hx hb dX13_readsLengthen_41 rfl (lv_at hl 1 rfl) ?_
      obtain ⟨q30, hq30, hf⟩ := bnd hf
      refine hcV_v hx hb hml hown hts hKs hT hb0 hH (As := []) (rest := []) (k_X13_goOn l E K H.size o q29 ho hq30) (gV m9_70 m9_72 ms_110 m1_16 m9_73) hd_X13_goOn ⟨Nat.le_of_ble_eq_true rfl, Nat.le_of_ble_eq_true rfl, rfl, rfl⟩ rfl ho rfl rfl rfl hl.1 rfl rc0 rfl dX13_readsLengthen_42 ⟨Nat.zero_le _, Nat.zero_le _⟩ (fun H locs hH => ?_)
      refine hl_aload_n hx hb dX13_readsLengthen_45 rfl (lv_at hl 1 rfl) ?_
      refine lv_iconst (v := 0) hx hb dX13_readsLengthen_46 (by decide) ?_
      refine lv_bipush (v := 30) hx hb dX13_readsLengthen_47 (by decide) ?_
      obtain ⟨q31, hq31, hf⟩ := bnd hf
      refine hcV_i hx hb hml hown hts hKs hT hb0 hH (As := [.int 0, .int 30]) (rest := []) (k_X13_number l E K H.size o 0 30 q30 ho hq31) (gV m9_111 m9_113 ms_119 m1_16 m9_114) hd_X13_number ⟨Nat.le_of_ble_eq_true rfl, Nat.le_of_ble_eq_true rfl, rfl, rfl⟩ rfl ho rfl rfl rfl hl.1 rfl rc0 rfl dX13_readsLengthen_49 ⟨Nat.zero_le _, Nat.zero_le _⟩ (fun H locs hH => ?_)
      refine lv_istore_n (i := 2) (lv' := [(2, .int (q31.1)), (1, .int (q2.1)), (0, rv E (some o))]) hx hb dX13_readsLengthen_52 rfl hl (by decide) rfl (fun ls hl => ?_)
      refine hl_aload_n hx hb dX13_readsLengthen_53 rfl (lv_at hl 2 rfl) ?_
      obtain ⟨q32, hq32, hf⟩ := bnd hf
      refine hcV_i hx hb hml hown hts hKs hT hb0 hH (As := []) (rest := []) (k_X13_fine l E K H.size o q31.2 ho hq32) (gV m9_46 m9_48 ms_104 m1_16 m9_49) hd_X13_fine ⟨Nat.le_of_ble_eq_true rfl, Nat.le_of_ble_eq_true rfl, rfl, rfl⟩ rfl ho rfl rfl rfl hl.1 rfl rc0 rfl dX13_readsLengthen_54 ⟨Nat.zero_le _, Nat.zero_le _⟩ (fun H locs hH => ?_)
      refine lv_if_ne (tgt := 61) hx hb dX13_readsLengthen_57 (by decide) (fun c33 => ?_) (fun c33 => ?_)
      · replace hf := (if_neg c33).symm.trans hf
        refine hl_aload_n hx hb dX13_readsLengthen_61 rfl (lv_at hl 2 rfl) ?_
        refine g13_2 hx hb hts hown hKs hH rfl ho m6_183 dX13_readsLengthen_62 ?_
        refine lv_sipush (v := 166) hx hb dX13_readsLengthen_65 (by decide) ?_
        refine lv_iload_n hx hb dX13_readsLengthen_68 rfl (lv_at hl 1 rfl) ?_
        refine lv_iadd hx hb dX13_readsLengthen_69 ?_
        refine lv_iconst (v := 1) hx hb dX13_readsLengthen_70 (by decide) ?_
        obtain ⟨a34, ha34, hf⟩ := bnd hf
        replace ha34 := cha_some ha34
        obtain ⟨j35, hj35, hf⟩ := bnd hf
        obtain ⟨w36, hw36, hf⟩ := bnd hf
        replace hw36 := Option.some.inj hw36
        refine hw_iast (x := 1) hx hb hKs hH ha34.1 ha34.2 hj35 dX13_readsLengthen_71 (fun H locs hH => ?_)
        rw [hw36] at hH
        refine hl_aload_n hx hb dX13_readsLengthen_72 rfl (lv_at hl 2 rfl) ?_
        refine g13_2 hx hb hts hown hKs hH rfl ho m6_183 dX13_readsLengthen_73 ?_
        refine lv_sipush (v := 160) hx hb dX13_readsLengthen_76 (by decide) ?_
        refine lv_iload_n hx hb dX13_readsLengthen_79 rfl (lv_at hl 1 rfl) ?_
        refine lv_iadd hx hb dX13_readsLengthen_80 ?_
        refine lv_iload_n hx hb dX13_readsLengthen_81 rfl (lv_at hl 0 rfl) ?_
        obtain ⟨a37, ha37, hf⟩ := bnd hf
        replace ha37 := cha_some ha37
        obtain ⟨j38, hj38, hf⟩ := bnd hf
        obtain ⟨w39, hw39, hf⟩ := bnd hf
        replace hw39 := Option.some.inj hw39
        refine hw_iast (x := q31.1) hx hb hKs hH ha37.1 ha37.2 hj38 dX13_readsLengthen_82 (fun H locs hH => ?_)
        rw [hw39] at hH
        exact hw_vret hx hb hret hf hH hlocks dX13_readsLengthen_83
      · replace hf := (if_pos c33).symm.trans hf
        exact hw_vret hx hb hret hf hH hlocks dX13_readsLengthen_60

theorem dX13_readsCap_0 : decode cX13_readsCap 0 = .ok (.aload_n 0, 1) := by decide +kernel
theorem dX13_readsCap_1 : decode cX13_readsCap 1 = .ok (.aload_n 0, 1) := by decide +kernel
theorem dX13_readsCap_2 : decode cX13_readsCap 2 = .ok (.getfield 13, 3) := by decide +kernel
theorem dX13_readsCap_5 : decode cX13_readsCap 5 = .ok (.sipush 165, 3) := by decide +kernel
theorem dX13_readsCap_8 : decode cX13_readsCap 8 = .ok (.iaload, 1) := by decide +kernel
theorem dX13_readsCap_9 : decode cX13_readsCap 9 = .ok (.ifCond .ne 7, 3) := by decide +kernel
theorem dX13_readsCap_12 : decode cX13_readsCap 12 = .ok (.iconst 1, 1) := by decide +kernel
theorem dX13_readsCap_13 : decode cX13_readsCap 13 = .ok (.goto 4, 3) := by decide +kernel
theorem dX13_readsCap_16 : decode cX13_readsCap 16 = .ok (.iconst 0, 1) := by decide +kernel
theorem dX13_readsCap_17 : decode cX13_readsCap 17 = .ok (.iconst 3, 1) := by decide +kernel
theorem dX13_readsCap_18 : decode cX13_readsCap 18 = .ok (.invokevirtual 392, 3) := by decide +kernel
theorem dX13_readsCap_21 : decode cX13_readsCap 21 = .ok (.aload_n 0, 1) := by decide +kernel
theorem dX13_readsCap_22 : decode cX13_readsCap 22 = .ok (.invokevirtual 399, 3) := by decide +kernel
theorem dX13_readsCap_25 : decode cX13_readsCap 25 = .ok (.aload_n 0, 1) := by decide +kernel
theorem dX13_readsCap_26 : decode cX13_readsCap 26 = .ok (.sipush 165, 3) := by decide +kernel
theorem dX13_readsCap_29 : decode cX13_readsCap 29 = .ok (.iconst 1, 1) := by decide +kernel
theorem dX13_readsCap_30 : decode cX13_readsCap 30 = .ok (.invokevirtual 434, 3) := by decide +kernel
theorem dX13_readsCap_33 : decode cX13_readsCap 33 = .ok (.aload_n 0, 1) := by decide +kernel
theorem dX13_readsCap_34 : decode cX13_readsCap 34 = .ok (.sipush 164, 3) := by decide +kernel
theorem dX13_readsCap_37 : decode cX13_readsCap 37 = .ok (.aload_n 0, 1) := by decide +kernel
theorem dX13_readsCap_38 : decode cX13_readsCap 38 = .ok (.iconst 0, 1) := by decide +kernel
theorem dX13_readsCap_39 : decode cX13_readsCap 39 = .ok (.bipush 60, 2) := by decide +kernel
theorem dX13_readsCap_41 : decode cX13_readsCap 41 = .ok (.invokevirtual 405, 3) := by decide +kernel
theorem dX13_readsCap_44 : decode cX13_readsCap 44 = .ok (.invokevirtual 434, 3) := by decide +kernel
theorem dX13_readsCap_47 : decode cX13_readsCap 47 = .ok (.return_, 1) := by decide +kernel
theorem hd_X13_readsCap : yX13_readsCap.cls = RX13 ∧ yX13_readsCap.cls ≠ "java/lang/invoke/MethodHandle" ∧ yX13_readsCap.cls ≠ "java/lang/invoke/VarHandle" ∧ (parseMethodDescriptor yX13_readsCap.desc).map (fun d => d.parameters.length) = some 0 := by decide +kernel
theorem hs_X13_readsCap : yX13_readsCap.cls ≠ "java/lang/invoke/MethodHandle" ∧ yX13_readsCap.cls ≠ "java/lang/invoke/VarHandle" ∧ (parseMethodDescriptor yX13_readsCap.desc).map (fun d => d.parameters.length) = some 0 := by decide +kernel
set_option maxHeartbeats 4000000 in
set_option maxRecDepth 100000 in
theorem k_X13_readsCap (l : Launch) (E : Ev) (K : Kd) (z : Nat) (o : Nat) (w : Wd) (ho : K o = some (11, 0)) {w' : Wd} (hf : f_X13_readsCap K o w = some w') : Met l yX13_readsCap (Cond.code yX13_readsCap cX13_readsCap 1 (Option.none : Option Jvm.ClassFile.FieldType) :: bt) ({ frames := 8, cells := 0, slots := 0, locals := 172 } : Room) (va_Pc [rv E (some o)] (HB E K w z)) (QV E K z w') 0 0 (hA E) := by
  refine Met.ofW (cc := cX13_readsCap) (maxL := 1) (ret := (Option.none : Option Jvm.ClassFile.FieldType)) (by decide) rfl ?_
  intro p e s m args below meth c s₁ B hml hv
  obtain ⟨rfl, hz, hP, hKs, hT, hb0⟩ := hv
  have C : CX p l e s m _ meth c cX13_readsCap 1 RX13 (Option.none : Option Jvm.ClassFile.FieldType) E := ⟨B.exec, B.bytes, hml, findClass_of_methodNamed B.named, fun w h => atoms_spec (ws := Cond.code yX13_readsCap cX13_readsCap 1 (Option.none : Option Jvm.ClassFile.FieldType) :: bt) B.pre w (List.mem_cons_of_mem _ h), hKs, hT, by rw [hz]; exact hb0, B.notSynchronized, B.returns⟩
  have hH : HQ E K z w s s.heap [] := ⟨hP, va_S.rf, hz⟩
  obtain ⟨hx, hb, hml, hown, hts, hKs, hT, hb0, hlocks, hret⟩ := id C
  have hl := lv_entry [rv E (some o)] (n := 1) (by simp [lg_len_nil, lg_len_i, lg_len_j, lg_len_q, lg_len_f, lg_len_d, lg_len_r])
  rw [lg_entry_eq]
  generalize (lg_sl [rv E (some o)] ++ List.replicate (1 - (lg_sl [rv E (some o)]).length) Slot.unset).toArray = ls at hl ⊢
  replace hl : lv_has ls 1 [(0, rv E (some o))] := by simpa only [lv_args, cat_q, cat_i, cat_j, reduceIte, Nat.reduceEqDiff, Nat.reduceAdd, Nat.zero_add] using hl
  generalize s.heap = H at hH ⊢
  unfold f_X13_readsCap at hf
  refine hl_aload_n hx hb dX13_readsCap_0 rfl (lv_at hl 0 rfl) ?_
  refine hl_aload_n hx hb dX13_readsCap_1 rfl (lv_at hl 0 rfl) ?_
  refine g13_2 hx hb hts hown hKs hH rfl ho m6_183 dX13_readsCap_2 ?_
  refine lv_sipush (v := 165) hx hb dX13_readsCap_5 (by decide) ?_
  obtain ⟨a1, ha1, hf⟩ := bnd hf
  replace ha1 := cha_some ha1
  obtain ⟨j2, hj2, hf⟩ := bnd hf
  refine hw_iald hx hb hKs hH ha1.1 ha1.2 hj2 dX13_readsCap_8 ?_
  refine lv_if_ne (tgt := 16) hx hb dX13_readsCap_9 (by decide) (fun c3 => ?_) (fun c3 => ?_)
  · replace hf := (if_neg c3).symm.trans hf
    refine lv_iconst (v := 0) hx hb dX13_readsCap_16 (by decide) ?_
    refine lv_iconst (v := 3) hx hb dX13_readsCap_17 (by decide) ?_
    obtain ⟨q4, hq4, hf⟩ := bnd hf
    refine hcV_v hx hb hml hown hts hKs hT hb0 hH (As := [.int 0, .int 3]) (rest := []) (k_X13_needs l E K H.size o false 3 w ho hq4) (gV m9_66 m9_68 ms_109 m1_16 m9_69) hd_X13_needs ⟨Nat.le_of_ble_eq_true rfl, Nat.le_of_ble_eq_true rfl, rfl, rfl⟩ rfl ho rfl rfl rfl hl.1 rfl rc0 rfl dX13_readsCap_18 ⟨Nat.zero_le _, Nat.zero_le _⟩ (fun H locs hH => ?_)
    refine hl_aload_n hx hb dX13_readsCap_21 rfl (lv_at hl 0 rfl) ?_
    obtain ⟨q5, hq5, hf⟩ := bnd hf
    refine hcV_v hx hb hml hown hts hKs hT hb0 hH (As := []) (rest := []) (k_X13_goOn l E K H.size o q4 ho hq5) (gV m9_70 m9_72 ms_110 m1_16 m9_73) hd_X13_goOn ⟨Nat.le_of_ble_eq_true rfl, Nat.le_of_ble_eq_true rfl, rfl, rfl⟩ rfl ho rfl rfl rfl hl.1 rfl rc0 rfl dX13_readsCap_22 ⟨Nat.zero_le _, Nat.zero_le _⟩ (fun H locs hH => ?_)
    refine hl_aload_n hx hb dX13_readsCap_25 rfl (lv_at hl 0 rfl) ?_
    refine lv_sipush (v := 165) hx hb dX13_readsCap_26 (by decide) ?_
    refine lv_iconst (v := 1) hx hb dX13_readsCap_29 (by decide) ?_
    obtain ⟨q6, hq6, hf⟩ := bnd hf
    refine hcV_v hx hb hml hown hts hKs hT hb0 hH (As := [.int 165, .int 1]) (rest := []) (k_X13_laysDraft l E K H.size o 165 1 q5 ho hq6) (gV m9_115 m9_117 ms_120 m1_16 m9_118) hd_X13_laysDraft ⟨Nat.le_of_ble_eq_true rfl, Nat.le_of_ble_eq_true rfl, rfl, rfl⟩ rfl ho rfl rfl rfl hl.1 rfl rc0 rfl dX13_readsCap_30 ⟨Nat.zero_le _, Nat.zero_le _⟩ (fun H locs hH => ?_)
    refine hl_aload_n hx hb dX13_readsCap_33 rfl (lv_at hl 0 rfl) ?_
    refine lv_sipush (v := 164) hx hb dX13_readsCap_34 (by decide) ?_
    refine hl_aload_n hx hb dX13_readsCap_37 rfl (lv_at hl 0 rfl) ?_
    refine lv_iconst (v := 0) hx hb dX13_readsCap_38 (by decide) ?_
    refine lv_bipush (v := 60) hx hb dX13_readsCap_39 (by decide) ?_
    obtain ⟨q7, hq7, hf⟩ := bnd hf
    refine hcV_i hx hb hml hown hts hKs hT hb0 hH (As := [.int 0, .int 60]) (rest := [.int 164, rv E (some o)]) (k_X13_number l E K H.size o 0 60 q6 ho hq7) (gV m9_111 m9_113 ms_119 m1_16 m9_114) hd_X13_number ⟨Nat.le_of_ble_eq_true rfl, Nat.le_of_ble_eq_true rfl, rfl, rfl⟩ rfl ho rfl rfl rfl hl.1 rfl (rcI (rcV rc0)) rfl dX13_readsCap_41 ⟨Nat.zero_le _, Nat.zero_le _⟩ (fun H locs hH => ?_)
    obtain ⟨q8, hq8, hf⟩ := bnd hf
    refine hcV_v hx hb hml hown hts hKs hT hb0 hH (As := [.int 164, .int (q7.1)]) (rest := []) (k_X13_laysDraft l E K H.size o 164 q7.1 q7.2 ho hq8) (gV m9_115 m9_117 ms_120 m1_16 m9_118) hd_X13_laysDraft ⟨Nat.le_of_ble_eq_true rfl, Nat.le_of_ble_eq_true rfl, rfl, rfl⟩ rfl ho rfl rfl rfl hl.1 rfl rc0 rfl dX13_readsCap_44 ⟨Nat.zero_le _, Nat.zero_le _⟩ (fun H locs hH => ?_)
    exact hw_vret hx hb hret hf hH hlocks dX13_readsCap_47
  · replace hf := (if_pos c3).symm.trans hf
    refine lv_iconst (v := 1) hx hb dX13_readsCap_12 (by decide) ?_
    refine lv_goto (tgt := 17) hx hb dX13_readsCap_13 (by decide) ?_
    refine lv_iconst (v := 3) hx hb dX13_readsCap_17 (by decide) ?_
    obtain ⟨q9, hq9, hf⟩ := bnd hf
    refine hcV_v hx hb hml hown hts hKs hT hb0 hH (As := [.int 1, .int 3]) (rest := []) (k_X13_needs l E K H.size o true 3 w ho hq9) (gV m9_66 m9_68 ms_109 m1_16 m9_69) hd_X13_needs ⟨Nat.le_of_ble_eq_true rfl, Nat.le_of_ble_eq_true rfl, rfl, rfl⟩ rfl ho rfl rfl rfl hl.1 rfl rc0 rfl dX13_readsCap_18 ⟨Nat.zero_le _, Nat.zero_le _⟩ (fun H locs hH => ?_)
    refine hl_aload_n hx hb dX13_readsCap_21 rfl (lv_at hl 0 rfl) ?_
    obtain ⟨q10, hq10, hf⟩ := bnd hf
    refine hcV_v hx hb hml hown hts hKs hT hb0 hH (As := []) (rest := []) (k_X13_goOn l E K H.size o q9 ho hq10) (gV m9_70 m9_72 ms_110 m1_16 m9_73) hd_X13_goOn ⟨Nat.le_of_ble_eq_true rfl, Nat.le_of_ble_eq_true rfl, rfl, rfl⟩ rfl ho rfl rfl rfl hl.1 rfl rc0 rfl dX13_readsCap_22 ⟨Nat.zero_le _, Nat.zero_le _⟩ (fun H locs hH => ?_)
    refine hl_aload_n hx hb dX13_readsCap_25 rfl (lv_at hl 0 rfl) ?_
    refine lv_sipush (v := 165) hx hb dX13_readsCap_26 (by decide) ?_
    refine lv_iconst (v := 1) hx hb dX13_readsCap_29 (by decide) ?_
    obtain ⟨q11, hq11, hf⟩ := bnd hf
    refine hcV_v hx hb hml hown hts hKs hT hb0 hH (As := [.int 165, .int 1]) (rest := []) (k_X13_laysDraft l E K H.size o 165 1 q10 ho hq11) (gV m9_115 m9_117 ms_120 m1_16 m9_118) hd_X13_laysDraft ⟨Nat.le_of_ble_eq_true rfl, Nat.le_of_ble_eq_true rfl, rfl, rfl⟩ rfl ho rfl rfl rfl hl.1 rfl rc0 rfl dX13_readsCap_30 ⟨Nat.zero_le _, Nat.zero_le _⟩ (fun H locs hH => ?_)
    refine hl_aload_n hx hb dX13_readsCap_33 rfl (lv_at hl 0 rfl) ?_
    refine lv_sipush (v := 164) hx hb dX13_readsCap_34 (by decide) ?_
    refine hl_aload_n hx hb dX13_readsCap_37 rfl (lv_at hl 0 rfl) ?_
    refine lv_iconst (v := 0) hx hb dX13_readsCap_38 (by decide) ?_
    refine lv_bipush (v := 60) hx hb dX13_readsCap_39 (by decide) ?_
    obtain ⟨q12, hq12, hf⟩ := bnd hf
    refine hcV_i hx hb hml hown hts hKs hT hb0 hH (As := [.int 0, .int 60]) (rest := [.int 164, rv E (some o)]) (k_X13_number l E K H.size o 0 60 q11 ho hq12) (gV m9_111 m9_113 ms_119 m1_16 m9_114) hd_X13_number ⟨Nat.le_of_ble_eq_true rfl, Nat.le_of_ble_eq_true rfl, rfl, rfl⟩ rfl ho rfl rfl rfl hl.1 rfl (rcI (rcV rc0)) rfl dX13_readsCap_41 ⟨Nat.zero_le _, Nat.zero_le _⟩ (fun H locs hH => ?_)
    obtain ⟨q13, hq13, hf⟩ := bnd hf
    refine hcV_v hx hb hml hown hts hKs hT hb0 hH (As := [.int 164, .int (q12.1)]) (rest := []) (k_X13_laysDraft l E K H.size o 164 q12.1 q12.2 ho hq13) (gV m9_115 m9_117 ms_120 m1_16 m9_118) hd_X13_laysDraft ⟨Nat.le_of_ble_eq_true rfl, Nat.le_of_ble_eq_true rfl, rfl, rfl⟩ rfl ho rfl rfl rfl hl.1 rfl rc0 rfl dX13_readsCap_44 ⟨Nat.zero_le _, Nat.zero_le _⟩ (fun H locs hH => ?_)
    exact hw_vret hx hb hret hf hH hlocks dX13_readsCap_47

theorem dX13_statement_0 : decode cX13_statement 0 = .ok (.aload_n 0, 1) := by decide +kernel
theorem dX13_statement_1 : decode cX13_statement 1 = .ok (.iconst 0, 1) := by decide +kernel
theorem dX13_statement_2 : decode cX13_statement 2 = .ok (.invokevirtual 386, 3) := by decide +kernel
theorem dX13_statement_5 : decode cX13_statement 5 = .ok (.ifCond .eq 10, 3) := by decide +kernel
theorem dX13_statement_8 : decode cX13_statement 8 = .ok (.aload_n 0, 1) := by decide +kernel
theorem dX13_statement_9 : decode cX13_statement 9 = .ok (.invokevirtual 444, 3) := by decide +kernel
theorem dX13_statement_12 : decode cX13_statement 12 = .ok (.goto 134, 3) := by decide +kernel
theorem dX13_statement_15 : decode cX13_statement 15 = .ok (.aload_n 0, 1) := by decide +kernel
theorem dX13_statement_16 : decode cX13_statement 16 = .ok (.iconst 1, 1) := by decide +kernel
theorem dX13_statement_17 : decode cX13_statement 17 = .ok (.invokevirtual 386, 3) := by decide +kernel
theorem dX13_statement_20 : decode cX13_statement 20 = .ok (.ifCond .eq 10, 3) := by decide +kernel
theorem dX13_statement_23 : decode cX13_statement 23 = .ok (.aload_n 0, 1) := by decide +kernel
theorem dX13_statement_24 : decode cX13_statement 24 = .ok (.invokevirtual 447, 3) := by decide +kernel
theorem dX13_statement_27 : decode cX13_statement 27 = .ok (.goto 119, 3) := by decide +kernel
theorem dX13_statement_30 : decode cX13_statement 30 = .ok (.aload_n 0, 1) := by decide +kernel
theorem dX13_statement_31 : decode cX13_statement 31 = .ok (.iconst 3, 1) := by decide +kernel
theorem dX13_statement_32 : decode cX13_statement 32 = .ok (.invokevirtual 386, 3) := by decide +kernel
theorem dX13_statement_35 : decode cX13_statement 35 = .ok (.ifCond .eq 10, 3) := by decide +kernel
theorem dX13_statement_38 : decode cX13_statement 38 = .ok (.aload_n 0, 1) := by decide +kernel
theorem dX13_statement_39 : decode cX13_statement 39 = .ok (.invokevirtual 450, 3) := by decide +kernel
theorem dX13_statement_42 : decode cX13_statement 42 = .ok (.goto 104, 3) := by decide +kernel
theorem dX13_statement_45 : decode cX13_statement 45 = .ok (.aload_n 0, 1) := by decide +kernel
theorem dX13_statement_46 : decode cX13_statement 46 = .ok (.iconst 5, 1) := by decide +kernel
theorem dX13_statement_47 : decode cX13_statement 47 = .ok (.invokevirtual 386, 3) := by decide +kernel
theorem dX13_statement_50 : decode cX13_statement 50 = .ok (.ifCond .eq 10, 3) := by decide +kernel
theorem dX13_statement_53 : decode cX13_statement 53 = .ok (.aload_n 0, 1) := by decide +kernel
theorem dX13_statement_54 : decode cX13_statement 54 = .ok (.invokevirtual 453, 3) := by decide +kernel
theorem dX13_statement_57 : decode cX13_statement 57 = .ok (.goto 89, 3) := by decide +kernel
theorem dX13_statement_60 : decode cX13_statement 60 = .ok (.aload_n 0, 1) := by decide +kernel
theorem dX13_statement_61 : decode cX13_statement 61 = .ok (.bipush 7, 2) := by decide +kernel
theorem dX13_statement_63 : decode cX13_statement 63 = .ok (.invokevirtual 386, 3) := by decide +kernel
theorem dX13_statement_66 : decode cX13_statement 66 = .ok (.ifCond .eq 10, 3) := by decide +kernel
theorem dX13_statement_69 : decode cX13_statement 69 = .ok (.aload_n 0, 1) := by decide +kernel
theorem dX13_statement_70 : decode cX13_statement 70 = .ok (.invokevirtual 456, 3) := by decide +kernel
theorem dX13_statement_73 : decode cX13_statement 73 = .ok (.goto 73, 3) := by decide +kernel
theorem dX13_statement_76 : decode cX13_statement 76 = .ok (.aload_n 0, 1) := by decide +kernel
theorem dX13_statement_77 : decode cX13_statement 77 = .ok (.bipush 12, 2) := by decide +kernel
theorem dX13_statement_79 : decode cX13_statement 79 = .ok (.invokevirtual 386, 3) := by decide +kernel
theorem dX13_statement_82 : decode cX13_statement 82 = .ok (.ifCond .eq 10, 3) := by decide +kernel
theorem dX13_statement_85 : decode cX13_statement 85 = .ok (.aload_n 0, 1) := by decide +kernel
theorem dX13_statement_86 : decode cX13_statement 86 = .ok (.invokevirtual 459, 3) := by decide +kernel
theorem dX13_statement_89 : decode cX13_statement 89 = .ok (.goto 57, 3) := by decide +kernel
theorem dX13_statement_92 : decode cX13_statement 92 = .ok (.aload_n 0, 1) := by decide +kernel
theorem dX13_statement_93 : decode cX13_statement 93 = .ok (.bipush 13, 2) := by decide +kernel
theorem dX13_statement_95 : decode cX13_statement 95 = .ok (.invokevirtual 386, 3) := by decide +kernel
theorem dX13_statement_98 : decode cX13_statement 98 = .ok (.ifCond .eq 10, 3) := by decide +kernel
theorem dX13_statement_101 : decode cX13_statement 101 = .ok (.aload_n 0, 1) := by decide +kernel
theorem dX13_statement_102 : decode cX13_statement 102 = .ok (.invokevirtual 462, 3) := by decide +kernel
theorem dX13_statement_105 : decode cX13_statement 105 = .ok (.goto 41, 3) := by decide +kernel
theorem dX13_statement_108 : decode cX13_statement 108 = .ok (.aload_n 0, 1) := by decide +kernel
theorem dX13_statement_109 : decode cX13_statement 109 = .ok (.bipush 14, 2) := by decide +kernel
theorem dX13_statement_111 : decode cX13_statement 111 = .ok (.invokevirtual 386, 3) := by decide +kernel
theorem dX13_statement_114 : decode cX13_statement 114 = .ok (.ifCond .eq 10, 3) := by decide +kernel
theorem dX13_statement_117 : decode cX13_statement 117 = .ok (.aload_n 0, 1) := by decide +kernel
theorem dX13_statement_118 : decode cX13_statement 118 = .ok (.invokevirtual 465, 3) := by decide +kernel
theorem dX13_statement_121 : decode cX13_statement 121 = .ok (.goto 25, 3) := by decide +kernel
theorem dX13_statement_124 : decode cX13_statement 124 = .ok (.aload_n 0, 1) := by decide +kernel
theorem dX13_statement_125 : decode cX13_statement 125 = .ok (.bipush 15, 2) := by decide +kernel
theorem dX13_statement_127 : decode cX13_statement 127 = .ok (.invokevirtual 386, 3) := by decide +kernel
theorem dX13_statement_130 : decode cX13_statement 130 = .ok (.ifCond .eq 10, 3) := by decide +kernel
theorem dX13_statement_133 : decode cX13_statement 133 = .ok (.aload_n 0, 1) := by decide +kernel
theorem dX13_statement_134 : decode cX13_statement 134 = .ok (.invokevirtual 468, 3) := by decide +kernel
theorem dX13_statement_137 : decode cX13_statement 137 = .ok (.goto 9, 3) := by decide +kernel
theorem dX13_statement_140 : decode cX13_statement 140 = .ok (.aload_n 0, 1) := by decide +kernel
theorem dX13_statement_141 : decode cX13_statement 141 = .ok (.iconst 0, 1) := by decide +kernel
theorem dX13_statement_142 : decode cX13_statement 142 = .ok (.iconst 1, 1) := by decide +kernel
theorem dX13_statement_143 : decode cX13_statement 143 = .ok (.invokevirtual 392, 3) := by decide +kernel
theorem dX13_statement_146 : decode cX13_statement 146 = .ok (.aload_n 0, 1) := by decide +kernel
theorem dX13_statement_147 : decode cX13_statement 147 = .ok (.aload_n 0, 1) := by decide +kernel
theorem dX13_statement_148 : decode cX13_statement 148 = .ok (.getfield 346, 3) := by decide +kernel
theorem dX13_statement_151 : decode cX13_statement 151 = .ok (.iconst 3, 1) := by decide +kernel
theorem dX13_statement_152 : decode cX13_statement 152 = .ok (.if_icmp .ne 7, 3) := by decide +kernel
theorem dX13_statement_155 : decode cX13_statement 155 = .ok (.iconst 1, 1) := by decide +kernel
theorem dX13_statement_156 : decode cX13_statement 156 = .ok (.goto 4, 3) := by decide +kernel
theorem dX13_statement_159 : decode cX13_statement 159 = .ok (.iconst 0, 1) := by decide +kernel
theorem dX13_statement_160 : decode cX13_statement 160 = .ok (.iconst 1, 1) := by decide +kernel
theorem dX13_statement_161 : decode cX13_statement 161 = .ok (.invokevirtual 392, 3) := by decide +kernel
theorem dX13_statement_164 : decode cX13_statement 164 = .ok (.aload_n 0, 1) := by decide +kernel
theorem dX13_statement_165 : decode cX13_statement 165 = .ok (.invokevirtual 399, 3) := by decide +kernel
theorem dX13_statement_168 : decode cX13_statement 168 = .ok (.return_, 1) := by decide +kernel
theorem hd_X13_statement : yX13_statement.cls = RX13 ∧ yX13_statement.cls ≠ "java/lang/invoke/MethodHandle" ∧ yX13_statement.cls ≠ "java/lang/invoke/VarHandle" ∧ (parseMethodDescriptor yX13_statement.desc).map (fun d => d.parameters.length) = some 0 := by decide +kernel
theorem hs_X13_statement : yX13_statement.cls ≠ "java/lang/invoke/MethodHandle" ∧ yX13_statement.cls ≠ "java/lang/invoke/VarHandle" ∧ (parseMethodDescriptor yX13_statement.desc).map (fun d => d.parameters.length) = some 0 := by decide +kernel
set_option maxHeartbeats 4000000 in
set_option maxRecDepth 100000 in
theorem k_X13_statement (l : Launch) (E : Ev) (K : Kd) (z : Nat) (o : Nat) (w : Wd) (ho : K o = some (11, 0)) {w' : Wd} (hf : f_X13_statement K o w = some w') : Met l yX13_statement (Cond.code yX13_statement cX13_statement 1 (Option.none : Option Jvm.ClassFile.FieldType) :: bt) ({ frames := 10, cells := 0, slots := 0, locals := 219 } : Room) (va_Pc [rv E (some o)] (HB E K w z)) (QV E K z w') 0 0 (hA E) := by
  refine Met.ofW (cc := cX13_statement) (maxL := 1) (ret := (Option.none : Option Jvm.ClassFile.FieldType)) (by decide) rfl ?_
  intro p e s m args below meth c s₁ B hml hv
  obtain ⟨rfl, hz, hP, hKs, hT, hb0⟩ := hv
  have C : CX p l e s m _ meth c cX13_statement 1 RX13 (Option.none : Option Jvm.ClassFile.FieldType) E := ⟨B.exec, B.bytes, hml, findClass_of_methodNamed B.named, fun w h => atoms_spec (ws := Cond.code yX13_statement cX13_statement 1 (Option.none : Option Jvm.ClassFile.FieldType) :: bt) B.pre w (List.mem_cons_of_mem _ h), hKs, hT, by rw [hz]; exact hb0, B.notSynchronized, B.returns⟩
  have hH : HQ E K z w s s.heap [] := ⟨hP, va_S.rf, hz⟩
  obtain ⟨hx, hb, hml, hown, hts, hKs, hT, hb0, hlocks, hret⟩ := id C
  have hl := lv_entry [rv E (some o)] (n := 1) (by simp [lg_len_nil, lg_len_i, lg_len_j, lg_len_q, lg_len_f, lg_len_d, lg_len_r])
  rw [lg_entry_eq]
  generalize (lg_sl [rv E (some o)] ++ List.replicate (1 - (lg_sl [rv E (some o)]).length) Slot.unset).toArray = ls at hl ⊢
  replace hl : lv_has ls 1 [(0, rv E (some o))] := by simpa only [lv_args, cat_q, cat_i, cat_j, reduceIte, Nat.reduceEqDiff, Nat.reduceAdd, Nat.zero_add] using hl
  generalize s.heap = H at hH ⊢
  unfold f_X13_statement at hf
  refine hl_aload_n hx hb dX13_statement_0 rfl (lv_at hl 0 rfl) ?_
  refine lv_iconst (v := 0) hx hb dX13_statement_1 (by decide) ?_
  obtain ⟨q1, hq1, hf⟩ := bnd hf
  refine hcV_i hx hb hml hown hts hKs hT hb0 hH (As := [.int 0]) (rest := []) (k_X13_isWord l E K H.size o 0 w ho hq1) (gV m9_54 m9_56 ms_106 m1_16 m9_57) hd_X13_isWord ⟨Nat.le_of_ble_eq_true rfl, Nat.le_of_ble_eq_true rfl, rfl, rfl⟩ rfl ho rfl rfl rfl hl.1 rfl rc0 rfl dX13_statement_2 ⟨Nat.zero_le _, Nat.zero_le _⟩ (fun H locs hH => ?_)
  refine lv_if_eq (tgt := 15) hx hb dX13_statement_5 (by decide) (fun c2 => ?_) (fun c2 => ?_)
  · replace hf := (if_pos c2).symm.trans hf
    refine hl_aload_n hx hb dX13_statement_15 rfl (lv_at hl 0 rfl) ?_
    refine lv_iconst (v := 1) hx hb dX13_statement_16 (by decide) ?_
    obtain ⟨q3, hq3, hf⟩ := bnd hf
    refine hcV_i hx hb hml hown hts hKs hT hb0 hH (As := [.int 1]) (rest := []) (k_X13_isWord l E K H.size o 1 q1.2 ho hq3) (gV m9_54 m9_56 ms_106 m1_16 m9_57) hd_X13_isWord ⟨Nat.le_of_ble_eq_true rfl, Nat.le_of_ble_eq_true rfl, rfl, rfl⟩ rfl ho rfl rfl rfl hl.1 rfl rc0 rfl dX13_statement_17 ⟨Nat.zero_le _, Nat.zero_le _⟩ (fun H locs hH => ?_)
    refine lv_if_eq (tgt := 30) hx hb dX13_statement_20 (by decide) (fun c4 => ?_) (fun c4 => ?_)
    · replace hf := (if_pos c4).symm.trans hf
      refine hl_aload_n hx hb dX13_statement_30 rfl (lv_at hl 0 rfl) ?_
      refine lv_iconst (v := 3) hx hb dX13_statement_31 (by decide) ?_
      obtain ⟨q5, hq5, hf⟩ := bnd hf
      refine hcV_i hx hb hml hown hts hKs hT hb0 hH (As := [.int 3]) (rest := []) (k_X13_isWord l E K H.size o 3 q3.2 ho hq5) (gV m9_54 m9_56 ms_106 m1_16 m9_57) hd_X13_isWord ⟨Nat.le_of_ble_eq_true rfl, Nat.le_of_ble_eq_true rfl, rfl, rfl⟩ rfl ho rfl rfl rfl hl.1 rfl rc0 rfl dX13_statement_32 ⟨Nat.zero_le _, Nat.zero_le _⟩ (fun H locs hH => ?_)
      refine lv_if_eq (tgt := 45) hx hb dX13_statement_35 (by decide) (fun c6 => ?_) (fun c6 => ?_)
      · replace hf := (if_pos c6).symm.trans hf
        refine hl_aload_n hx hb dX13_statement_45 rfl (lv_at hl 0 rfl) ?_
        refine lv_iconst (v := 5) hx hb dX13_statement_46 (by decide) ?_
        obtain ⟨q7, hq7, hf⟩ := bnd hf
        refine hcV_i hx hb hml hown hts hKs hT hb0 hH (As := [.int 5]) (rest := []) (k_X13_isWord l E K H.size o 5 q5.2 ho hq7) (gV m9_54 m9_56 ms_106 m1_16 m9_57) hd_X13_isWord ⟨Nat.le_of_ble_eq_true rfl, Nat.le_of_ble_eq_true rfl, rfl, rfl⟩ rfl ho rfl rfl rfl hl.1 rfl rc0 rfl dX13_statement_47 ⟨Nat.zero_le _, Nat.zero_le _⟩ (fun H locs hH => ?_)
        refine lv_if_eq (tgt := 60) hx hb dX13_statement_50 (by decide) (fun c8 => ?_) (fun c8 => ?_)
        · replace hf := (if_pos c8).symm.trans hf
          refine hl_aload_n hx hb dX13_statement_60 rfl (lv_at hl 0 rfl) ?_
          refine lv_bipush (v := 7) hx hb dX13_statement_61 (by decide) ?_
          obtain ⟨q9, hq9, hf⟩ := bnd hf
          refine hcV_i hx hb hml hown hts hKs hT hb0 hH (As := [.int 7]) (rest := []) (k_X13_isWord l E K H.size o 7 q7.2 ho hq9) (gV m9_54 m9_56 ms_106 m1_16 m9_57) hd_X13_isWord ⟨Nat.le_of_ble_eq_true rfl, Nat.le_of_ble_eq_true rfl, rfl, rfl⟩ rfl ho rfl rfl rfl hl.1 rfl rc0 rfl dX13_statement_63 ⟨Nat.zero_le _, Nat.zero_le _⟩ (fun H locs hH => ?_)
          refine lv_if_eq (tgt := 76) hx hb dX13_statement_66 (by decide) (fun c10 => ?_) (fun c10 => ?_)
          · replace hf := (if_pos c10).symm.trans hf
            refine hl_aload_n hx hb dX13_statement_76 rfl (lv_at hl 0 rfl) ?_
            refine lv_bipush (v := 12) hx hb dX13_statement_77 (by decide) ?_
            obtain ⟨q11, hq11, hf⟩ := bnd hf
            refine hcV_i hx hb hml hown hts hKs hT hb0 hH (As := [.int 12]) (rest := []) (k_X13_isWord l E K H.size o 12 q9.2 ho hq11) (gV m9_54 m9_56 ms_106 m1_16 m9_57) hd_X13_isWord ⟨Nat.le_of_ble_eq_true rfl, Nat.le_of_ble_eq_true rfl, rfl, rfl⟩ rfl ho rfl rfl rfl hl.1 rfl rc0 rfl dX13_statement_79 ⟨Nat.zero_le _, Nat.zero_le _⟩ (fun H locs hH => ?_)
            refine lv_if_eq (tgt := 92) hx hb dX13_statement_82 (by decide) (fun c12 => ?_) (fun c12 => ?_)
            · replace hf := (if_pos c12).symm.trans hf
              refine hl_aload_n hx hb dX13_statement_92 rfl (lv_at hl 0 rfl) ?_
              refine lv_bipush (v := 13) hx hb dX13_statement_93 (by decide) ?_
              obtain ⟨q13, hq13, hf⟩ := bnd hf
              refine hcV_i hx hb hml hown hts hKs hT hb0 hH (As := [.int 13]) (rest := []) (k_X13_isWord l E K H.size o 13 q11.2 ho hq13) (gV m9_54 m9_56 ms_106 m1_16 m9_57) hd_X13_isWord ⟨Nat.le_of_ble_eq_true rfl, Nat.le_of_ble_eq_true rfl, rfl, rfl⟩ rfl ho rfl rfl rfl hl.1 rfl rc0 rfl dX13_statement_95 ⟨Nat.zero_le _, Nat.zero_le _⟩ (fun H locs hH => ?_)
              refine lv_if_eq (tgt := 108) hx hb dX13_statement_98 (by decide) (fun c14 => ?_) (fun c14 => ?_)
              · replace hf := (if_pos c14).symm.trans hf
                refine hl_aload_n hx hb dX13_statement_108 rfl (lv_at hl 0 rfl) ?_
                refine lv_bipush (v := 14) hx hb dX13_statement_109 (by decide) ?_
                obtain ⟨q15, hq15, hf⟩ := bnd hf
                refine hcV_i hx hb hml hown hts hKs hT hb0 hH (As := [.int 14]) (rest := []) (k_X13_isWord l E K H.size o 14 q13.2 ho hq15) (gV m9_54 m9_56 ms_106 m1_16 m9_57) hd_X13_isWord ⟨Nat.le_of_ble_eq_true rfl, Nat.le_of_ble_eq_true rfl, rfl, rfl⟩ rfl ho rfl rfl rfl hl.1 rfl rc0 rfl dX13_statement_111 ⟨Nat.zero_le _, Nat.zero_le _⟩ (fun H locs hH => ?_)
                refine lv_if_eq (tgt := 124) hx hb dX13_statement_114 (by decide) (fun c16 => ?_) (fun c16 => ?_)
                · replace hf := (if_pos c16).symm.trans hf
                  refine hl_aload_n hx hb dX13_statement_124 rfl (lv_at hl 0 rfl) ?_
                  refine lv_bipush (v := 15) hx hb dX13_statement_125 (by decide) ?_
                  obtain ⟨q17, hq17, hf⟩ := bnd hf
                  refine hcV_i hx hb hml hown hts hKs hT hb0 hH (As := [.int 15]) (rest := []) (k_X13_isWord l E K H.size o 15 q15.2 ho hq17) (gV m9_54 m9_56 ms_106 m1_16 m9_57) hd_X13_isWord ⟨Nat.le_of_ble_eq_true rfl, Nat.le_of_ble_eq_true rfl, rfl, rfl⟩ rfl ho rfl rfl rfl hl.1 rfl rc0 rfl dX13_statement_127 ⟨Nat.zero_le _, Nat.zero_le _⟩ (fun H locs hH => ?_)
                  refine lv_if_eq (tgt := 140) hx hb dX13_statement_130 (by decide) (fun c18 => ?_) (fun c18 => ?_)
                  · replace hf := (if_pos c18).symm.trans hf
                    refine hl_aload_n hx hb dX13_statement_140 rfl (lv_at hl 0 rfl) ?_
                    refine lv_iconst (v := 0) hx hb dX13_statement_141 (by decide) ?_
                    refine lv_iconst (v := 1) hx hb dX13_statement_142 (by decide) ?_
                    obtain ⟨q19, hq19, hf⟩ := bnd hf
                    refine hcV_v hx hb hml hown hts hKs hT hb0 hH (As := [.int 0, .int 1]) (rest := []) (k_X13_needs l E K H.size o false 1 q17.2 ho hq19) (gV m9_66 m9_68 ms_109 m1_16 m9_69) hd_X13_needs ⟨Nat.le_of_ble_eq_true rfl, Nat.le_of_ble_eq_true rfl, rfl, rfl⟩ rfl ho rfl rfl rfl hl.1 rfl rc0 rfl dX13_statement_143 ⟨Nat.zero_le _, Nat.zero_le _⟩ (fun H locs hH => ?_)
                    refine hl_aload_n hx hb dX13_statement_146 rfl (lv_at hl 0 rfl) ?_
                    refine hl_aload_n hx hb dX13_statement_147 rfl (lv_at hl 0 rfl) ?_
                    refine g13_28 hx hb hts hown hKs hH rfl ho m6_209 dX13_statement_148 ?_
                    refine lv_iconst (v := 3) hx hb dX13_statement_151 (by decide) ?_
                    refine lv_icmp_ne (tgt := 159) hx hb dX13_statement_152 (by decide) (fun c20 => ?_) (fun c20 => ?_)
                    · replace hf := (if_neg c20).symm.trans hf
                      refine lv_iconst (v := 0) hx hb dX13_statement_159 (by decide) ?_
                      refine lv_iconst (v := 1) hx hb dX13_statement_160 (by decide) ?_
                      obtain ⟨q21, hq21, hf⟩ := bnd hf
                      refine hcV_v hx hb hml hown hts hKs hT hb0 hH (As := [.int 0, .int 1]) (rest := []) (k_X13_needs l E K H.size o false 1 q19 ho hq21) (gV m9_66 m9_68 ms_109 m1_16 m9_69) hd_X13_needs ⟨Nat.le_of_ble_eq_true rfl, Nat.le_of_ble_eq_true rfl, rfl, rfl⟩ rfl ho rfl rfl rfl hl.1 rfl rc0 rfl dX13_statement_161 ⟨Nat.zero_le _, Nat.zero_le _⟩ (fun H locs hH => ?_)
                      refine hl_aload_n hx hb dX13_statement_164 rfl (lv_at hl 0 rfl) ?_
                      obtain ⟨q22, hq22, hf⟩ := bnd hf
                      refine hcV_v hx hb hml hown hts hKs hT hb0 hH (As := []) (rest := []) (k_X13_goOn l E K H.size o q21 ho hq22) (gV m9_70 m9_72 ms_110 m1_16 m9_73) hd_X13_goOn ⟨Nat.le_of_ble_eq_true rfl, Nat.le_of_ble_eq_true rfl, rfl, rfl⟩ rfl ho rfl rfl rfl hl.1 rfl rc0 rfl dX13_statement_165 ⟨Nat.zero_le _, Nat.zero_le _⟩ (fun H locs hH => ?_)
                      exact hw_vret hx hb hret hf hH hlocks dX13_statement_168
                    · replace hf := (if_pos c20).symm.trans hf
                      refine lv_iconst (v := 1) hx hb dX13_statement_155 (by decide) ?_
                      refine lv_goto (tgt := 160) hx hb dX13_statement_156 (by decide) ?_
                      refine lv_iconst (v := 1) hx hb dX13_statement_160 (by decide) ?_
                      obtain ⟨q23, hq23, hf⟩ := bnd hf
                      refine hcV_v hx hb hml hown hts hKs hT hb0 hH (As := [.int 1, .int 1]) (rest := []) (k_X13_needs l E K H.size o true 1 q19 ho hq23) (gV m9_66 m9_68 ms_109 m1_16 m9_69) hd_X13_needs ⟨Nat.le_of_ble_eq_true rfl, Nat.le_of_ble_eq_true rfl, rfl, rfl⟩ rfl ho rfl rfl rfl hl.1 rfl rc0 rfl dX13_statement_161 ⟨Nat.zero_le _, Nat.zero_le _⟩ (fun H locs hH => ?_)
                      refine hl_aload_n hx hb dX13_statement_164 rfl (lv_at hl 0 rfl) ?_
                      obtain ⟨q24, hq24, hf⟩ := bnd hf
                      refine hcV_v hx hb hml hown hts hKs hT hb0 hH (As := []) (rest := []) (k_X13_goOn l E K H.size o q23 ho hq24) (gV m9_70 m9_72 ms_110 m1_16 m9_73) hd_X13_goOn ⟨Nat.le_of_ble_eq_true rfl, Nat.le_of_ble_eq_true rfl, rfl, rfl⟩ rfl ho rfl rfl rfl hl.1 rfl rc0 rfl dX13_statement_165 ⟨Nat.zero_le _, Nat.zero_le _⟩ (fun H locs hH => ?_)
                      exact hw_vret hx hb hret hf hH hlocks dX13_statement_168
                  · replace hf := (if_neg c18).symm.trans hf
                    refine hl_aload_n hx hb dX13_statement_133 rfl (lv_at hl 0 rfl) ?_
                    obtain ⟨q25, hq25, hf⟩ := bnd hf
                    refine hcV_v hx hb hml hown hts hKs hT hb0 hH (As := []) (rest := []) (k_X13_readsCap l E K H.size o q17.2 ho hq25) (gV m9_151 m9_153 ms_129 m1_16 m9_154) hd_X13_readsCap ⟨Nat.le_of_ble_eq_true rfl, Nat.le_of_ble_eq_true rfl, rfl, rfl⟩ rfl ho rfl rfl rfl hl.1 rfl rc0 rfl dX13_statement_134 ⟨Nat.zero_le _, Nat.zero_le _⟩ (fun H locs hH => ?_)
                    refine lv_goto (tgt := 146) hx hb dX13_statement_137 (by decide) ?_
                    refine hl_aload_n hx hb dX13_statement_146 rfl (lv_at hl 0 rfl) ?_
                    refine hl_aload_n hx hb dX13_statement_147 rfl (lv_at hl 0 rfl) ?_
                    refine g13_28 hx hb hts hown hKs hH rfl ho m6_209 dX13_statement_148 ?_
                    refine lv_iconst (v := 3) hx hb dX13_statement_151 (by decide) ?_
                    refine lv_icmp_ne (tgt := 159) hx hb dX13_statement_152 (by decide) (fun c26 => ?_) (fun c26 => ?_)
                    · replace hf := (if_neg c26).symm.trans hf
                      refine lv_iconst (v := 0) hx hb dX13_statement_159 (by decide) ?_
                      refine lv_iconst (v := 1) hx hb dX13_statement_160 (by decide) ?_
                      obtain ⟨q27, hq27, hf⟩ := bnd hf
                      refine hcV_v hx hb hml hown hts hKs hT hb0 hH (As := [.int 0, .int 1]) (rest := []) (k_X13_needs l E K H.size o false 1 q25 ho hq27) (gV m9_66 m9_68 ms_109 m1_16 m9_69) hd_X13_needs ⟨Nat.le_of_ble_eq_true rfl, Nat.le_of_ble_eq_true rfl, rfl, rfl⟩ rfl ho rfl rfl rfl hl.1 rfl rc0 rfl dX13_statement_161 ⟨Nat.zero_le _, Nat.zero_le _⟩ (fun H locs hH => ?_)
                      refine hl_aload_n hx hb dX13_statement_164 rfl (lv_at hl 0 rfl) ?_
                      obtain ⟨q28, hq28, hf⟩ := bnd hf
                      refine hcV_v hx hb hml hown hts hKs hT hb0 hH (As := []) (rest := []) (k_X13_goOn l E K H.size o q27 ho hq28) (gV m9_70 m9_72 ms_110 m1_16 m9_73) hd_X13_goOn ⟨Nat.le_of_ble_eq_true rfl, Nat.le_of_ble_eq_true rfl, rfl, rfl⟩ rfl ho rfl rfl rfl hl.1 rfl rc0 rfl dX13_statement_165 ⟨Nat.zero_le _, Nat.zero_le _⟩ (fun H locs hH => ?_)
                      exact hw_vret hx hb hret hf hH hlocks dX13_statement_168
                    · replace hf := (if_pos c26).symm.trans hf
                      refine lv_iconst (v := 1) hx hb dX13_statement_155 (by decide) ?_
                      refine lv_goto (tgt := 160) hx hb dX13_statement_156 (by decide) ?_
                      refine lv_iconst (v := 1) hx hb dX13_statement_160 (by decide) ?_
                      obtain ⟨q29, hq29, hf⟩ := bnd hf
                      refine hcV_v hx hb hml hown hts hKs hT hb0 hH (As := [.int 1, .int 1]) (rest := []) (k_X13_needs l E K H.size o true 1 q25 ho hq29) (gV m9_66 m9_68 ms_109 m1_16 m9_69) hd_X13_needs ⟨Nat.le_of_ble_eq_true rfl, Nat.le_of_ble_eq_true rfl, rfl, rfl⟩ rfl ho rfl rfl rfl hl.1 rfl rc0 rfl dX13_statement_161 ⟨Nat.zero_le _, Nat.zero_le _⟩ (fun H locs hH => ?_)
                      refine hl_aload_n hx hb dX13_statement_164 rfl (lv_at hl 0 rfl) ?_
                      obtain ⟨q30, hq30, hf⟩ := bnd hf
                      refine hcV_v hx hb hml hown hts hKs hT hb0 hH (As := []) (rest := []) (k_X13_goOn l E K H.size o q29 ho hq30) (gV m9_70 m9_72 ms_110 m1_16 m9_73) hd_X13_goOn ⟨Nat.le_of_ble_eq_true rfl, Nat.le_of_ble_eq_true rfl, rfl, rfl⟩ rfl ho rfl rfl rfl hl.1 rfl rc0 rfl dX13_statement_165 ⟨Nat.zero_le _, Nat.zero_le _⟩ (fun H locs hH => ?_)
                      exact hw_vret hx hb hret hf hH hlocks dX13_statement_168
                · replace hf := (if_neg c16).symm.trans hf
                  refine hl_aload_n hx hb dX13_statement_117 rfl (lv_at hl 0 rfl) ?_
                  obtain ⟨q31, hq31, hf⟩ := bnd hf
                  refine hcV_v hx hb hml hown hts hKs hT hb0 hH (As := []) (rest := []) (k_X13_readsLengthen l E K H.size o q15.2 ho hq31) (gV m9_147 m9_149 ms_128 m1_16 m9_150) hd_X13_readsLengthen ⟨Nat.le_of_ble_eq_true rfl, Nat.le_of_ble_eq_true rfl, rfl, rfl⟩ rfl ho rfl rfl rfl hl.1 rfl rc0 rfl dX13_statement_118 ⟨Nat.zero_le _, Nat.zero_le _⟩ (fun H locs hH => ?_)
                  refine lv_goto (tgt := 146) hx hb dX13_statement_121 (by decide) ?_
                  refine hl_aload_n hx hb dX13_statement_146 rfl (lv_at hl 0 rfl) ?_
                  refine hl_aload_n hx hb dX13_statement_147 rfl (lv_at hl 0 rfl) ?_
                  refine g13_28 hx hb hts hown hKs hH rfl ho m6_209 dX13_statement_148 ?_
                  refine lv_iconst (v := 3) hx hb dX13_statement_151 (by decide) ?_
                  refine lv_icmp_ne (tgt := 159) hx hb dX13_statement_152 (by decide) (fun c32 => ?_) (fun c32 => ?_)
                  · replace hf := (if_neg c32).symm.trans hf
                    refine lv_iconst (v := 0) hx hb dX13_statement_159 (by decide) ?_
                    refine lv_iconst (v := 1) hx hb dX13_statement_160 (by decide) ?_
                    obtain ⟨q33, hq33, hf⟩ := bnd hf
                    refine hcV_v hx hb hml hown hts hKs hT hb0 hH (As := [.int 0, .int 1]) (rest := []) (k_X13_needs l E K H.size o false 1 q31 ho hq33) (gV m9_66 m9_68 ms_109 m1_16 m9_69) hd_X13_needs ⟨Nat.le_of_ble_eq_true rfl, Nat.le_of_ble_eq_true rfl, rfl, rfl⟩ rfl ho rfl rfl rfl hl.1 rfl rc0 rfl dX13_statement_161 ⟨Nat.zero_le _, Nat.zero_le _⟩ (fun H locs hH => ?_)
                    refine hl_aload_n hx hb dX13_statement_164 rfl (lv_at hl 0 rfl) ?_
                    obtain ⟨q34, hq34, hf⟩ := bnd hf
                    refine hcV_v hx hb hml hown hts hKs hT hb0 hH (As := []) (rest := []) (k_X13_goOn l E K H.size o q33 ho hq34) (gV m9_70 m9_72 ms_110 m1_16 m9_73) hd_X13_goOn ⟨Nat.le_of_ble_eq_true rfl, Nat.le_of_ble_eq_true rfl, rfl, rfl⟩ rfl ho rfl rfl rfl hl.1 rfl rc0 rfl dX13_statement_165 ⟨Nat.zero_le _, Nat.zero_le _⟩ (fun H locs hH => ?_)
                    exact hw_vret hx hb hret hf hH hlocks dX13_statement_168
                  · replace hf := (if_pos c32).symm.trans hf
                    refine lv_iconst (v := 1) hx hb dX13_statement_155 (by decide) ?_
                    refine lv_goto (tgt := 160) hx hb dX13_statement_156 (by decide) ?_
                    refine lv_iconst (v := 1) hx hb dX13_statement_160 (by decide) ?_
                    obtain ⟨q35, hq35, hf⟩ := bnd hf
                    refine hcV_v hx hb hml hown hts hKs hT hb0 hH (As := [.int 1, .int 1]) (rest := []) (k_X13_needs l E K H.size o true 1 q31 ho hq35) (gV m9_66 m9_68 ms_109 m1_16 m9_69) hd_X13_needs ⟨Nat.le_of_ble_eq_true rfl, Nat.le_of_ble_eq_true rfl, rfl, rfl⟩ rfl ho rfl rfl rfl hl.1 rfl rc0 rfl dX13_statement_161 ⟨Nat.zero_le _, Nat.zero_le _⟩ (fun H locs hH => ?_)
                    refine hl_aload_n hx hb dX13_statement_164 rfl (lv_at hl 0 rfl) ?_
                    obtain ⟨q36, hq36, hf⟩ := bnd hf
                    refine hcV_v hx hb hml hown hts hKs hT hb0 hH (As := []) (rest := []) (k_X13_goOn l E K H.size o q35 ho hq36) (gV m9_70 m9_72 ms_110 m1_16 m9_73) hd_X13_goOn ⟨Nat.le_of_ble_eq_true rfl, Nat.le_of_ble_eq_true rfl, rfl, rfl⟩ rfl ho rfl rfl rfl hl.1 rfl rc0 rfl dX13_statement_165 ⟨Nat.zero_le _, Nat.zero_le _⟩ (fun H locs hH => ?_)
                    exact hw_vret hx hb hret hf hH hlocks dX13_statement_168
              · replace hf := (if_neg c14).symm.trans hf
                refine hl_aload_n hx hb dX13_statement_101 rfl (lv_at hl 0 rfl) ?_
                obtain ⟨q37, hq37, hf⟩ := bnd hf
                refine hcV_v hx hb hml hown hts hKs hT hb0 hH (As := []) (rest := []) (k_X13_readsConflict l E K H.size o q13.2 ho hq37) (gV m9_143 m9_145 ms_127 m1_16 m9_146) hd_X13_readsConflict ⟨Nat.le_of_ble_eq_true rfl, Nat.le_of_ble_eq_true rfl, rfl, rfl⟩ rfl ho rfl rfl rfl hl.1 rfl rc0 rfl dX13_statement_102 ⟨Nat.zero_le _, Nat.zero_le _⟩ (fun H locs hH => ?_)
                refine lv_goto (tgt := 146) hx hb dX13_statement_105 (by decide) ?_
                refine hl_aload_n hx hb dX13_statement_146 rfl (lv_at hl 0 rfl) ?_
                refine hl_aload_n hx hb dX13_statement_147 rfl (lv_at hl 0 rfl) ?_
                refine g13_28 hx hb hts hown hKs hH rfl ho m6_209 dX13_statement_148 ?_
                refine lv_iconst (v := 3) hx hb dX13_statement_151 (by decide) ?_
                refine lv_icmp_ne (tgt := 159) hx hb dX13_statement_152 (by decide) (fun c38 => ?_) (fun c38 => ?_)
                · replace hf := (if_neg c38).symm.trans hf
                  refine lv_iconst (v := 0) hx hb dX13_statement_159 (by decide) ?_
                  refine lv_iconst (v := 1) hx hb dX13_statement_160 (by decide) ?_
                  obtain ⟨q39, hq39, hf⟩ := bnd hf
                  refine hcV_v hx hb hml hown hts hKs hT hb0 hH (As := [.int 0, .int 1]) (rest := []) (k_X13_needs l E K H.size o false 1 q37 ho hq39) (gV m9_66 m9_68 ms_109 m1_16 m9_69) hd_X13_needs ⟨Nat.le_of_ble_eq_true rfl, Nat.le_of_ble_eq_true rfl, rfl, rfl⟩ rfl ho rfl rfl rfl hl.1 rfl rc0 rfl dX13_statement_161 ⟨Nat.zero_le _, Nat.zero_le _⟩ (fun H locs hH => ?_)
                  refine hl_aload_n hx hb dX13_statement_164 rfl (lv_at hl 0 rfl) ?_
                  obtain ⟨q40, hq40, hf⟩ := bnd hf
                  refine hcV_v hx hb hml hown hts hKs hT hb0 hH (As := []) (rest := []) (k_X13_goOn l E K H.size o q39 ho hq40) (gV m9_70 m9_72 ms_110 m1_16 m9_73) hd_X13_goOn ⟨Nat.le_of_ble_eq_true rfl, Nat.le_of_ble_eq_true rfl, rfl, rfl⟩ rfl ho rfl rfl rfl hl.1 rfl rc0 rfl dX13_statement_165 ⟨Nat.zero_le _, Nat.zero_le _⟩ (fun H locs hH => ?_)
                  exact hw_vret hx hb hret hf hH hlocks dX13_statement_168
                · replace hf := (if_pos c38).symm.trans hf
                  refine lv_iconst (v := 1) hx hb dX13_statement_155 (by decide) ?_
                  refine lv_goto (tgt := 160) hx hb dX13_statement_156 (by decide) ?_
                  refine lv_iconst (v := 1) hx hb dX13_statement_160 (by decide) ?_
                  obtain ⟨q41, hq41, hf⟩ := bnd hf
                  refine hcV_v hx hb hml hown hts hKs hT hb0 hH (As := [.int 1, .int 1]) (rest := []) (k_X13_needs l E K H.size o true 1 q37 ho hq41) (gV m9_66 m9_68 ms_109 m1_16 m9_69) hd_X13_needs ⟨Nat.le_of_ble_eq_true rfl, Nat.le_of_ble_eq_true rfl, rfl, rfl⟩ rfl ho rfl rfl rfl hl.1 rfl rc0 rfl dX13_statement_161 ⟨Nat.zero_le _, Nat.zero_le _⟩ (fun H locs hH => ?_)
                  refine hl_aload_n hx hb dX13_statement_164 rfl (lv_at hl 0 rfl) ?_
                  obtain ⟨q42, hq42, hf⟩ := bnd hf
                  refine hcV_v hx hb hml hown hts hKs hT hb0 hH (As := []) (rest := []) (k_X13_goOn l E K H.size o q41 ho hq42) (gV m9_70 m9_72 ms_110 m1_16 m9_73) hd_X13_goOn ⟨Nat.le_of_ble_eq_true rfl, Nat.le_of_ble_eq_true rfl, rfl, rfl⟩ rfl ho rfl rfl rfl hl.1 rfl rc0 rfl dX13_statement_165 ⟨Nat.zero_le _, Nat.zero_le _⟩ (fun H locs hH => ?_)
                  exact hw_vret hx hb hret hf hH hlocks dX13_statement_168
            · replace hf := (if_neg c12).symm.trans hf
              refine hl_aload_n hx hb dX13_statement_85 rfl (lv_at hl 0 rfl) ?_
              obtain ⟨q43, hq43, hf⟩ := bnd hf
              refine hcV_v hx hb hml hown hts hKs hT hb0 hH (As := []) (rest := []) (k_X13_readsBar l E K H.size o q11.2 ho hq43) (gV m9_139 m9_141 ms_126 m1_16 m9_142) hd_X13_readsBar ⟨Nat.le_of_ble_eq_true rfl, Nat.le_of_ble_eq_true rfl, rfl, rfl⟩ rfl ho rfl rfl rfl hl.1 rfl rc0 rfl dX13_statement_86 ⟨Nat.zero_le _, Nat.zero_le _⟩ (fun H locs hH => ?_)
              refine lv_goto (tgt := 146) hx hb dX13_statement_89 (by decide) ?_
              refine hl_aload_n hx hb dX13_statement_146 rfl (lv_at hl 0 rfl) ?_
              refine hl_aload_n hx hb dX13_statement_147 rfl (lv_at hl 0 rfl) ?_
              refine g13_28 hx hb hts hown hKs hH rfl ho m6_209 dX13_statement_148 ?_
              refine lv_iconst (v := 3) hx hb dX13_statement_151 (by decide) ?_
              refine lv_icmp_ne (tgt := 159) hx hb dX13_statement_152 (by decide) (fun c44 => ?_) (fun c44 => ?_)
              · replace hf := (if_neg c44).symm.trans hf
                refine lv_iconst (v := 0) hx hb dX13_statement_159 (by decide) ?_
                refine lv_iconst (v := 1) hx hb dX13_statement_160 (by decide) ?_
                obtain ⟨q45, hq45, hf⟩ := bnd hf
                refine hcV_v hx hb hml hown hts hKs hT hb0 hH (As := [.int 0, .int 1]) (rest := []) (k_X13_needs l E K H.size o false 1 q43 ho hq45) (gV m9_66 m9_68 ms_109 m1_16 m9_69) hd_X13_needs ⟨Nat.le_of_ble_eq_true rfl, Nat.le_of_ble_eq_true rfl, rfl, rfl⟩ rfl ho rfl rfl rfl hl.1 rfl rc0 rfl dX13_statement_161 ⟨Nat.zero_le _, Nat.zero_le _⟩ (fun H locs hH => ?_)
                refine hl_aload_n hx hb dX13_statement_164 rfl (lv_at hl 0 rfl) ?_
                obtain ⟨q46, hq46, hf⟩ := bnd hf
                refine hcV_v hx hb hml hown hts hKs hT hb0 hH (As := []) (rest := []) (k_X13_goOn l E K H.size o q45 ho hq46) (gV m9_70 m9_72 ms_110 m1_16 m9_73) hd_X13_goOn ⟨Nat.le_of_ble_eq_true rfl, Nat.le_of_ble_eq_true rfl, rfl, rfl⟩ rfl ho rfl rfl rfl hl.1 rfl rc0 rfl dX13_statement_165 ⟨Nat.zero_le _, Nat.zero_le _⟩ (fun H locs hH => ?_)
                exact hw_vret hx hb hret hf hH hlocks dX13_statement_168
              · replace hf := (if_pos c44).symm.trans hf
                refine lv_iconst (v := 1) hx hb dX13_statement_155 (by decide) ?_
                refine lv_goto (tgt := 160) hx hb dX13_statement_156 (by decide) ?_
                refine lv_iconst (v := 1) hx hb dX13_statement_160 (by decide) ?_
                obtain ⟨q47, hq47, hf⟩ := bnd hf
                refine hcV_v hx hb hml hown hts hKs hT hb0 hH (As := [.int 1, .int 1]) (rest := []) (k_X13_needs l E K H.size o true 1 q43 ho hq47) (gV m9_66 m9_68 ms_109 m1_16 m9_69) hd_X13_needs ⟨Nat.le_of_ble_eq_true rfl, Nat.le_of_ble_eq_true rfl, rfl, rfl⟩ rfl ho rfl rfl rfl hl.1 rfl rc0 rfl dX13_statement_161 ⟨Nat.zero_le _, Nat.zero_le _⟩ (fun H locs hH => ?_)
                refine hl_aload_n hx hb dX13_statement_164 rfl (lv_at hl 0 rfl) ?_
                obtain ⟨q48, hq48, hf⟩ := bnd hf
                refine hcV_v hx hb hml hown hts hKs hT hb0 hH (As := []) (rest := []) (k_X13_goOn l E K H.size o q47 ho hq48) (gV m9_70 m9_72 ms_110 m1_16 m9_73) hd_X13_goOn ⟨Nat.le_of_ble_eq_true rfl, Nat.le_of_ble_eq_true rfl, rfl, rfl⟩ rfl ho rfl rfl rfl hl.1 rfl rc0 rfl dX13_statement_165 ⟨Nat.zero_le _, Nat.zero_le _⟩ (fun H locs hH => ?_)
                exact hw_vret hx hb hret hf hH hlocks dX13_statement_168
          · replace hf := (if_neg c10).symm.trans hf
            refine hl_aload_n hx hb dX13_statement_69 rfl (lv_at hl 0 rfl) ?_
            obtain ⟨q49, hq49, hf⟩ := bnd hf
            refine hcV_v hx hb hml hown hts hKs hT hb0 hH (As := []) (rest := []) (k_X13_readsCase l E K H.size o q9.2 ho hq49) (gV m9_127 m9_129 ms_123 m1_16 m9_130) hd_X13_readsCase ⟨Nat.le_of_ble_eq_true rfl, Nat.le_of_ble_eq_true rfl, rfl, rfl⟩ rfl ho rfl rfl rfl hl.1 rfl rc0 rfl dX13_statement_70 ⟨Nat.zero_le _, Nat.zero_le _⟩ (fun H locs hH => ?_)
            refine lv_goto (tgt := 146) hx hb dX13_statement_73 (by decide) ?_
            refine hl_aload_n hx hb dX13_statement_146 rfl (lv_at hl 0 rfl) ?_
            refine hl_aload_n hx hb dX13_statement_147 rfl (lv_at hl 0 rfl) ?_
            refine g13_28 hx hb hts hown hKs hH rfl ho m6_209 dX13_statement_148 ?_
            refine lv_iconst (v := 3) hx hb dX13_statement_151 (by decide) ?_
            refine lv_icmp_ne (tgt := 159) hx hb dX13_statement_152 (by decide) (fun c50 => ?_) (fun c50 => ?_)
            · replace hf := (if_neg c50).symm.trans hf
              refine lv_iconst (v := 0) hx hb dX13_statement_159 (by decide) ?_
              refine lv_iconst (v := 1) hx hb dX13_statement_160 (by decide) ?_
              obtain ⟨q51, hq51, hf⟩ := bnd hf
              refine hcV_v hx hb hml hown hts hKs hT hb0 hH (As := [.int 0, .int 1]) (rest := []) (k_X13_needs l E K H.size o false 1 q49 ho hq51) (gV m9_66 m9_68 ms_109 m1_16 m9_69) hd_X13_needs ⟨Nat.le_of_ble_eq_true rfl, Nat.le_of_ble_eq_true rfl, rfl, rfl⟩ rfl ho rfl rfl rfl hl.1 rfl rc0 rfl dX13_statement_161 ⟨Nat.zero_le _, Nat.zero_le _⟩ (fun H locs hH => ?_)
              refine hl_aload_n hx hb dX13_statement_164 rfl (lv_at hl 0 rfl) ?_
              obtain ⟨q52, hq52, hf⟩ := bnd hf
              refine hcV_v hx hb hml hown hts hKs hT hb0 hH (As := []) (rest := []) (k_X13_goOn l E K H.size o q51 ho hq52) (gV m9_70 m9_72 ms_110 m1_16 m9_73) hd_X13_goOn ⟨Nat.le_of_ble_eq_true rfl, Nat.le_of_ble_eq_true rfl, rfl, rfl⟩ rfl ho rfl rfl rfl hl.1 rfl rc0 rfl dX13_statement_165 ⟨Nat.zero_le _, Nat.zero_le _⟩ (fun H locs hH => ?_)
              exact hw_vret hx hb hret hf hH hlocks dX13_statement_168
            · replace hf := (if_pos c50).symm.trans hf
              refine lv_iconst (v := 1) hx hb dX13_statement_155 (by decide) ?_
              refine lv_goto (tgt := 160) hx hb dX13_statement_156 (by decide) ?_
              refine lv_iconst (v := 1) hx hb dX13_statement_160 (by decide) ?_
              obtain ⟨q53, hq53, hf⟩ := bnd hf
              refine hcV_v hx hb hml hown hts hKs hT hb0 hH (As := [.int 1, .int 1]) (rest := []) (k_X13_needs l E K H.size o true 1 q49 ho hq53) (gV m9_66 m9_68 ms_109 m1_16 m9_69) hd_X13_needs ⟨Nat.le_of_ble_eq_true rfl, Nat.le_of_ble_eq_true rfl, rfl, rfl⟩ rfl ho rfl rfl rfl hl.1 rfl rc0 rfl dX13_statement_161 ⟨Nat.zero_le _, Nat.zero_le _⟩ (fun H locs hH => ?_)
              refine hl_aload_n hx hb dX13_statement_164 rfl (lv_at hl 0 rfl) ?_
              obtain ⟨q54, hq54, hf⟩ := bnd hf
              refine hcV_v hx hb hml hown hts hKs hT hb0 hH (As := []) (rest := []) (k_X13_goOn l E K H.size o q53 ho hq54) (gV m9_70 m9_72 ms_110 m1_16 m9_73) hd_X13_goOn ⟨Nat.le_of_ble_eq_true rfl, Nat.le_of_ble_eq_true rfl, rfl, rfl⟩ rfl ho rfl rfl rfl hl.1 rfl rc0 rfl dX13_statement_165 ⟨Nat.zero_le _, Nat.zero_le _⟩ (fun H locs hH => ?_)
              exact hw_vret hx hb hret hf hH hlocks dX13_statement_168
        · replace hf := (if_neg c8).symm.trans hf
          refine hl_aload_n hx hb dX13_statement_53 rfl (lv_at hl 0 rfl) ?_
          obtain ⟨q55, hq55, hf⟩ := bnd hf
          refine hcV_v hx hb hml hown hts hKs hT hb0 hH (As := []) (rest := []) (k_X13_readsWitness l E K H.size o q7.2 ho hq55) (gV m9_123 m9_125 ms_122 m1_16 m9_126) hd_X13_readsWitness ⟨Nat.le_of_ble_eq_true rfl, Nat.le_of_ble_eq_true rfl, rfl, rfl⟩ rfl ho rfl rfl rfl hl.1 rfl rc0 rfl dX13_statement_54 ⟨Nat.zero_le _, Nat.zero_le _⟩ (fun H locs hH => ?_)
          refine lv_goto (tgt := 146) hx hb dX13_statement_57 (by decide) ?_
          refine hl_aload_n hx hb dX13_statement_146 rfl (lv_at hl 0 rfl) ?_
          refine hl_aload_n hx hb dX13_statement_147 rfl (lv_at hl 0 rfl) ?_
          refine g13_28 hx hb hts hown hKs hH rfl ho m6_209 dX13_statement_148 ?_
          refine lv_iconst (v := 3) hx hb dX13_statement_151 (by decide) ?_
          refine lv_icmp_ne (tgt := 159) hx hb dX13_statement_152 (by decide) (fun c56 => ?_) (fun c56 => ?_)
          · replace hf := (if_neg c56).symm.trans hf
            refine lv_iconst (v := 0) hx hb dX13_statement_159 (by decide) ?_
            refine lv_iconst (v := 1) hx hb dX13_statement_160 (by decide) ?_
            obtain ⟨q57, hq57, hf⟩ := bnd hf
            refine hcV_v hx hb hml hown hts hKs hT hb0 hH (As := [.int 0, .int 1]) (rest := []) (k_X13_needs l E K H.size o false 1 q55 ho hq57) (gV m9_66 m9_68 ms_109 m1_16 m9_69) hd_X13_needs ⟨Nat.le_of_ble_eq_true rfl, Nat.le_of_ble_eq_true rfl, rfl, rfl⟩ rfl ho rfl rfl rfl hl.1 rfl rc0 rfl dX13_statement_161 ⟨Nat.zero_le _, Nat.zero_le _⟩ (fun H locs hH => ?_)
            refine hl_aload_n hx hb dX13_statement_164 rfl (lv_at hl 0 rfl) ?_
            obtain ⟨q58, hq58, hf⟩ := bnd hf
            refine hcV_v hx hb hml hown hts hKs hT hb0 hH (As := []) (rest := []) (k_X13_goOn l E K H.size o q57 ho hq58) (gV m9_70 m9_72 ms_110 m1_16 m9_73) hd_X13_goOn ⟨Nat.le_of_ble_eq_true rfl, Nat.le_of_ble_eq_true rfl, rfl, rfl⟩ rfl ho rfl rfl rfl hl.1 rfl rc0 rfl dX13_statement_165 ⟨Nat.zero_le _, Nat.zero_le _⟩ (fun H locs hH => ?_)
            exact hw_vret hx hb hret hf hH hlocks dX13_statement_168
          · replace hf := (if_pos c56).symm.trans hf
            refine lv_iconst (v := 1) hx hb dX13_statement_155 (by decide) ?_
            refine lv_goto (tgt := 160) hx hb dX13_statement_156 (by decide) ?_
            refine lv_iconst (v := 1) hx hb dX13_statement_160 (by decide) ?_
            obtain ⟨q59, hq59, hf⟩ := bnd hf
            refine hcV_v hx hb hml hown hts hKs hT hb0 hH (As := [.int 1, .int 1]) (rest := []) (k_X13_needs l E K H.size o true 1 q55 ho hq59) (gV m9_66 m9_68 ms_109 m1_16 m9_69) hd_X13_needs ⟨Nat.le_of_ble_eq_true rfl, Nat.le_of_ble_eq_true rfl, rfl, rfl⟩ rfl ho rfl rfl rfl hl.1 rfl rc0 rfl dX13_statement_161 ⟨Nat.zero_le _, Nat.zero_le _⟩ (fun H locs hH => ?_)
            refine hl_aload_n hx hb dX13_statement_164 rfl (lv_at hl 0 rfl) ?_
            obtain ⟨q60, hq60, hf⟩ := bnd hf
            refine hcV_v hx hb hml hown hts hKs hT hb0 hH (As := []) (rest := []) (k_X13_goOn l E K H.size o q59 ho hq60) (gV m9_70 m9_72 ms_110 m1_16 m9_73) hd_X13_goOn ⟨Nat.le_of_ble_eq_true rfl, Nat.le_of_ble_eq_true rfl, rfl, rfl⟩ rfl ho rfl rfl rfl hl.1 rfl rc0 rfl dX13_statement_165 ⟨Nat.zero_le _, Nat.zero_le _⟩ (fun H locs hH => ?_)
            exact hw_vret hx hb hret hf hH hlocks dX13_statement_168
      · replace hf := (if_neg c6).symm.trans hf
        refine hl_aload_n hx hb dX13_statement_38 rfl (lv_at hl 0 rfl) ?_
        obtain ⟨q61, hq61, hf⟩ := bnd hf
        refine hcV_v hx hb hml hown hts hKs hT hb0 hH (As := []) (rest := []) (k_X13_readsOfficer l E K H.size o q5.2 ho hq61) (gV m9_119 m9_121 ms_121 m1_16 m9_122) hd_X13_readsOfficer ⟨Nat.le_of_ble_eq_true rfl, Nat.le_of_ble_eq_true rfl, rfl, rfl⟩ rfl ho rfl rfl rfl hl.1 rfl rc0 rfl dX13_statement_39 ⟨Nat.zero_le _, Nat.zero_le _⟩ (fun H locs hH => ?_)
        refine lv_goto (tgt := 146) hx hb dX13_statement_42 (by decide) ?_
        refine hl_aload_n hx hb dX13_statement_146 rfl (lv_at hl 0 rfl) ?_
        refine hl_aload_n hx hb dX13_statement_147 rfl (lv_at hl 0 rfl) ?_
        refine g13_28 hx hb hts hown hKs hH rfl ho m6_209 dX13_statement_148 ?_
        refine lv_iconst (v := 3) hx hb dX13_statement_151 (by decide) ?_
        refine lv_icmp_ne (tgt := 159) hx hb dX13_statement_152 (by decide) (fun c62 => ?_) (fun c62 => ?_)
        · replace hf := (if_neg c62).symm.trans hf
          refine lv_iconst (v := 0) hx hb dX13_statement_159 (by decide) ?_
          refine lv_iconst (v := 1) hx hb dX13_statement_160 (by decide) ?_
          obtain ⟨q63, hq63, hf⟩ := bnd hf
          refine hcV_v hx hb hml hown hts hKs hT hb0 hH (As := [.int 0, .int 1]) (rest := []) (k_X13_needs l E K H.size o false 1 q61 ho hq63) (gV m9_66 m9_68 ms_109 m1_16 m9_69) hd_X13_needs ⟨Nat.le_of_ble_eq_true rfl, Nat.le_of_ble_eq_true rfl, rfl, rfl⟩ rfl ho rfl rfl rfl hl.1 rfl rc0 rfl dX13_statement_161 ⟨Nat.zero_le _, Nat.zero_le _⟩ (fun H locs hH => ?_)
          refine hl_aload_n hx hb dX13_statement_164 rfl (lv_at hl 0 rfl) ?_
          obtain ⟨q64, hq64, hf⟩ := bnd hf
          refine hcV_v hx hb hml hown hts hKs hT hb0 hH (As := []) (rest := []) (k_X13_goOn l E K H.size o q63 ho hq64) (gV m9_70 m9_72 ms_110 m1_16 m9_73) hd_X13_goOn ⟨Nat.le_of_ble_eq_true rfl, Nat.le_of_ble_eq_true rfl, rfl, rfl⟩ rfl ho rfl rfl rfl hl.1 rfl rc0 rfl dX13_statement_165 ⟨Nat.zero_le _, Nat.zero_le _⟩ (fun H locs hH => ?_)
          exact hw_vret hx hb hret hf hH hlocks dX13_statement_168
        · replace hf := (if_pos c62).symm.trans hf
          refine lv_iconst (v := 1) hx hb dX13_statement_155 (by decide) ?_
          refine lv_goto (tgt := 160) hx hb dX13_statement_156 (by decide) ?_
          refine lv_iconst (v := 1) hx hb dX13_statement_160 (by decide) ?_
          obtain ⟨q65, hq65, hf⟩ := bnd hf
          refine hcV_v hx hb hml hown hts hKs hT hb0 hH (As := [.int 1, .int 1]) (rest := []) (k_X13_needs l E K H.size o true 1 q61 ho hq65) (gV m9_66 m9_68 ms_109 m1_16 m9_69) hd_X13_needs ⟨Nat.le_of_ble_eq_true rfl, Nat.le_of_ble_eq_true rfl, rfl, rfl⟩ rfl ho rfl rfl rfl hl.1 rfl rc0 rfl dX13_statement_161 ⟨Nat.zero_le _, Nat.zero_le _⟩ (fun H locs hH => ?_)
          refine hl_aload_n hx hb dX13_statement_164 rfl (lv_at hl 0 rfl) ?_
          obtain ⟨q66, hq66, hf⟩ := bnd hf
          refine hcV_v hx hb hml hown hts hKs hT hb0 hH (As := []) (rest := []) (k_X13_goOn l E K H.size o q65 ho hq66) (gV m9_70 m9_72 ms_110 m1_16 m9_73) hd_X13_goOn ⟨Nat.le_of_ble_eq_true rfl, Nat.le_of_ble_eq_true rfl, rfl, rfl⟩ rfl ho rfl rfl rfl hl.1 rfl rc0 rfl dX13_statement_165 ⟨Nat.zero_le _, Nat.zero_le _⟩ (fun H locs hH => ?_)
          exact hw_vret hx hb hret hf hH hlocks dX13_statement_168
    · replace hf := (if_neg c4).symm.trans hf
      refine hl_aload_n hx hb dX13_statement_23 rfl (lv_at hl 0 rfl) ?_
      obtain ⟨q67, hq67, hf⟩ := bnd hf
      refine hcV_v hx hb hml hown hts hKs hT hb0 hH (As := []) (rest := []) (k_X13_readsRoom l E K H.size o q3.2 ho hq67) (gV m9_78 m9_80 ms_112 m1_16 m9_81) hd_X13_readsRoom ⟨Nat.le_of_ble_eq_true rfl, Nat.le_of_ble_eq_true rfl, rfl, rfl⟩ rfl ho rfl rfl rfl hl.1 rfl rc0 rfl dX13_statement_24 ⟨Nat.zero_le _, Nat.zero_le _⟩ (fun H locs hH => ?_)
      refine lv_goto (tgt := 146) hx hb dX13_statement_27 (by decide) ?_
      refine hl_aload_n hx hb dX13_statement_146 rfl (lv_at hl 0 rfl) ?_
      refine hl_aload_n hx hb dX13_statement_147 rfl (lv_at hl 0 rfl) ?_
      refine g13_28 hx hb hts hown hKs hH rfl ho m6_209 dX13_statement_148 ?_
      refine lv_iconst (v := 3) hx hb dX13_statement_151 (by decide) ?_
      refine lv_icmp_ne (tgt := 159) hx hb dX13_statement_152 (by decide) (fun c68 => ?_) (fun c68 => ?_)
      · replace hf := (if_neg c68).symm.trans hf
        refine lv_iconst (v := 0) hx hb dX13_statement_159 (by decide) ?_
        refine lv_iconst (v := 1) hx hb dX13_statement_160 (by decide) ?_
        obtain ⟨q69, hq69, hf⟩ := bnd hf
        refine hcV_v hx hb hml hown hts hKs hT hb0 hH (As := [.int 0, .int 1]) (rest := []) (k_X13_needs l E K H.size o false 1 q67 ho hq69) (gV m9_66 m9_68 ms_109 m1_16 m9_69) hd_X13_needs ⟨Nat.le_of_ble_eq_true rfl, Nat.le_of_ble_eq_true rfl, rfl, rfl⟩ rfl ho rfl rfl rfl hl.1 rfl rc0 rfl dX13_statement_161 ⟨Nat.zero_le _, Nat.zero_le _⟩ (fun H locs hH => ?_)
        refine hl_aload_n hx hb dX13_statement_164 rfl (lv_at hl 0 rfl) ?_
        obtain ⟨q70, hq70, hf⟩ := bnd hf
        refine hcV_v hx hb hml hown hts hKs hT hb0 hH (As := []) (rest := []) (k_X13_goOn l E K H.size o q69 ho hq70) (gV m9_70 m9_72 ms_110 m1_16 m9_73) hd_X13_goOn ⟨Nat.le_of_ble_eq_true rfl, Nat.le_of_ble_eq_true rfl, rfl, rfl⟩ rfl ho rfl rfl rfl hl.1 rfl rc0 rfl dX13_statement_165 ⟨Nat.zero_le _, Nat.zero_le _⟩ (fun H locs hH => ?_)
        exact hw_vret hx hb hret hf hH hlocks dX13_statement_168
      · replace hf := (if_pos c68).symm.trans hf
        refine lv_iconst (v := 1) hx hb dX13_statement_155 (by decide) ?_
        refine lv_goto (tgt := 160) hx hb dX13_statement_156 (by decide) ?_
        refine lv_iconst (v := 1) hx hb dX13_statement_160 (by decide) ?_
        obtain ⟨q71, hq71, hf⟩ := bnd hf
        refine hcV_v hx hb hml hown hts hKs hT hb0 hH (As := [.int 1, .int 1]) (rest := []) (k_X13_needs l E K H.size o true 1 q67 ho hq71) (gV m9_66 m9_68 ms_109 m1_16 m9_69) hd_X13_needs ⟨Nat.le_of_ble_eq_true rfl, Nat.le_of_ble_eq_true rfl, rfl, rfl⟩ rfl ho rfl rfl rfl hl.1 rfl rc0 rfl dX13_statement_161 ⟨Nat.zero_le _, Nat.zero_le _⟩ (fun H locs hH => ?_)
        refine hl_aload_n hx hb dX13_statement_164 rfl (lv_at hl 0 rfl) ?_
        obtain ⟨q72, hq72, hf⟩ := bnd hf
        refine hcV_v hx hb hml hown hts hKs hT hb0 hH (As := []) (rest := []) (k_X13_goOn l E K H.size o q71 ho hq72) (gV m9_70 m9_72 ms_110 m1_16 m9_73) hd_X13_goOn ⟨Nat.le_of_ble_eq_true rfl, Nat.le_of_ble_eq_true rfl, rfl, rfl⟩ rfl ho rfl rfl rfl hl.1 rfl rc0 rfl dX13_statement_165 ⟨Nat.zero_le _, Nat.zero_le _⟩ (fun H locs hH => ?_)
        exact hw_vret hx hb hret hf hH hlocks dX13_statement_168
  · replace hf := (if_neg c2).symm.trans hf
    refine hl_aload_n hx hb dX13_statement_8 rfl (lv_at hl 0 rfl) ?_
    obtain ⟨q73, hq73, hf⟩ := bnd hf
    refine hcV_v hx hb hml hown hts hKs hT hb0 hH (As := []) (rest := []) (k_X13_readsHoliday l E K H.size o q1.2 ho hq73) (gV m9_58 m9_60 ms_107 m1_16 m9_61) hd_X13_readsHoliday ⟨Nat.le_of_ble_eq_true rfl, Nat.le_of_ble_eq_true rfl, rfl, rfl⟩ rfl ho rfl rfl rfl hl.1 rfl rc0 rfl dX13_statement_9 ⟨Nat.zero_le _, Nat.zero_le _⟩ (fun H locs hH => ?_)
    refine lv_goto (tgt := 146) hx hb dX13_statement_12 (by decide) ?_
    refine hl_aload_n hx hb dX13_statement_146 rfl (lv_at hl 0 rfl) ?_
    refine hl_aload_n hx hb dX13_statement_147 rfl (lv_at hl 0 rfl) ?_
    refine g13_28 hx hb hts hown hKs hH rfl ho m6_209 dX13_statement_148 ?_
    refine lv_iconst (v := 3) hx hb dX13_statement_151 (by decide) ?_
    refine lv_icmp_ne (tgt := 159) hx hb dX13_statement_152 (by decide) (fun c74 => ?_) (fun c74 => ?_)
    · replace hf := (if_neg c74).symm.trans hf
      refine lv_iconst (v := 0) hx hb dX13_statement_159 (by decide) ?_
      refine lv_iconst (v := 1) hx hb dX13_statement_160 (by decide) ?_
      obtain ⟨q75, hq75, hf⟩ := bnd hf
      refine hcV_v hx hb hml hown hts hKs hT hb0 hH (As := [.int 0, .int 1]) (rest := []) (k_X13_needs l E K H.size o false 1 q73 ho hq75) (gV m9_66 m9_68 ms_109 m1_16 m9_69) hd_X13_needs ⟨Nat.le_of_ble_eq_true rfl, Nat.le_of_ble_eq_true rfl, rfl, rfl⟩ rfl ho rfl rfl rfl hl.1 rfl rc0 rfl dX13_statement_161 ⟨Nat.zero_le _, Nat.zero_le _⟩ (fun H locs hH => ?_)
      refine hl_aload_n hx hb dX13_statement_164 rfl (lv_at hl 0 rfl) ?_
      obtain ⟨q76, hq76, hf⟩ := bnd hf
      refine hcV_v hx hb hml hown hts hKs hT hb0 hH (As := []) (rest := []) (k_X13_goOn l E K H.size o q75 ho hq76) (gV m9_70 m9_72 ms_110 m1_16 m9_73) hd_X13_goOn ⟨Nat.le_of_ble_eq_true rfl, Nat.le_of_ble_eq_true rfl, rfl, rfl⟩ rfl ho rfl rfl rfl hl.1 rfl rc0 rfl dX13_statement_165 ⟨Nat.zero_le _, Nat.zero_le _⟩ (fun H locs hH => ?_)
      exact hw_vret hx hb hret hf hH hlocks dX13_statement_168
    · replace hf := (if_pos c74).symm.trans hf
      refine lv_iconst (v := 1) hx hb dX13_statement_155 (by decide) ?_
      refine lv_goto (tgt := 160) hx hb dX13_statement_156 (by decide) ?_
      refine lv_iconst (v := 1) hx hb dX13_statement_160 (by decide) ?_
      obtain ⟨q77, hq77, hf⟩ := bnd hf
      refine hcV_v hx hb hml hown hts hKs hT hb0 hH (As := [.int 1, .int 1]) (rest := []) (k_X13_needs l E K H.size o true 1 q73 ho hq77) (gV m9_66 m9_68 ms_109 m1_16 m9_69) hd_X13_needs ⟨Nat.le_of_ble_eq_true rfl, Nat.le_of_ble_eq_true rfl, rfl, rfl⟩ rfl ho rfl rfl rfl hl.1 rfl rc0 rfl dX13_statement_161 ⟨Nat.zero_le _, Nat.zero_le _⟩ (fun H locs hH => ?_)
      refine hl_aload_n hx hb dX13_statement_164 rfl (lv_at hl 0 rfl) ?_
      obtain ⟨q78, hq78, hf⟩ := bnd hf
      refine hcV_v hx hb hml hown hts hKs hT hb0 hH (As := []) (rest := []) (k_X13_goOn l E K H.size o q77 ho hq78) (gV m9_70 m9_72 ms_110 m1_16 m9_73) hd_X13_goOn ⟨Nat.le_of_ble_eq_true rfl, Nat.le_of_ble_eq_true rfl, rfl, rfl⟩ rfl ho rfl rfl rfl hl.1 rfl rc0 rfl dX13_statement_165 ⟨Nat.zero_le _, Nat.zero_le _⟩ (fun H locs hH => ?_)
      exact hw_vret hx hb hret hf hH hlocks dX13_statement_168

theorem dX13_startsReading_0 : decode cX13_startsReading 0 = .ok (.aload_n 0, 1) := by decide +kernel
theorem dX13_startsReading_1 : decode cX13_startsReading 1 = .ok (.aload_n 0, 1) := by decide +kernel
theorem dX13_startsReading_2 : decode cX13_startsReading 2 = .ok (.getfield 331, 3) := by decide +kernel
theorem dX13_startsReading_5 : decode cX13_startsReading 5 = .ok (.putfield 334, 3) := by decide +kernel
theorem dX13_startsReading_8 : decode cX13_startsReading 8 = .ok (.aload_n 0, 1) := by decide +kernel
theorem dX13_startsReading_9 : decode cX13_startsReading 9 = .ok (.iconst 0, 1) := by decide +kernel
theorem dX13_startsReading_10 : decode cX13_startsReading 10 = .ok (.putfield 331, 3) := by decide +kernel
theorem dX13_startsReading_13 : decode cX13_startsReading 13 = .ok (.aload_n 0, 1) := by decide +kernel
theorem dX13_startsReading_14 : decode cX13_startsReading 14 = .ok (.iconst 0, 1) := by decide +kernel
theorem dX13_startsReading_15 : decode cX13_startsReading 15 = .ok (.putfield 337, 3) := by decide +kernel
theorem dX13_startsReading_18 : decode cX13_startsReading 18 = .ok (.aload_n 0, 1) := by decide +kernel
theorem dX13_startsReading_19 : decode cX13_startsReading 19 = .ok (.invokevirtual 383, 3) := by decide +kernel
theorem dX13_startsReading_22 : decode cX13_startsReading 22 = .ok (.return_, 1) := by decide +kernel
theorem hd_X13_startsReading : yX13_startsReading.cls = RX13 ∧ yX13_startsReading.cls ≠ "java/lang/invoke/MethodHandle" ∧ yX13_startsReading.cls ≠ "java/lang/invoke/VarHandle" ∧ (parseMethodDescriptor yX13_startsReading.desc).map (fun d => d.parameters.length) = some 0 := by decide +kernel
theorem hs_X13_startsReading : yX13_startsReading.cls ≠ "java/lang/invoke/MethodHandle" ∧ yX13_startsReading.cls ≠ "java/lang/invoke/VarHandle" ∧ (parseMethodDescriptor yX13_startsReading.desc).map (fun d => d.parameters.length) = some 0 := by decide +kernel
set_option maxHeartbeats 4000000 in
set_option maxRecDepth 100000 in
theorem k_X13_startsReading (l : Launch) (E : Ev) (K : Kd) (z : Nat) (o : Nat) (w : Wd) (ho : K o = some (11, 0)) {w' : Wd} (hf : f_X13_startsReading K o w = some w') : Met l yX13_startsReading (Cond.code yX13_startsReading cX13_startsReading 1 (Option.none : Option Jvm.ClassFile.FieldType) :: bt) ({ frames := 6, cells := 0, slots := 0, locals := 129 } : Room) (va_Pc [rv E (some o)] (HB E K w z)) (QV E K z w') 0 0 (hA E) := by
  refine Met.ofW (cc := cX13_startsReading) (maxL := 1) (ret := (Option.none : Option Jvm.ClassFile.FieldType)) (by decide) rfl ?_
  intro p e s m args below meth c s₁ B hml hv
  obtain ⟨rfl, hz, hP, hKs, hT, hb0⟩ := hv
  have C : CX p l e s m _ meth c cX13_startsReading 1 RX13 (Option.none : Option Jvm.ClassFile.FieldType) E := ⟨B.exec, B.bytes, hml, findClass_of_methodNamed B.named, fun w h => atoms_spec (ws := Cond.code yX13_startsReading cX13_startsReading 1 (Option.none : Option Jvm.ClassFile.FieldType) :: bt) B.pre w (List.mem_cons_of_mem _ h), hKs, hT, by rw [hz]; exact hb0, B.notSynchronized, B.returns⟩
  have hH : HQ E K z w s s.heap [] := ⟨hP, va_S.rf, hz⟩
  obtain ⟨hx, hb, hml, hown, hts, hKs, hT, hb0, hlocks, hret⟩ := id C
  have hl := lv_entry [rv E (some o)] (n := 1) (by simp [lg_len_nil, lg_len_i, lg_len_j, lg_len_q, lg_len_f, lg_len_d, lg_len_r])
  rw [lg_entry_eq]
  generalize (lg_sl [rv E (some o)] ++ List.replicate (1 - (lg_sl [rv E (some o)]).length) Slot.unset).toArray = ls at hl ⊢
  replace hl : lv_has ls 1 [(0, rv E (some o))] := by simpa only [lv_args, cat_q, cat_i, cat_j, reduceIte, Nat.reduceEqDiff, Nat.reduceAdd, Nat.zero_add] using hl
  generalize s.heap = H at hH ⊢
  unfold f_X13_startsReading at hf
  refine hl_aload_n hx hb dX13_startsReading_0 rfl (lv_at hl 0 rfl) ?_
  refine hl_aload_n hx hb dX13_startsReading_1 rfl (lv_at hl 0 rfl) ?_
  refine g13_24 hx hb hts hown hKs hH rfl ho m6_205 dX13_startsReading_2 ?_
  obtain ⟨w1, hw1, hf⟩ := bnd hf
  replace hw1 := Option.some.inj hw1
  refine p13_25 (v := (wI w 1324 o)) hx hb hts hown hKs hH rfl ho m6_206 dX13_startsReading_5 (fun H locs hH => ?_)
  rw [hw1] at hH
  refine hl_aload_n hx hb dX13_startsReading_8 rfl (lv_at hl 0 rfl) ?_
  refine lv_iconst (v := 0) hx hb dX13_startsReading_9 (by decide) ?_
  obtain ⟨w2, hw2, hf⟩ := bnd hf
  replace hw2 := Option.some.inj hw2
  refine p13_24 (v := 0) hx hb hts hown hKs hH rfl ho m6_205 dX13_startsReading_10 (fun H locs hH => ?_)
  rw [hw2] at hH
  refine hl_aload_n hx hb dX13_startsReading_13 rfl (lv_at hl 0 rfl) ?_
  refine lv_iconst (v := 0) hx hb dX13_startsReading_14 (by decide) ?_
  obtain ⟨w3, hw3, hf⟩ := bnd hf
  replace hw3 := Option.some.inj hw3
  refine p13_26 (v := 0) hx hb hts hown hKs hH rfl ho m6_207 dX13_startsReading_15 (fun H locs hH => ?_)
  rw [hw3] at hH
  refine hl_aload_n hx hb dX13_startsReading_18 rfl (lv_at hl 0 rfl) ?_
  obtain ⟨q4, hq4, hf⟩ := bnd hf
  refine hcV_v hx hb hml hown hts hKs hT hb0 hH (As := []) (rest := []) (k_X13_next l E K H.size o w3 ho hq4) (gV m8_221 m8_223 ms_101 m1_16 m8_224) hd_X13_next ⟨Nat.le_of_ble_eq_true rfl, Nat.le_of_ble_eq_true rfl, rfl, rfl⟩ rfl ho rfl rfl rfl hl.1 rfl rc0 rfl dX13_startsReading_19 ⟨Nat.zero_le _, Nat.zero_le _⟩ (fun H locs hH => ?_)
  exact hw_vret hx hb hret hf hH hlocks dX13_startsReading_22

theorem dX13_parse_0 : decode cX13_parse 0 = .ok (.aload_n 0, 1) := by decide +kernel
theorem dX13_parse_1 : decode cX13_parse 1 = .ok (.iconst 0, 1) := by decide +kernel
theorem dX13_parse_2 : decode cX13_parse 2 = .ok (.putfield 104, 3) := by decide +kernel
theorem dX13_parse_5 : decode cX13_parse 5 = .ok (.aload_n 0, 1) := by decide +kernel
theorem dX13_parse_6 : decode cX13_parse 6 = .ok (.iconst 0, 1) := by decide +kernel
theorem dX13_parse_7 : decode cX13_parse 7 = .ok (.putfield 376, 3) := by decide +kernel
theorem dX13_parse_10 : decode cX13_parse 10 = .ok (.aload_n 0, 1) := by decide +kernel
theorem dX13_parse_11 : decode cX13_parse 11 = .ok (.iconst (-1), 1) := by decide +kernel
theorem dX13_parse_12 : decode cX13_parse 12 = .ok (.putfield 65, 3) := by decide +kernel
theorem dX13_parse_15 : decode cX13_parse 15 = .ok (.aload_n 0, 1) := by decide +kernel
theorem dX13_parse_16 : decode cX13_parse 16 = .ok (.invokevirtual 83, 3) := by decide +kernel
theorem dX13_parse_19 : decode cX13_parse 19 = .ok (.aload_n 0, 1) := by decide +kernel
theorem dX13_parse_20 : decode cX13_parse 20 = .ok (.invokevirtual 471, 3) := by decide +kernel
theorem dX13_parse_23 : decode cX13_parse 23 = .ok (.aload_n 0, 1) := by decide +kernel
theorem dX13_parse_24 : decode cX13_parse 24 = .ok (.invokevirtual 379, 3) := by decide +kernel
theorem dX13_parse_27 : decode cX13_parse 27 = .ok (.ifCond .eq 17, 3) := by decide +kernel
theorem dX13_parse_30 : decode cX13_parse 30 = .ok (.aload_n 0, 1) := by decide +kernel
theorem dX13_parse_31 : decode cX13_parse 31 = .ok (.getfield 346, 3) := by decide +kernel
theorem dX13_parse_34 : decode cX13_parse 34 = .ok (.ifCond .eq 10, 3) := by decide +kernel
theorem dX13_parse_37 : decode cX13_parse 37 = .ok (.aload_n 0, 1) := by decide +kernel
theorem dX13_parse_38 : decode cX13_parse 38 = .ok (.invokevirtual 474, 3) := by decide +kernel
theorem dX13_parse_41 : decode cX13_parse 41 = .ok (.goto (-18), 3) := by decide +kernel
theorem dX13_parse_44 : decode cX13_parse 44 = .ok (.aload_n 0, 1) := by decide +kernel
theorem dX13_parse_45 : decode cX13_parse 45 = .ok (.invokevirtual 379, 3) := by decide +kernel
theorem dX13_parse_48 : decode cX13_parse 48 = .ok (.ifCond .ne 5, 3) := by decide +kernel
theorem dX13_parse_51 : decode cX13_parse 51 = .ok (.iconst (-1), 1) := by decide +kernel
theorem dX13_parse_52 : decode cX13_parse 52 = .ok (.ireturn, 1) := by decide +kernel
theorem dX13_parse_53 : decode cX13_parse 53 = .ok (.aload_n 0, 1) := by decide +kernel
theorem dX13_parse_54 : decode cX13_parse 54 = .ok (.invokevirtual 86, 3) := by decide +kernel
theorem dX13_parse_57 : decode cX13_parse 57 = .ok (.aload_n 0, 1) := by decide +kernel
theorem dX13_parse_58 : decode cX13_parse 58 = .ok (.getfield 7, 3) := by decide +kernel
theorem dX13_parse_61 : decode cX13_parse 61 = .ok (.iconst 3, 1) := by decide +kernel
theorem dX13_parse_62 : decode cX13_parse 62 = .ok (.iaload, 1) := by decide +kernel
theorem dX13_parse_63 : decode cX13_parse 63 = .ok (.ireturn, 1) := by decide +kernel
theorem hd_X13_parse : yX13_parse.cls = RX13 ∧ yX13_parse.cls ≠ "java/lang/invoke/MethodHandle" ∧ yX13_parse.cls ≠ "java/lang/invoke/VarHandle" ∧ (parseMethodDescriptor yX13_parse.desc).map (fun d => d.parameters.length) = some 0 := by decide +kernel
theorem hs_X13_parse : yX13_parse.cls ≠ "java/lang/invoke/MethodHandle" ∧ yX13_parse.cls ≠ "java/lang/invoke/VarHandle" ∧ (parseMethodDescriptor yX13_parse.desc).map (fun d => d.parameters.length) = some 0 := by decide +kernel
set_option maxHeartbeats 4000000 in
set_option maxRecDepth 100000 in
theorem l_X13_parse_L23 (C : CX p l e s m args meth c cX13_parse 1 RX13 (Option.some Jvm.ClassFile.FieldType.int) E) {o : Nat} (ho : K o = some (11, 0)) {r : Int32} {w' : Wd} (k : Wd → Option (Int32 × Wd)) (hk : ∀ (w : Wd) (H : Heap) (locs : List Loc) (ls : Array Slot), HQ E K z w s H locs → lv_has ls 1 [(0, rv E (some o))] → k w = some (r, w') → W p l e ({ frames := 11, cells := 0, slots := 0, locals := 239 } : Room) s m args below meth c H locs 0 0 (MQ below (QI E K z w' r) args s 0 0 (hA E)) (F0 m 44 ls [])) : ∀ (n : Nat) (w : Wd) (H : Heap) (locs : List Loc) (ls : Array Slot), HQ E K z w s H locs → lv_has ls 1 [(0, rv E (some o))] → f_X13_parse_L23 K o k n w = some (r, w') → W p l e ({ frames := 11, cells := 0, slots := 0, locals := 239 } : Room) s m args below meth c H locs 0 0 (MQ below (QI E K z w' r) args s 0 0 (hA E)) (F0 m 23 ls []) := by
  obtain ⟨hx, hb, hml, hown, hts, hKs, hT, hb0, hlocks, hret⟩ := id C
  intro n
  induction n with
  | zero =>
    intro w H locs ls hH hl hf
    cases hf
  | succ n ih =>
    intro w H locs ls hH hl hf
    rw [f_X13_parse_L23] at hf
    refine hl_aload_n hx hb dX13_parse_23 rfl (lv_at hl 0 rfl) ?_
    obtain ⟨q7, hq7, hf⟩ := bnd hf
    refine hcV_i hx hb hml hown hts hKs hT hb0 hH (As := []) (rest := []) (k_X13_fine l E K H.size o w ho hq7) (gV m9_46 m9_48 ms_104 m1_16 m9_49) hd_X13_fine ⟨Nat.le_of_ble_eq_true rfl, Nat.le_of_ble_eq_true rfl, rfl, rfl⟩ rfl ho rfl rfl rfl hl.1 rfl rc0 rfl dX13_parse_24 ⟨Nat.zero_le _, Nat.zero_le _⟩ (fun H locs hH => ?_)
    refine lv_if_eq (tgt := 44) hx hb dX13_parse_27 (by decide) (fun c8 => ?_) (fun c8 => ?_)
    · replace hf := (if_pos c8).symm.trans hf
      exact hk _ _ _ _ hH (lv_sub hl [0] rfl) hf
    · replace hf := (if_neg c8).symm.trans hf
      refine hl_aload_n hx hb dX13_parse_30 rfl (lv_at hl 0 rfl) ?_
      refine g13_28 hx hb hts hown hKs hH rfl ho m6_209 dX13_parse_31 ?_
      refine lv_if_eq (tgt := 44) hx hb dX13_parse_34 (by decide) (fun c9 => ?_) (fun c9 => ?_)
      · replace hf := (if_pos c9).symm.trans hf
        exact hk _ _ _ _ hH (lv_sub hl [0] rfl) hf
      · replace hf := (if_neg c9).symm.trans hf
        refine hl_aload_n hx hb dX13_parse_37 rfl (lv_at hl 0 rfl) ?_
        obtain ⟨q10, hq10, hf⟩ := bnd hf
        refine hcV_v hx hb hml hown hts hKs hT hb0 hH (As := []) (rest := []) (k_X13_statement l E K H.size o q7.2 ho hq10) (gV m9_50 m9_52 ms_105 m1_16 m9_53) hd_X13_statement ⟨Nat.le_of_ble_eq_true rfl, Nat.le_of_ble_eq_true rfl, rfl, rfl⟩ rfl ho rfl rfl rfl hl.1 rfl rc0 rfl dX13_parse_38 ⟨Nat.zero_le _, Nat.zero_le _⟩ (fun H locs hH => ?_)
        refine lv_goto (tgt := 23) hx hb dX13_parse_41 (by decide) ?_
        exact ih _ _ _ _ hH (lv_sub hl [0] rfl) hf
set_option maxHeartbeats 4000000 in
set_option maxRecDepth 100000 in
theorem k_X13_parse (l : Launch) (E : Ev) (K : Kd) (z : Nat) (o : Nat) (w : Wd) (ho : K o = some (11, 0)) {r : Int32} {w' : Wd} (hf : f_X13_parse K o w = some (r, w')) : Met l yX13_parse (Cond.code yX13_parse cX13_parse 1 (Option.some Jvm.ClassFile.FieldType.int) :: bt) ({ frames := 11, cells := 0, slots := 0, locals := 239 } : Room) (va_Pc [rv E (some o)] (HB E K w z)) (QI E K z w' r) 0 0 (hA E) := by
  refine Met.ofW (cc := cX13_parse) (maxL := 1) (ret := (Option.some Jvm.ClassFile.FieldType.int)) (by decide) rfl ?_
  intro p e s m args below meth c s₁ B hml hv
  obtain ⟨rfl, hz, hP, hKs, hT, hb0⟩ := hv
  have C : CX p l e s m _ meth c cX13_parse 1 RX13 (Option.some Jvm.ClassFile.FieldType.int) E := ⟨B.exec, B.bytes, hml, findClass_of_methodNamed B.named, fun w h => atoms_spec (ws := Cond.code yX13_parse cX13_parse 1 (Option.some Jvm.ClassFile.FieldType.int) :: bt) B.pre w (List.mem_cons_of_mem _ h), hKs, hT, by rw [hz]; exact hb0, B.notSynchronized, B.returns⟩
  have hH : HQ E K z w s s.heap [] := ⟨hP, va_S.rf, hz⟩
  obtain ⟨hx, hb, hml, hown, hts, hKs, hT, hb0, hlocks, hret⟩ := id C
  have hl := lv_entry [rv E (some o)] (n := 1) (by simp [lg_len_nil, lg_len_i, lg_len_j, lg_len_q, lg_len_f, lg_len_d, lg_len_r])
  rw [lg_entry_eq]
  generalize (lg_sl [rv E (some o)] ++ List.replicate (1 - (lg_sl [rv E (some o)]).length) Slot.unset).toArray = ls at hl ⊢
  replace hl : lv_has ls 1 [(0, rv E (some o))] := by simpa only [lv_args, cat_q, cat_i, cat_j, reduceIte, Nat.reduceEqDiff, Nat.reduceAdd, Nat.zero_add] using hl
  generalize s.heap = H at hH ⊢
  unfold f_X13_parse at hf
  refine hl_aload_n hx hb dX13_parse_0 rfl (lv_at hl 0 rfl) ?_
  refine lv_iconst (v := 0) hx hb dX13_parse_1 (by decide) ?_
  obtain ⟨w1, hw1, hf⟩ := bnd hf
  replace hw1 := Option.some.inj hw1
  refine p13_0 (v := 0) hx hb hts hown hKs hH rfl ho m6_181 dX13_parse_2 (fun H locs hH => ?_)
  rw [hw1] at hH
  refine hl_aload_n hx hb dX13_parse_5 rfl (lv_at hl 0 rfl) ?_
  refine lv_iconst (v := 0) hx hb dX13_parse_6 (by decide) ?_
  obtain ⟨w2, hw2, hf⟩ := bnd hf
  replace hw2 := Option.some.inj hw2
  refine p13_31 (v := 0) hx hb hts hown hKs hH rfl ho m6_212 dX13_parse_7 (fun H locs hH => ?_)
  rw [hw2] at hH
  refine hl_aload_n hx hb dX13_parse_10 rfl (lv_at hl 0 rfl) ?_
  refine lv_iconst (v := (-1)) hx hb dX13_parse_11 (by decide) ?_
  obtain ⟨w3, hw3, hf⟩ := bnd hf
  replace hw3 := Option.some.inj hw3
  refine p13_32 (v := (-1)) hx hb hts hown hKs hH rfl ho m6_213 dX13_parse_12 (fun H locs hH => ?_)
  rw [hw3] at hH
  refine hl_aload_n hx hb dX13_parse_15 rfl (lv_at hl 0 rfl) ?_
  obtain ⟨q4, hq4, hf⟩ := bnd hf
  refine hcV_v hx hb hml hown hts hKs hT hb0 hH (As := []) (rest := []) (k_X13_clears l E K H.size o w3 ho hq4) (gV m6_167 m6_169 ms_45 m1_16 m6_170) hd_X13_clears ⟨Nat.le_of_ble_eq_true rfl, Nat.le_of_ble_eq_true rfl, rfl, rfl⟩ rfl ho rfl rfl rfl hl.1 rfl rc0 rfl dX13_parse_16 ⟨Nat.zero_le _, Nat.zero_le _⟩ (fun H locs hH => ?_)
  refine hl_aload_n hx hb dX13_parse_19 rfl (lv_at hl 0 rfl) ?_
  obtain ⟨q5, hq5, hf⟩ := bnd hf
  refine hcV_v hx hb hml hown hts hKs hT hb0 hH (As := []) (rest := []) (k_X13_startsReading l E K H.size o q4 ho hq5) (gV m8_217 m8_219 ms_100 m1_16 m8_220) hd_X13_startsReading ⟨Nat.le_of_ble_eq_true rfl, Nat.le_of_ble_eq_true rfl, rfl, rfl⟩ rfl ho rfl rfl rfl hl.1 rfl rc0 rfl dX13_parse_20 ⟨Nat.zero_le _, Nat.zero_le _⟩ (fun H locs hH => ?_)
  refine l_X13_parse_L23  C ho _ (fun w6 H locs ls hH hl hf => ?_) fu  q5 _ _ _ hH (lv_sub hl [0] rfl) hf
  refine hl_aload_n hx hb dX13_parse_44 rfl (lv_at hl 0 rfl) ?_
  obtain ⟨q11, hq11, hf⟩ := bnd hf
  refine hcV_i hx hb hml hown hts hKs hT hb0 hH (As := []) (rest := []) (k_X13_fine l E K H.size o w6 ho hq11) (gV m9_46 m9_48 ms_104 m1_16 m9_49) hd_X13_fine ⟨Nat.le_of_ble_eq_true rfl, Nat.le_of_ble_eq_true rfl, rfl, rfl⟩ rfl ho rfl rfl rfl hl.1 rfl rc0 rfl dX13_parse_45 ⟨Nat.zero_le _, Nat.zero_le _⟩ (fun H locs hH => ?_)
  refine lv_if_ne (tgt := 53) hx hb dX13_parse_48 (by decide) (fun c12 => ?_) (fun c12 => ?_)
  · replace hf := (if_neg c12).symm.trans hf
    refine hl_aload_n hx hb dX13_parse_53 rfl (lv_at hl 0 rfl) ?_
    obtain ⟨q13, hq13, hf⟩ := bnd hf
    refine hcV_v hx hb hml hown hts hKs hT hb0 hH (As := []) (rest := []) (k_X13_takesDraft l E K H.size o q11.2 ho hq13) (gV m6_171 m6_173 ms_46 m1_16 m6_174) hd_X13_takesDraft ⟨Nat.le_of_ble_eq_true rfl, Nat.le_of_ble_eq_true rfl, rfl, rfl⟩ rfl ho rfl rfl rfl hl.1 rfl rc0 rfl dX13_parse_54 ⟨Nat.zero_le _, Nat.zero_le _⟩ (fun H locs hH => ?_)
    refine hl_aload_n hx hb dX13_parse_57 rfl (lv_at hl 0 rfl) ?_
    refine g13_1 hx hb hts hown hKs hH rfl ho m6_182 dX13_parse_58 ?_
    refine lv_iconst (v := 3) hx hb dX13_parse_61 (by decide) ?_
    obtain ⟨a14, ha14, hf⟩ := bnd hf
    replace ha14 := cha_some ha14
    obtain ⟨j15, hj15, hf⟩ := bnd hf
    refine hw_iald hx hb hKs hH ha14.1 ha14.2 hj15 dX13_parse_62 ?_
    exact hw_iret hx hb hret hf hH hlocks dX13_parse_63
  · replace hf := (if_pos c12).symm.trans hf
    refine lv_iconst (v := (-1)) hx hb dX13_parse_51 (by decide) ?_
    exact hw_iret hx hb hret hf hH hlocks dX13_parse_52

theorem dX13_find_0 : decode cX13_find 0 = .ok (.aload_n 0, 1) := by decide +kernel
theorem dX13_find_1 : decode cX13_find 1 = .ok (.iload_n 1, 1) := by decide +kernel
theorem dX13_find_2 : decode cX13_find 2 = .ok (.i2l, 1) := by decide +kernel
theorem dX13_find_3 : decode cX13_find 3 = .ok (.lconst 0, 1) := by decide +kernel
theorem dX13_find_4 : decode cX13_find 4 = .ok (.ldc2_w 162, 3) := by decide +kernel
theorem dX13_find_7 : decode cX13_find 7 = .ok (.invokestatic 123, 3) := by decide +kernel
theorem dX13_find_10 : decode cX13_find 10 = .ok (.invokevirtual 110, 3) := by decide +kernel
theorem dX13_find_13 : decode cX13_find 13 = .ok (.ifCond .ne 5, 3) := by decide +kernel
theorem dX13_find_16 : decode cX13_find 16 = .ok (.iconst 0, 1) := by decide +kernel
theorem dX13_find_17 : decode cX13_find 17 = .ok (.ireturn, 1) := by decide +kernel
theorem dX13_find_18 : decode cX13_find 18 = .ok (.aload_n 0, 1) := by decide +kernel
theorem dX13_find_19 : decode cX13_find 19 = .ok (.getfield 331, 3) := by decide +kernel
theorem dX13_find_22 : decode cX13_find 22 = .ok (.istore_n 2, 1) := by decide +kernel
theorem dX13_find_23 : decode cX13_find 23 = .ok (.aload_n 0, 1) := by decide +kernel
theorem dX13_find_24 : decode cX13_find 24 = .ok (.invokevirtual 471, 3) := by decide +kernel
theorem dX13_find_27 : decode cX13_find 27 = .ok (.aload_n 0, 1) := by decide +kernel
theorem dX13_find_28 : decode cX13_find 28 = .ok (.getfield 346, 3) := by decide +kernel
theorem dX13_find_31 : decode cX13_find 31 = .ok (.iconst 1, 1) := by decide +kernel
theorem dX13_find_32 : decode cX13_find 32 = .ok (.if_icmp .ne 24, 3) := by decide +kernel
theorem dX13_find_35 : decode cX13_find 35 = .ok (.aload_n 0, 1) := by decide +kernel
theorem dX13_find_36 : decode cX13_find 36 = .ok (.getfield 343, 3) := by decide +kernel
theorem dX13_find_39 : decode cX13_find 39 = .ok (.ifCond .ne 17, 3) := by decide +kernel
theorem dX13_find_42 : decode cX13_find 42 = .ok (.aload_n 0, 1) := by decide +kernel
theorem dX13_find_43 : decode cX13_find 43 = .ok (.getfield 337, 3) := by decide +kernel
theorem dX13_find_46 : decode cX13_find 46 = .ok (.iload_n 2, 1) := by decide +kernel
theorem dX13_find_47 : decode cX13_find 47 = .ok (.if_icmp .ne 9, 3) := by decide +kernel
theorem dX13_find_50 : decode cX13_find 50 = .ok (.iload_n 2, 1) := by decide +kernel
theorem dX13_find_51 : decode cX13_find 51 = .ok (.bipush 8, 2) := by decide +kernel
theorem dX13_find_53 : decode cX13_find 53 = .ok (.if_icmp .le 5, 3) := by decide +kernel
theorem dX13_find_56 : decode cX13_find 56 = .ok (.iconst (-1), 1) := by decide +kernel
theorem dX13_find_57 : decode cX13_find 57 = .ok (.ireturn, 1) := by decide +kernel
theorem dX13_find_58 : decode cX13_find 58 = .ok (.iload_n 1, 1) := by decide +kernel
theorem dX13_find_59 : decode cX13_find 59 = .ok (.tableswitch 79 0 2 #[25, 43, 61], 25) := by decide +kernel
theorem dX13_find_84 : decode cX13_find 84 = .ok (.aload_n 0, 1) := by decide +kernel
theorem dX13_find_85 : decode cX13_find 85 = .ok (.invokevirtual 415, 3) := by decide +kernel
theorem dX13_find_88 : decode cX13_find 88 = .ok (.aload_n 0, 1) := by decide +kernel
theorem dX13_find_89 : decode cX13_find 89 = .ok (.getfield 34, 3) := by decide +kernel
theorem dX13_find_92 : decode cX13_find 92 = .ok (.aload_n 0, 1) := by decide +kernel
theorem dX13_find_93 : decode cX13_find 93 = .ok (.getfield 7, 3) := by decide +kernel
theorem dX13_find_96 : decode cX13_find 96 = .ok (.iconst 0, 1) := by decide +kernel
theorem dX13_find_97 : decode cX13_find 97 = .ok (.iaload, 1) := by decide +kernel
theorem dX13_find_98 : decode cX13_find 98 = .ok (.invokestatic 419, 3) := by decide +kernel
theorem dX13_find_101 : decode cX13_find 101 = .ok (.ireturn, 1) := by decide +kernel
theorem dX13_find_102 : decode cX13_find 102 = .ok (.aload_n 0, 1) := by decide +kernel
theorem dX13_find_103 : decode cX13_find 103 = .ok (.invokevirtual 415, 3) := by decide +kernel
theorem dX13_find_106 : decode cX13_find 106 = .ok (.aload_n 0, 1) := by decide +kernel
theorem dX13_find_107 : decode cX13_find 107 = .ok (.getfield 38, 3) := by decide +kernel
theorem dX13_find_110 : decode cX13_find 110 = .ok (.aload_n 0, 1) := by decide +kernel
theorem dX13_find_111 : decode cX13_find 111 = .ok (.getfield 7, 3) := by decide +kernel
theorem dX13_find_114 : decode cX13_find 114 = .ok (.iconst 1, 1) := by decide +kernel
theorem dX13_find_115 : decode cX13_find 115 = .ok (.iaload, 1) := by decide +kernel
theorem dX13_find_116 : decode cX13_find 116 = .ok (.invokestatic 419, 3) := by decide +kernel
theorem dX13_find_119 : decode cX13_find 119 = .ok (.ireturn, 1) := by decide +kernel
theorem dX13_find_120 : decode cX13_find 120 = .ok (.aload_n 0, 1) := by decide +kernel
theorem dX13_find_121 : decode cX13_find 121 = .ok (.invokevirtual 415, 3) := by decide +kernel
theorem dX13_find_124 : decode cX13_find 124 = .ok (.aload_n 0, 1) := by decide +kernel
theorem dX13_find_125 : decode cX13_find 125 = .ok (.getfield 41, 3) := by decide +kernel
theorem dX13_find_128 : decode cX13_find 128 = .ok (.aload_n 0, 1) := by decide +kernel
theorem dX13_find_129 : decode cX13_find 129 = .ok (.getfield 7, 3) := by decide +kernel
theorem dX13_find_132 : decode cX13_find 132 = .ok (.iconst 2, 1) := by decide +kernel
theorem dX13_find_133 : decode cX13_find 133 = .ok (.iaload, 1) := by decide +kernel
theorem dX13_find_134 : decode cX13_find 134 = .ok (.invokestatic 419, 3) := by decide +kernel
theorem dX13_find_137 : decode cX13_find 137 = .ok (.ireturn, 1) := by decide +kernel
theorem dX13_find_138 : decode cX13_find 138 = .ok (.aload_n 0, 1) := by decide +kernel
theorem dX13_find_139 : decode cX13_find 139 = .ok (.invokevirtual 415, 3) := by decide +kernel
theorem dX13_find_142 : decode cX13_find 142 = .ok (.aload_n 0, 1) := by decide +kernel
theorem dX13_find_143 : decode cX13_find 143 = .ok (.getfield 44, 3) := by decide +kernel
theorem dX13_find_146 : decode cX13_find 146 = .ok (.aload_n 0, 1) := by decide +kernel
theorem dX13_find_147 : decode cX13_find 147 = .ok (.getfield 7, 3) := by decide +kernel
theorem dX13_find_150 : decode cX13_find 150 = .ok (.iconst 3, 1) := by decide +kernel
theorem dX13_find_151 : decode cX13_find 151 = .ok (.iaload, 1) := by decide +kernel
theorem dX13_find_152 : decode cX13_find 152 = .ok (.invokestatic 419, 3) := by decide +kernel
theorem dX13_find_155 : decode cX13_find 155 = .ok (.ireturn, 1) := by decide +kernel
theorem hd_X13_find : yX13_find.cls = RX13 ∧ yX13_find.cls ≠ "java/lang/invoke/MethodHandle" ∧ yX13_find.cls ≠ "java/lang/invoke/VarHandle" ∧ (parseMethodDescriptor yX13_find.desc).map (fun d => d.parameters.length) = some 1 := by decide +kernel
theorem hs_X13_find : yX13_find.cls ≠ "java/lang/invoke/MethodHandle" ∧ yX13_find.cls ≠ "java/lang/invoke/VarHandle" ∧ (parseMethodDescriptor yX13_find.desc).map (fun d => d.parameters.length) = some 1 := by decide +kernel
set_option maxHeartbeats 4000000 in
set_option maxRecDepth 100000 in
theorem k_X13_find (l : Launch) (E : Ev) (K : Kd) (z : Nat) (o : Nat) (a_1 : Int32) (w : Wd) (ho : K o = some (11, 0)) {r : Int32} {w' : Wd} (hf : f_X13_find K o a_1 w = some (r, w')) : Met l yX13_find (Cond.code yX13_find cX13_find 3 (Option.some Jvm.ClassFile.FieldType.int) :: bt) ({ frames := 7, cells := 0, slots := 0, locals := 149 } : Room) (va_Pc [rv E (some o), .int a_1] (HB E K w z)) (QI E K z w' r) 0 0 (hA E) := by
  refine Met.ofW (cc := cX13_find) (maxL := 3) (ret := (Option.some Jvm.ClassFile.FieldType.int)) (by decide) rfl ?_
  intro p e s m args below meth c s₁ B hml hv
  obtain ⟨rfl, hz, hP, hKs, hT, hb0⟩ := hv
  have C : CX p l e s m _ meth c cX13_find 3 RX13 (Option.some Jvm.ClassFile.FieldType.int) E := ⟨B.exec, B.bytes, hml, findClass_of_methodNamed B.named, fun w h => atoms_spec (ws := Cond.code yX13_find cX13_find 3 (Option.some Jvm.ClassFile.FieldType.int) :: bt) B.pre w (List.mem_cons_of_mem _ h), hKs, hT, by rw [hz]; exact hb0, B.notSynchronized, B.returns⟩
  have hH : HQ E K z w s s.heap [] := ⟨hP, va_S.rf, hz⟩
  obtain ⟨hx, hb, hml, hown, hts, hKs, hT, hb0, hlocks, hret⟩ := id C
  have hl := lv_entry [rv E (some o), .int a_1] (n := 3) (by simp [lg_len_nil, lg_len_i, lg_len_j, lg_len_q, lg_len_f, lg_len_d, lg_len_r])
  rw [lg_entry_eq]
  generalize (lg_sl [rv E (some o), .int a_1] ++ List.replicate (3 - (lg_sl [rv E (some o), .int a_1]).length) Slot.unset).toArray = ls at hl ⊢
  replace hl : lv_has ls 3 [(0, rv E (some o)), (1, .int a_1)] := by simpa only [lv_args, cat_q, cat_i, cat_j, reduceIte, Nat.reduceEqDiff, Nat.reduceAdd, Nat.zero_add] using hl
  generalize s.heap = H at hH ⊢
  unfold f_X13_find at hf
  refine hl_aload_n hx hb dX13_find_0 rfl (lv_at hl 0 rfl) ?_
  refine lv_iload_n hx hb dX13_find_1 rfl (lv_at hl 1 rfl) ?_
  refine lv_i2l (v := (a_1.toInt64)) hx hb dX13_find_2 rfl ?_
  refine lv_lconst (v := 0) hx hb dX13_find_3 rfl ?_
  refine lv_ldc2 (v := 3) hx hb hown (hts _ m7_154) dX13_find_4 ?_
  obtain ⟨q1, hq1, hf⟩ := bnd hf
  refine hcS_i hx hb hml hown hts hKs hT hb0 hH (As := [.long (a_1.toInt64), .long 0, .long 3]) (rest := [rv E (some o)]) (k_X13_isIn l E K H.size (a_1.toInt64) 0 3 w hq1) (gS m7_88 m7_89 m1_16 m7_90) hs_X13_isIn ⟨Nat.le_of_ble_eq_true rfl, Nat.le_of_ble_eq_true rfl, rfl, rfl⟩ hl.1 rfl (rcV rc0) rfl dX13_find_7 ⟨Nat.zero_le _, Nat.zero_le _⟩ (fun H locs hH => ?_)
  obtain ⟨q2, hq2, hf⟩ := bnd hf
  refine hcV_i hx hb hml hown hts hKs hT hb0 hH (As := [.int (b2i q1.1)]) (rest := []) (k_X13_is l E K H.size o q1.1 q1.2 ho hq2) (gV m7_68 m7_70 ms_47 m1_16 m7_71) hd_X13_is ⟨Nat.le_of_ble_eq_true rfl, Nat.le_of_ble_eq_true rfl, rfl, rfl⟩ rfl ho rfl rfl rfl hl.1 rfl rc0 rfl dX13_find_10 ⟨Nat.zero_le _, Nat.zero_le _⟩ (fun H locs hH => ?_)
  refine lv_if_ne (tgt := 18) hx hb dX13_find_13 (by decide) (fun c3 => ?_) (fun c3 => ?_)
  · replace hf := (if_neg c3).symm.trans hf
    refine hl_aload_n hx hb dX13_find_18 rfl (lv_at hl 0 rfl) ?_
    refine g13_24 hx hb hts hown hKs hH rfl ho m6_205 dX13_find_19 ?_
    refine lv_istore_n (i := 2) (lv' := [(2, .int ((wI q2.2 1324 o))), (0, rv E (some o)), (1, .int a_1)]) hx hb dX13_find_22 rfl hl (by decide) rfl (fun ls hl => ?_)
    refine hl_aload_n hx hb dX13_find_23 rfl (lv_at hl 1 rfl) ?_
    obtain ⟨q4, hq4, hf⟩ := bnd hf
    refine hcV_v hx hb hml hown hts hKs hT hb0 hH (As := []) (rest := []) (k_X13_startsReading l E K H.size o q2.2 ho hq4) (gV m8_217 m8_219 ms_100 m1_16 m8_220) hd_X13_startsReading ⟨Nat.le_of_ble_eq_true rfl, Nat.le_of_ble_eq_true rfl, rfl, rfl⟩ rfl ho rfl rfl rfl hl.1 rfl rc0 rfl dX13_find_24 ⟨Nat.zero_le _, Nat.zero_le _⟩ (fun H locs hH => ?_)
    refine hl_aload_n hx hb dX13_find_27 rfl (lv_at hl 1 rfl) ?_
    refine g13_28 hx hb hts hown hKs hH rfl ho m6_209 dX13_find_28 ?_
    refine lv_iconst (v := 1) hx hb dX13_find_31 (by decide) ?_
    refine lv_icmp_ne (tgt := 56) hx hb dX13_find_32 (by decide) (fun c5 => ?_) (fun c5 => ?_)
    · replace hf := (if_neg c5).symm.trans hf
      refine lv_iconst (v := (-1)) hx hb dX13_find_56 (by decide) ?_
      exact hw_iret hx hb hret hf hH hlocks dX13_find_57
    · replace hf := (if_pos c5).symm.trans hf
      refine hl_aload_n hx hb dX13_find_35 rfl (lv_at hl 1 rfl) ?_
      refine g13_27 hx hb hts hown hKs hH rfl ho m6_208 dX13_find_36 ?_
      refine lv_if_ne (tgt := 56) hx hb dX13_find_39 (by decide) (fun c6 => ?_) (fun c6 => ?_)
      · replace hf := (if_neg c6).symm.trans hf
        refine lv_iconst (v := (-1)) hx hb dX13_find_56 (by decide) ?_
        exact hw_iret hx hb hret hf hH hlocks dX13_find_57
      · replace hf := (if_pos c6).symm.trans hf
        refine hl_aload_n hx hb dX13_find_42 rfl (lv_at hl 1 rfl) ?_
        refine g13_26 hx hb hts hown hKs hH rfl ho m6_207 dX13_find_43 ?_
        refine lv_iload_n hx hb dX13_find_46 rfl (lv_at hl 0 rfl) ?_
        refine lv_icmp_ne (tgt := 56) hx hb dX13_find_47 (by decide) (fun c7 => ?_) (fun c7 => ?_)
        · replace hf := (if_neg c7).symm.trans hf
          refine lv_iconst (v := (-1)) hx hb dX13_find_56 (by decide) ?_
          exact hw_iret hx hb hret hf hH hlocks dX13_find_57
        · replace hf := (if_pos c7).symm.trans hf
          refine lv_iload_n hx hb dX13_find_50 rfl (lv_at hl 0 rfl) ?_
          refine lv_bipush (v := 8) hx hb dX13_find_51 (by decide) ?_
          refine lv_icmp_le (tgt := 58) hx hb dX13_find_53 (by decide) (fun c8 => ?_) (fun c8 => ?_)
          · replace hf := (if_pos c8).symm.trans hf
            refine lv_iload_n hx hb dX13_find_58 rfl (lv_at hl 2 rfl) ?_
            by_cases c9 : (a_1 < 0 ∨ 2 < a_1)
            · replace hf := (if_pos c9).symm.trans hf
              refine hl_tabOut (tgt := 138) hx hb dX13_find_59 c9 (by decide) (by decide) (by decide) ?_
              refine hl_aload_n hx hb dX13_find_138 rfl (lv_at hl 1 rfl) ?_
              obtain ⟨q10, hq10, hf⟩ := bnd hf
              refine hcV_l hx hb hml hown hts hKs hT hb0 hH (As := []) (rest := []) (k_X13_nameHere l E K H.size o q4 ho hq10) (gV m9_90 m9_92 ms_115 m1_16 m9_93) hd_X13_nameHere ⟨Nat.le_of_ble_eq_true rfl, Nat.le_of_ble_eq_true rfl, rfl, rfl⟩ rfl ho rfl rfl rfl hl.1 rfl rc0 rfl dX13_find_139 ⟨Nat.zero_le _, Nat.zero_le _⟩ (fun H locs hH => ?_)
              refine hl_aload_n hx hb dX13_find_142 rfl (lv_at hl 1 rfl) ?_
              refine g13_14 hx hb hts hown hKs hH rfl ho m6_195 dX13_find_143 ?_
              refine hl_aload_n hx hb dX13_find_146 rfl (lv_at hl 1 rfl) ?_
              refine g13_1 hx hb hts hown hKs hH rfl ho m6_182 dX13_find_147 ?_
              refine lv_iconst (v := 3) hx hb dX13_find_150 (by decide) ?_
              obtain ⟨a11, ha11, hf⟩ := bnd hf
              replace ha11 := cha_some ha11
              obtain ⟨j12, hj12, hf⟩ := bnd hf
              refine hw_iald hx hb hKs hH ha11.1 ha11.2 hj12 dX13_find_151 ?_
              obtain ⟨q13, hq13, hf⟩ := bnd hf
              refine hcS_i hx hb hml hown hts hKs hT hb0 hH (As := [.long q10.1, rv E (wR q10.2 1314 o), .int ((aI q10.2 a11.1 j12))]) (rest := []) (k_X13_placeOf l E K H.size q10.1 (wR q10.2 1314 o) (aI q10.2 a11.1 j12) q10.2 hq13) (gS m9_96 m9_97 m1_16 m9_98) hs_X13_placeOf ⟨Nat.le_of_ble_eq_true rfl, Nat.le_of_ble_eq_true rfl, rfl, rfl⟩ hl.1 rfl rc0 rfl dX13_find_152 ⟨Nat.zero_le _, Nat.zero_le _⟩ (fun H locs hH => ?_)
              exact hw_iret hx hb hret hf hH hlocks dX13_find_155
            replace hf := (if_neg c9).symm.trans hf
            by_cases c14 : a_1 = 0
            · replace hf := (if_pos c14).symm.trans hf
              refine hl_tabIn (tgt := 84) hx hb dX13_find_59 c14 (by decide) (by decide) rfl (by decide) ?_
              refine hl_aload_n hx hb dX13_find_84 rfl (lv_at hl 1 rfl) ?_
              obtain ⟨q15, hq15, hf⟩ := bnd hf
              refine hcV_l hx hb hml hown hts hKs hT hb0 hH (As := []) (rest := []) (k_X13_nameHere l E K H.size o q4 ho hq15) (gV m9_90 m9_92 ms_115 m1_16 m9_93) hd_X13_nameHere ⟨Nat.le_of_ble_eq_true rfl, Nat.le_of_ble_eq_true rfl, rfl, rfl⟩ rfl ho rfl rfl rfl hl.1 rfl rc0 rfl dX13_find_85 ⟨Nat.zero_le _, Nat.zero_le _⟩ (fun H locs hH => ?_)
              refine hl_aload_n hx hb dX13_find_88 rfl (lv_at hl 1 rfl) ?_
              refine g13_11 hx hb hts hown hKs hH rfl ho m6_192 dX13_find_89 ?_
              refine hl_aload_n hx hb dX13_find_92 rfl (lv_at hl 1 rfl) ?_
              refine g13_1 hx hb hts hown hKs hH rfl ho m6_182 dX13_find_93 ?_
              refine lv_iconst (v := 0) hx hb dX13_find_96 (by decide) ?_
              obtain ⟨a16, ha16, hf⟩ := bnd hf
              replace ha16 := cha_some ha16
              obtain ⟨j17, hj17, hf⟩ := bnd hf
              refine hw_iald hx hb hKs hH ha16.1 ha16.2 hj17 dX13_find_97 ?_
              obtain ⟨q18, hq18, hf⟩ := bnd hf
              refine hcS_i hx hb hml hown hts hKs hT hb0 hH (As := [.long q15.1, rv E (wR q15.2 1311 o), .int ((aI q15.2 a16.1 j17))]) (rest := []) (k_X13_placeOf l E K H.size q15.1 (wR q15.2 1311 o) (aI q15.2 a16.1 j17) q15.2 hq18) (gS m9_96 m9_97 m1_16 m9_98) hs_X13_placeOf ⟨Nat.le_of_ble_eq_true rfl, Nat.le_of_ble_eq_true rfl, rfl, rfl⟩ hl.1 rfl rc0 rfl dX13_find_98 ⟨Nat.zero_le _, Nat.zero_le _⟩ (fun H locs hH => ?_)
              exact hw_iret hx hb hret hf hH hlocks dX13_find_101
            replace hf := (if_neg c14).symm.trans hf
            by_cases c19 : a_1 = 1
            · replace hf := (if_pos c19).symm.trans hf
              refine hl_tabIn (tgt := 102) hx hb dX13_find_59 c19 (by decide) (by decide) rfl (by decide) ?_
              refine hl_aload_n hx hb dX13_find_102 rfl (lv_at hl 1 rfl) ?_
              obtain ⟨q20, hq20, hf⟩ := bnd hf
              refine hcV_l hx hb hml hown hts hKs hT hb0 hH (As := []) (rest := []) (k_X13_nameHere l E K H.size o q4 ho hq20) (gV m9_90 m9_92 ms_115 m1_16 m9_93) hd_X13_nameHere ⟨Nat.le_of_ble_eq_true rfl, Nat.le_of_ble_eq_true rfl, rfl, rfl⟩ rfl ho rfl rfl rfl hl.1 rfl rc0 rfl dX13_find_103 ⟨Nat.zero_le _, Nat.zero_le _⟩ (fun H locs hH => ?_)
              refine hl_aload_n hx hb dX13_find_106 rfl (lv_at hl 1 rfl) ?_
              refine g13_12 hx hb hts hown hKs hH rfl ho m6_193 dX13_find_107 ?_
              refine hl_aload_n hx hb dX13_find_110 rfl (lv_at hl 1 rfl) ?_
              refine g13_1 hx hb hts hown hKs hH rfl ho m6_182 dX13_find_111 ?_
              refine lv_iconst (v := 1) hx hb dX13_find_114 (by decide) ?_
              obtain ⟨a21, ha21, hf⟩ := bnd hf
              replace ha21 := cha_some ha21
              obtain ⟨j22, hj22, hf⟩ := bnd hf
              refine hw_iald hx hb hKs hH ha21.1 ha21.2 hj22 dX13_find_115 ?_
              obtain ⟨q23, hq23, hf⟩ := bnd hf
              refine hcS_i hx hb hml hown hts hKs hT hb0 hH (As := [.long q20.1, rv E (wR q20.2 1312 o), .int ((aI q20.2 a21.1 j22))]) (rest := []) (k_X13_placeOf l E K H.size q20.1 (wR q20.2 1312 o) (aI q20.2 a21.1 j22) q20.2 hq23) (gS m9_96 m9_97 m1_16 m9_98) hs_X13_placeOf ⟨Nat.le_of_ble_eq_true rfl, Nat.le_of_ble_eq_true rfl, rfl, rfl⟩ hl.1 rfl rc0 rfl dX13_find_116 ⟨Nat.zero_le _, Nat.zero_le _⟩ (fun H locs hH => ?_)
              exact hw_iret hx hb hret hf hH hlocks dX13_find_119
            replace hf := (if_neg c19).symm.trans hf
            by_cases c24 : a_1 = 2
            · replace hf := (if_pos c24).symm.trans hf
              refine hl_tabIn (tgt := 120) hx hb dX13_find_59 c24 (by decide) (by decide) rfl (by decide) ?_
              refine hl_aload_n hx hb dX13_find_120 rfl (lv_at hl 1 rfl) ?_
              obtain ⟨q25, hq25, hf⟩ := bnd hf
              refine hcV_l hx hb hml hown hts hKs hT hb0 hH (As := []) (rest := []) (k_X13_nameHere l E K H.size o q4 ho hq25) (gV m9_90 m9_92 ms_115 m1_16 m9_93) hd_X13_nameHere ⟨Nat.le_of_ble_eq_true rfl, Nat.le_of_ble_eq_true rfl, rfl, rfl⟩ rfl ho rfl rfl rfl hl.1 rfl rc0 rfl dX13_find_121 ⟨Nat.zero_le _, Nat.zero_le _⟩ (fun H locs hH => ?_)
              refine hl_aload_n hx hb dX13_find_124 rfl (lv_at hl 1 rfl) ?_
              refine g13_13 hx hb hts hown hKs hH rfl ho m6_194 dX13_find_125 ?_
              refine hl_aload_n hx hb dX13_find_128 rfl (lv_at hl 1 rfl) ?_
              refine g13_1 hx hb hts hown hKs hH rfl ho m6_182 dX13_find_129 ?_
              refine lv_iconst (v := 2) hx hb dX13_find_132 (by decide) ?_
              obtain ⟨a26, ha26, hf⟩ := bnd hf
              replace ha26 := cha_some ha26
              obtain ⟨j27, hj27, hf⟩ := bnd hf
              refine hw_iald hx hb hKs hH ha26.1 ha26.2 hj27 dX13_find_133 ?_
              obtain ⟨q28, hq28, hf⟩ := bnd hf
              refine hcS_i hx hb hml hown hts hKs hT hb0 hH (As := [.long q25.1, rv E (wR q25.2 1313 o), .int ((aI q25.2 a26.1 j27))]) (rest := []) (k_X13_placeOf l E K H.size q25.1 (wR q25.2 1313 o) (aI q25.2 a26.1 j27) q25.2 hq28) (gS m9_96 m9_97 m1_16 m9_98) hs_X13_placeOf ⟨Nat.le_of_ble_eq_true rfl, Nat.le_of_ble_eq_true rfl, rfl, rfl⟩ hl.1 rfl rc0 rfl dX13_find_134 ⟨Nat.zero_le _, Nat.zero_le _⟩ (fun H locs hH => ?_)
              exact hw_iret hx hb hret hf hH hlocks dX13_find_137
            replace hf := (if_neg c24).symm.trans hf
            cases hf
          · replace hf := (if_neg c8).symm.trans hf
            refine lv_iconst (v := (-1)) hx hb dX13_find_56 (by decide) ?_
            exact hw_iret hx hb hret hf hH hlocks dX13_find_57
  · replace hf := (if_pos c3).symm.trans hf
    refine lv_iconst (v := 0) hx hb dX13_find_16 (by decide) ?_
    exact hw_iret hx hb hret hf hH hlocks dX13_find_17

theorem dX5_takesStatement_0 : decode cX5_takesStatement 0 = .ok (.getstatic 62, 3) := by decide +kernel
theorem dX5_takesStatement_3 : decode cX5_takesStatement 3 = .ok (.aload_n 0, 1) := by decide +kernel
theorem dX5_takesStatement_4 : decode cX5_takesStatement 4 = .ok (.getfield 12, 3) := by decide +kernel
theorem dX5_takesStatement_7 : decode cX5_takesStatement 7 = .ok (.getfield 39, 3) := by decide +kernel
theorem dX5_takesStatement_10 : decode cX5_takesStatement 10 = .ok (.invokevirtual 68, 3) := by decide +kernel
theorem dX5_takesStatement_13 : decode cX5_takesStatement 13 = .ok (.iaload, 1) := by decide +kernel
theorem dX5_takesStatement_14 : decode cX5_takesStatement 14 = .ok (.tableswitch 95 1 9 #[50, 55, 60, 65, 70, 75, 80, 85, 90], 50) := by decide +kernel
theorem dX5_takesStatement_64 : decode cX5_takesStatement 64 = .ok (.aload_n 0, 1) := by decide +kernel
theorem dX5_takesStatement_65 : decode cX5_takesStatement 65 = .ok (.invokevirtual 72, 3) := by decide +kernel
theorem dX5_takesStatement_68 : decode cX5_takesStatement 68 = .ok (.ireturn, 1) := by decide +kernel
theorem dX5_takesStatement_69 : decode cX5_takesStatement 69 = .ok (.aload_n 0, 1) := by decide +kernel
theorem dX5_takesStatement_70 : decode cX5_takesStatement 70 = .ok (.invokevirtual 75, 3) := by decide +kernel
theorem dX5_takesStatement_73 : decode cX5_takesStatement 73 = .ok (.ireturn, 1) := by decide +kernel
theorem dX5_takesStatement_74 : decode cX5_takesStatement 74 = .ok (.aload_n 0, 1) := by decide +kernel
theorem dX5_takesStatement_75 : decode cX5_takesStatement 75 = .ok (.invokevirtual 78, 3) := by decide +kernel
theorem dX5_takesStatement_78 : decode cX5_takesStatement 78 = .ok (.ireturn, 1) := by decide +kernel
theorem dX5_takesStatement_79 : decode cX5_takesStatement 79 = .ok (.aload_n 0, 1) := by decide +kernel
theorem dX5_takesStatement_80 : decode cX5_takesStatement 80 = .ok (.invokevirtual 81, 3) := by decide +kernel
theorem dX5_takesStatement_83 : decode cX5_takesStatement 83 = .ok (.ireturn, 1) := by decide +kernel
theorem dX5_takesStatement_84 : decode cX5_takesStatement 84 = .ok (.aload_n 0, 1) := by decide +kernel
theorem dX5_takesStatement_85 : decode cX5_takesStatement 85 = .ok (.invokevirtual 84, 3) := by decide +kernel
theorem dX5_takesStatement_88 : decode cX5_takesStatement 88 = .ok (.ireturn, 1) := by decide +kernel
theorem dX5_takesStatement_89 : decode cX5_takesStatement 89 = .ok (.aload_n 0, 1) := by decide +kernel
theorem dX5_takesStatement_90 : decode cX5_takesStatement 90 = .ok (.invokevirtual 87, 3) := by decide +kernel
theorem dX5_takesStatement_93 : decode cX5_takesStatement 93 = .ok (.ireturn, 1) := by decide +kernel
theorem dX5_takesStatement_94 : decode cX5_takesStatement 94 = .ok (.aload_n 0, 1) := by decide +kernel
theorem dX5_takesStatement_95 : decode cX5_takesStatement 95 = .ok (.invokevirtual 90, 3) := by decide +kernel
theorem dX5_takesStatement_98 : decode cX5_takesStatement 98 = .ok (.ireturn, 1) := by decide +kernel
theorem dX5_takesStatement_99 : decode cX5_takesStatement 99 = .ok (.aload_n 0, 1) := by decide +kernel
theorem dX5_takesStatement_100 : decode cX5_takesStatement 100 = .ok (.invokevirtual 93, 3) := by decide +kernel
theorem dX5_takesStatement_103 : decode cX5_takesStatement 103 = .ok (.ireturn, 1) := by decide +kernel
theorem dX5_takesStatement_104 : decode cX5_takesStatement 104 = .ok (.aload_n 0, 1) := by decide +kernel
theorem dX5_takesStatement_105 : decode cX5_takesStatement 105 = .ok (.invokevirtual 96, 3) := by decide +kernel
theorem dX5_takesStatement_108 : decode cX5_takesStatement 108 = .ok (.ireturn, 1) := by decide +kernel
theorem dX5_takesStatement_109 : decode cX5_takesStatement 109 = .ok (.aload_n 0, 1) := by decide +kernel
theorem dX5_takesStatement_110 : decode cX5_takesStatement 110 = .ok (.iconst 1, 1) := by decide +kernel
theorem dX5_takesStatement_111 : decode cX5_takesStatement 111 = .ok (.invokevirtual 99, 3) := by decide +kernel
theorem dX5_takesStatement_114 : decode cX5_takesStatement 114 = .ok (.ireturn, 1) := by decide +kernel
theorem hd_X5_takesStatement : yX5_takesStatement.cls = RX5 ∧ yX5_takesStatement.cls ≠ "java/lang/invoke/MethodHandle" ∧ yX5_takesStatement.cls ≠ "java/lang/invoke/VarHandle" ∧ (parseMethodDescriptor yX5_takesStatement.desc).map (fun d => d.parameters.length) = some 0 := by decide +kernel
theorem hs_X5_takesStatement : yX5_takesStatement.cls ≠ "java/lang/invoke/MethodHandle" ∧ yX5_takesStatement.cls ≠ "java/lang/invoke/VarHandle" ∧ (parseMethodDescriptor yX5_takesStatement.desc).map (fun d => d.parameters.length) = some 0 := by decide +kernel
set_option maxHeartbeats 4000000 in
set_option maxRecDepth 100000 in
theorem k_X5_takesStatement (l : Launch) (E : Ev) (K : Kd) (z : Nat) (o : Nat) (w : Wd) (ho : K o = some (4, 0)) {r : Bool} {w' : Wd} (hf : f_X5_takesStatement K o w = some (r, w')) : Met l yX5_takesStatement (Cond.code yX5_takesStatement cX5_takesStatement 1 (Option.some Jvm.ClassFile.FieldType.boolean) :: bt) ({ frames := 5, cells := 0, slots := 0, locals := 107 } : Room) (va_Pc [rv E (some o)] (HB E K w z)) (QI E K z w' (b2i r)) 0 0 (hA E) := by
  refine Met.ofW (cc := cX5_takesStatement) (maxL := 1) (ret := (Option.some Jvm.ClassFile.FieldType.boolean)) (by decide) rfl ?_
  intro p e s m args below meth c s₁ B hml hv
  obtain ⟨rfl, hz, hP, hKs, hT, hb0⟩ := hv
  have C : CX p l e s m _ meth c cX5_takesStatement 1 RX5 (Option.some Jvm.ClassFile.FieldType.boolean) E := ⟨B.exec, B.bytes, hml, findClass_of_methodNamed B.named, fun w h => atoms_spec (ws := Cond.code yX5_takesStatement cX5_takesStatement 1 (Option.some Jvm.ClassFile.FieldType.boolean) :: bt) B.pre w (List.mem_cons_of_mem _ h), hKs, hT, by rw [hz]; exact hb0, B.notSynchronized, B.returns⟩
  have hH : HQ E K z w s s.heap [] := ⟨hP, va_S.rf, hz⟩
  obtain ⟨hx, hb, hml, hown, hts, hKs, hT, hb0, hlocks, hret⟩ := id C
  have hl := lv_entry [rv E (some o)] (n := 1) (by simp [lg_len_nil, lg_len_i, lg_len_j, lg_len_q, lg_len_f, lg_len_d, lg_len_r])
  rw [lg_entry_eq]
  generalize (lg_sl [rv E (some o)] ++ List.replicate (1 - (lg_sl [rv E (some o)]).length) Slot.unset).toArray = ls at hl ⊢
  replace hl : lv_has ls 1 [(0, rv E (some o))] := by simpa only [lv_args, cat_q, cat_i, cat_j, reduceIte, Nat.reduceEqDiff, Nat.reduceAdd, Nat.zero_add] using hl
  generalize s.heap = H at hH ⊢
  unfold f_X5_takesStatement at hf
  refine hw_sw hx hb hts hown hT hH m3_84 dX5_takesStatement_0 ?_
  refine hl_aload_n hx hb dX5_takesStatement_3 rfl (lv_at hl 0 rfl) ?_
  refine g5_0 hx hb hts hown hKs hH rfl ho m2_30 dX5_takesStatement_4 ?_
  obtain ⟨a1, ha1, hf⟩ := bnd hf
  replace ha1 := chk_some ha1
  refine gn8_4 hx hb hts hown hKs hH ha1.1 ha1.2 m2_7 dX5_takesStatement_7 ?_
  obtain ⟨a2, ha2, hf⟩ := bnd hf
  replace ha2 := tki_some ha2
  obtain ⟨q3, hq3, hf⟩ := bnd hf
  rw [ha2.1]
  refine hcG_i hH (va_runU (As := []) (rest := [.ref (E.2.2.2 101)]) ⟨hx, hb, hml, hown, hts⟩ (k_Jx29ce0_ordinal_8abf5 l E K H.size a2 w ha2.2 hq3) (va_cwU 0 hts (gU m3_86 m3_87 m3_90 m3_89 m1_10 m3_91) rfl rfl rfl rfl (by decide +kernel) ⟨Nat.le_of_ble_eq_true rfl, Nat.le_of_ble_eq_true rfl⟩) ⟨HB.blind, tokRecv ha2.2 hT hH, HB.pre hKs hT hb0 hH⟩ rfl rfl hl.1 rfl (lv_room (rcR rc0)) dX5_takesStatement_10 ⟨Nat.zero_le _, Nat.zero_le _⟩) (fun H locs hH => ?_)
  obtain ⟨j4, hj4, hf⟩ := bnd hf
  refine hw_swat hx hb hT hH hj4 dX5_takesStatement_13 ?_
  by_cases c5 : ((swm.getD j4 0) < 1 ∨ 9 < (swm.getD j4 0))
  · replace hf := (if_pos c5).symm.trans hf
    refine hl_tabOut (tgt := 109) hx hb dX5_takesStatement_14 c5 (by decide) (by decide) (by decide) ?_
    refine hl_aload_n hx hb dX5_takesStatement_109 rfl (lv_at hl 0 rfl) ?_
    refine lv_iconst (v := 1) hx hb dX5_takesStatement_110 (by decide) ?_
    obtain ⟨q6, hq6, hf⟩ := bnd hf
    refine hcV_i hx hb hml hown hts hKs hT hb0 hH (As := [.int 1]) (rest := []) (k_X5_fail l E K H.size o 1 q3.2 ho hq6) (gV m3_96 m3_98 ms_3 m1_8 m3_99) hd_X5_fail ⟨Nat.le_of_ble_eq_true rfl, Nat.le_of_ble_eq_true rfl, rfl, rfl⟩ rfl ho rfl rfl rfl hl.1 rfl rc0 rfl dX5_takesStatement_111 ⟨Nat.zero_le _, Nat.zero_le _⟩ (fun H locs hH => ?_)
    exact hw_zret hx hb hret rfl hf hH hlocks dX5_takesStatement_114
  replace hf := (if_neg c5).symm.trans hf
  by_cases c7 : (swm.getD j4 0) = 1
  · replace hf := (if_pos c7).symm.trans hf
    refine hl_tabIn (tgt := 64) hx hb dX5_takesStatement_14 c7 (by decide) (by decide) rfl (by decide) ?_
    refine hl_aload_n hx hb dX5_takesStatement_64 rfl (lv_at hl 0 rfl) ?_
    obtain ⟨q8, hq8, hf⟩ := bnd hf
    refine hcV_i hx hb hml hown hts hKs hT hb0 hH (As := []) (rest := []) (k_X5_takesHoliday l E K H.size o q3.2 ho hq8) (gV m3_92 m3_94 ms_2 m1_8 m3_95) hd_X5_takesHoliday ⟨Nat.le_of_ble_eq_true rfl, Nat.le_of_ble_eq_true rfl, rfl, rfl⟩ rfl ho rfl rfl rfl hl.1 rfl rc0 rfl dX5_takesStatement_65 ⟨Nat.zero_le _, Nat.zero_le _⟩ (fun H locs hH => ?_)
    exact hw_zret hx hb hret rfl hf hH hlocks dX5_takesStatement_68
  replace hf := (if_neg c7).symm.trans hf
  by_cases c9 : (swm.getD j4 0) = 2
  · replace hf := (if_pos c9).symm.trans hf
    refine hl_tabIn (tgt := 69) hx hb dX5_takesStatement_14 c9 (by decide) (by decide) rfl (by decide) ?_
    refine hl_aload_n hx hb dX5_takesStatement_69 rfl (lv_at hl 0 rfl) ?_
    obtain ⟨q10, hq10, hf⟩ := bnd hf
    refine hcV_i hx hb hml hown hts hKs hT hb0 hH (As := []) (rest := []) (k_X5_takesRoom l E K H.size o q3.2 ho hq10) (gV m3_115 m3_117 ms_5 m1_8 m3_118) hd_X5_takesRoom ⟨Nat.le_of_ble_eq_true rfl, Nat.le_of_ble_eq_true rfl, rfl, rfl⟩ rfl ho rfl rfl rfl hl.1 rfl rc0 rfl dX5_takesStatement_70 ⟨Nat.zero_le _, Nat.zero_le _⟩ (fun H locs hH => ?_)
    exact hw_zret hx hb hret rfl hf hH hlocks dX5_takesStatement_73
  replace hf := (if_neg c9).symm.trans hf
  by_cases c11 : (swm.getD j4 0) = 3
  · replace hf := (if_pos c11).symm.trans hf
    refine hl_tabIn (tgt := 74) hx hb dX5_takesStatement_14 c11 (by decide) (by decide) rfl (by decide) ?_
    refine hl_aload_n hx hb dX5_takesStatement_74 rfl (lv_at hl 0 rfl) ?_
    obtain ⟨q12, hq12, hf⟩ := bnd hf
    refine hcV_i hx hb hml hown hts hKs hT hb0 hH (As := []) (rest := []) (k_X5_takesOfficer l E K H.size o q3.2 ho hq12) (gV m3_157 m3_159 ms_10 m1_8 m3_160) hd_X5_takesOfficer ⟨Nat.le_of_ble_eq_true rfl, Nat.le_of_ble_eq_true rfl, rfl, rfl⟩ rfl ho rfl rfl rfl hl.1 rfl rc0 rfl dX5_takesStatement_75 ⟨Nat.zero_le _, Nat.zero_le _⟩ (fun H locs hH => ?_)
    exact hw_zret hx hb hret rfl hf hH hlocks dX5_takesStatement_78
  replace hf := (if_neg c11).symm.trans hf
  by_cases c13 : (swm.getD j4 0) = 4
  · replace hf := (if_pos c13).symm.trans hf
    refine hl_tabIn (tgt := 79) hx hb dX5_takesStatement_14 c13 (by decide) (by decide) rfl (by decide) ?_
    refine hl_aload_n hx hb dX5_takesStatement_79 rfl (lv_at hl 0 rfl) ?_
    obtain ⟨q14, hq14, hf⟩ := bnd hf
    refine hcV_i hx hb hml hown hts hKs hT hb0 hH (As := []) (rest := []) (k_X5_takesWitness l E K H.size o q3.2 ho hq14) (gV m3_167 m3_169 ms_11 m1_8 m3_170) hd_X5_takesWitness ⟨Nat.le_of_ble_eq_true rfl, Nat.le_of_ble_eq_true rfl, rfl, rfl⟩ rfl ho rfl rfl rfl hl.1 rfl rc0 rfl dX5_takesStatement_80 ⟨Nat.zero_le _, Nat.zero_le _⟩ (fun H locs hH => ?_)
    exact hw_zret hx hb hret rfl hf hH hlocks dX5_takesStatement_83
  replace hf := (if_neg c13).symm.trans hf
  by_cases c15 : (swm.getD j4 0) = 5
  · replace hf := (if_pos c15).symm.trans hf
    refine hl_tabIn (tgt := 84) hx hb dX5_takesStatement_14 c15 (by decide) (by decide) rfl (by decide) ?_
    refine hl_aload_n hx hb dX5_takesStatement_84 rfl (lv_at hl 0 rfl) ?_
    obtain ⟨q16, hq16, hf⟩ := bnd hf
    refine hcV_i hx hb hml hown hts hKs hT hb0 hH (As := []) (rest := []) (k_X5_takesCase l E K H.size o q3.2 ho hq16) (gV m3_173 m3_175 ms_12 m1_8 m3_176) hd_X5_takesCase ⟨Nat.le_of_ble_eq_true rfl, Nat.le_of_ble_eq_true rfl, rfl, rfl⟩ rfl ho rfl rfl rfl hl.1 rfl rc0 rfl dX5_takesStatement_85 ⟨Nat.zero_le _, Nat.zero_le _⟩ (fun H locs hH => ?_)
    exact hw_zret hx hb hret rfl hf hH hlocks dX5_takesStatement_88
  replace hf := (if_neg c15).symm.trans hf
  by_cases c17 : (swm.getD j4 0) = 6
  · replace hf := (if_pos c17).symm.trans hf
    refine hl_tabIn (tgt := 89) hx hb dX5_takesStatement_14 c17 (by decide) (by decide) rfl (by decide) ?_
    refine hl_aload_n hx hb dX5_takesStatement_89 rfl (lv_at hl 0 rfl) ?_
    obtain ⟨q18, hq18, hf⟩ := bnd hf
    refine hcV_i hx hb hml hown hts hKs hT hb0 hH (As := []) (rest := []) (k_X5_takesBar l E K H.size o q3.2 ho hq18) (gV m3_196 m3_198 ms_15 m1_8 m3_199) hd_X5_takesBar ⟨Nat.le_of_ble_eq_true rfl, Nat.le_of_ble_eq_true rfl, rfl, rfl⟩ rfl ho rfl rfl rfl hl.1 rfl rc0 rfl dX5_takesStatement_90 ⟨Nat.zero_le _, Nat.zero_le _⟩ (fun H locs hH => ?_)
    exact hw_zret hx hb hret rfl hf hH hlocks dX5_takesStatement_93
  replace hf := (if_neg c17).symm.trans hf
  by_cases c19 : (swm.getD j4 0) = 7
  · replace hf := (if_pos c19).symm.trans hf
    refine hl_tabIn (tgt := 94) hx hb dX5_takesStatement_14 c19 (by decide) (by decide) rfl (by decide) ?_
    refine hl_aload_n hx hb dX5_takesStatement_94 rfl (lv_at hl 0 rfl) ?_
    obtain ⟨q20, hq20, hf⟩ := bnd hf
    refine hcV_i hx hb hml hown hts hKs hT hb0 hH (As := []) (rest := []) (k_X5_takesConflict l E K H.size o q3.2 ho hq20) (gV m3_200 m3_202 ms_16 m1_8 m3_203) hd_X5_takesConflict ⟨Nat.le_of_ble_eq_true rfl, Nat.le_of_ble_eq_true rfl, rfl, rfl⟩ rfl ho rfl rfl rfl hl.1 rfl rc0 rfl dX5_takesStatement_95 ⟨Nat.zero_le _, Nat.zero_le _⟩ (fun H locs hH => ?_)
    exact hw_zret hx hb hret rfl hf hH hlocks dX5_takesStatement_98
  replace hf := (if_neg c19).symm.trans hf
  by_cases c21 : (swm.getD j4 0) = 8
  · replace hf := (if_pos c21).symm.trans hf
    refine hl_tabIn (tgt := 99) hx hb dX5_takesStatement_14 c21 (by decide) (by decide) rfl (by decide) ?_
    refine hl_aload_n hx hb dX5_takesStatement_99 rfl (lv_at hl 0 rfl) ?_
    obtain ⟨q22, hq22, hf⟩ := bnd hf
    refine hcV_i hx hb hml hown hts hKs hT hb0 hH (As := []) (rest := []) (k_X5_takesLengthen l E K H.size o q3.2 ho hq22) (gV m3_204 m3_206 ms_17 m1_8 m3_207) hd_X5_takesLengthen ⟨Nat.le_of_ble_eq_true rfl, Nat.le_of_ble_eq_true rfl, rfl, rfl⟩ rfl ho rfl rfl rfl hl.1 rfl rc0 rfl dX5_takesStatement_100 ⟨Nat.zero_le _, Nat.zero_le _⟩ (fun H locs hH => ?_)
    exact hw_zret hx hb hret rfl hf hH hlocks dX5_takesStatement_103
  replace hf := (if_neg c21).symm.trans hf
  by_cases c23 : (swm.getD j4 0) = 9
  · replace hf := (if_pos c23).symm.trans hf
    refine hl_tabIn (tgt := 104) hx hb dX5_takesStatement_14 c23 (by decide) (by decide) rfl (by decide) ?_
    refine hl_aload_n hx hb dX5_takesStatement_104 rfl (lv_at hl 0 rfl) ?_
    obtain ⟨q24, hq24, hf⟩ := bnd hf
    refine hcV_i hx hb hml hown hts hKs hT hb0 hH (As := []) (rest := []) (k_X5_takesCap l E K H.size o q3.2 ho hq24) (gV m3_208 m3_210 ms_18 m1_8 m3_211) hd_X5_takesCap ⟨Nat.le_of_ble_eq_true rfl, Nat.le_of_ble_eq_true rfl, rfl, rfl⟩ rfl ho rfl rfl rfl hl.1 rfl rc0 rfl dX5_takesStatement_105 ⟨Nat.zero_le _, Nat.zero_le _⟩ (fun H locs hH => ?_)
    exact hw_zret hx hb hret rfl hf hH hlocks dX5_takesStatement_108
  replace hf := (if_neg c23).symm.trans hf
  cases hf

theorem dL_opening_0 : decode cL_opening 0 = .ok (.aload_n 3, 1) := by decide +kernel
theorem dL_opening_1 : decode cL_opening 1 = .ok (.iconst 0, 1) := by decide +kernel
theorem dL_opening_2 : decode cL_opening 2 = .ok (.aload_n 0, 1) := by decide +kernel
theorem dL_opening_3 : decode cL_opening 3 = .ok (.iload_n 1, 1) := by decide +kernel
theorem dL_opening_4 : decode cL_opening 4 = .ok (.iload_n 2, 1) := by decide +kernel
theorem dL_opening_5 : decode cL_opening 5 = .ok (.invokevirtual 60, 3) := by decide +kernel
theorem dL_opening_8 : decode cL_opening 8 = .ok (.i2l, 1) := by decide +kernel
theorem dL_opening_9 : decode cL_opening 9 = .ok (.lastore, 1) := by decide +kernel
theorem dL_opening_10 : decode cL_opening 10 = .ok (.goto 11, 3) := by decide +kernel
theorem dL_opening_13 : decode cL_opening 13 = .ok (.astore 4, 2) := by decide +kernel
theorem dL_opening_15 : decode cL_opening 15 = .ok (.iconst 1, 1) := by decide +kernel
theorem dL_opening_16 : decode cL_opening 16 = .ok (.ireturn, 1) := by decide +kernel
theorem dL_opening_17 : decode cL_opening 17 = .ok (.astore 4, 2) := by decide +kernel
theorem dL_opening_19 : decode cL_opening 19 = .ok (.iconst 2, 1) := by decide +kernel
theorem dL_opening_20 : decode cL_opening 20 = .ok (.ireturn, 1) := by decide +kernel
theorem dL_opening_21 : decode cL_opening 21 = .ok (.iconst 0, 1) := by decide +kernel
theorem dL_opening_22 : decode cL_opening 22 = .ok (.ireturn, 1) := by decide +kernel
theorem hs_L_opening : yL_opening.cls ≠ "java/lang/invoke/MethodHandle" ∧ yL_opening.cls ≠ "java/lang/invoke/VarHandle" ∧ (parseMethodDescriptor yL_opening.desc).map (fun d => d.parameters.length) = some 4 := by decide +kernel
set_option maxHeartbeats 4000000 in
set_option maxRecDepth 100000 in
theorem k_L_opening (l : Launch) (hls : l.stackTraces = false) (E : Ev) (K : Kd) (z : Nat) (a_0 : Option Nat) (a_1 : Int32) (a_2 : Int32) (a_3 : Option Nat) (w : Wd) {r : Int32} {w' : Wd} (hf : f_L_opening K a_0 a_1 a_2 a_3 w = some (r, w')) : Met l yL_opening (Cond.codeWith yL_opening cL_opening 5 (Option.some Jvm.ClassFile.FieldType.int) [(0, 10, 13, 29), (0, 10, 17, 58)] :: bt) ({ frames := 8, cells := 2, slots := 12, locals := 150 } : Room) (va_Pc [rv E a_0, .int a_1, .int a_2, rv E a_3] (HB E K w z)) (QW E K w' r) 2 12 (hA E) := by
  refine MetH_ofW (cc := cL_opening) (maxL := 5) (ret := (Option.some Jvm.ClassFile.FieldType.int)) (hh := [(0, 10, 13, 29), (0, 10, 17, 58)]) (by decide) rfl ?_
  intro p e s m args below meth c s₁ B hml htab hv
  obtain ⟨rfl, hz, hP, hKs, hT, hb0⟩ := hv
  have C : CX p l e s m _ meth c cL_opening 5 RL (Option.some Jvm.ClassFile.FieldType.int) E := ⟨B.exec, B.bytes, hml, findClass_of_methodNamed B.named, fun w h => atoms_spec (ws := Cond.codeWith yL_opening cL_opening 5 (Option.some Jvm.ClassFile.FieldType.int) [(0, 10, 13, 29), (0, 10, 17, 58)] :: bt) B.pre w (List.mem_cons_of_mem _ h), hKs, hT, by rw [hz]; exact hb0, B.notSynchronized, B.returns⟩
  have hH : HQ E K z w s s.heap [] := ⟨hP, va_S.rf, hz⟩
  obtain ⟨hx, hb, hml, hown, hts, hKs, hT, hb0, hlocks, hret⟩ := id C
  have hl := lv_entry [rv E a_0, .int a_1, .int a_2, rv E a_3] (n := 5) (by simp [lg_len_nil, lg_len_i, lg_len_j, lg_len_q, lg_len_f, lg_len_d, lg_len_r])
  rw [lg_entry_eq]
  generalize (lg_sl [rv E a_0, .int a_1, .int a_2, rv E a_3] ++ List.replicate (5 - (lg_sl [rv E a_0, .int a_1, .int a_2, rv E a_3]).length) Slot.unset).toArray = ls at hl ⊢
  replace hl : lv_has ls 5 [(0, rv E a_0), (1, .int a_1), (2, .int a_2), (3, rv E a_3)] := by simpa only [lv_args, cat_q, cat_i, cat_j, reduceIte, Nat.reduceEqDiff, Nat.reduceAdd, Nat.zero_add] using hl
  generalize s.heap = H at hH ⊢
  unfold f_L_opening at hf
  refine hl_aload_n hx hb dL_opening_0 rfl (lv_at hl 3 rfl) ?_
  refine lv_iconst (v := 0) hx hb dL_opening_1 (by decide) ?_
  refine hl_aload_n hx hb dL_opening_2 rfl (lv_at hl 0 rfl) ?_
  refine lv_iload_n hx hb dL_opening_3 rfl (lv_at hl 1 rfl) ?_
  refine lv_iload_n hx hb dL_opening_4 rfl (lv_at hl 2 rfl) ?_
  obtain ⟨a1, ha1, hf⟩ := bnd hf
  replace ha1 := chk_some ha1
  obtain ⟨q2, hq2, hf⟩ := bnd hf
  refine hxC_i hx hb hml hown hts hKs hT hb0 hH (As := [.int a_1, .int a_2]) (rest := [.int 0, rv E a_3]) (k_X12_opening l hls E K H.size a1 a_1 a_2 w ha1.2 hq2) (gV m5_216 m5_217 m5_218 m1_1 m5_219) hd_X12_opening ⟨Nat.le_of_ble_eq_true rfl, Nat.le_of_ble_eq_true rfl, rfl, rfl⟩ ha1.1 ha1.2 rfl rfl rfl hl.1 rfl (rcI (rcV rc0)) rfl dL_opening_5 ⟨Nat.le_of_ble_eq_true rfl, Nat.le_of_ble_eq_true rfl⟩ (fun c4 hc4 H locs q9 ce9 hH hc9 hv9 hf9 => ?_) (fun v3 hv3 H locs hH => ?_)
  · replace hf := (xh_inr hc4).symm.trans hf
    by_cases h5 : c4 = 1
    · subst h5
      replace hf := (if_pos rfl).symm.trans hf
      refine vx_catch (name := "java/lang/IndexOutOfBoundsException") hown [] ⟨0, 10, 13, 29⟩ [⟨0, 10, 17, 58⟩] htab pass0 (by decide) (by decide) (hts _ m5_85) (va_Nw.use rfl (hKs.2.1 _ m5_96)) hc9 hv9 hf9 ?_
      refine lv_astore (i := 4) (lv' := [(4, .ref q9), (0, rv E a_0), (1, .int a_1), (2, .int a_2), (3, rv E a_3)]) hx hb dL_opening_13 hl (by decide) (by simp [List.filter_cons, cat_q, cat_i, cat_j, imax, imin]) (fun ls hl => ?_)
      refine lv_iconst (v := 1) hx hb dL_opening_15 (by decide) ?_
      exact hw_wret hx hb (Nat.le_of_ble_eq_true rfl) (Nat.le_of_ble_eq_true rfl) hret hf hH hlocks dL_opening_16
    replace hf := (if_neg h5).symm.trans hf
    by_cases h6 : c4 = 3
    · subst h6
      replace hf := (if_pos rfl).symm.trans hf
      refine vx_catch (name := "java/lang/IllegalStateException") hown [⟨0, 10, 13, 29⟩] ⟨0, 10, 17, 58⟩ [] htab (pass1 (Or.inr ⟨by decide, "java/lang/IndexOutOfBoundsException", hts _ m5_85, hKs.2.2.2.1 ("java/lang/IllegalStateException", "java/lang/IndexOutOfBoundsException") (by decide)⟩) pass0) (by decide) (by decide) (hts _ m5_181) (va_Nw.use rfl (hKs.2.1 _ m5_196)) hc9 hv9 hf9 ?_
      refine lv_astore (i := 4) (lv' := [(4, .ref q9), (0, rv E a_0), (1, .int a_1), (2, .int a_2), (3, rv E a_3)]) hx hb dL_opening_17 hl (by decide) (by simp [List.filter_cons, cat_q, cat_i, cat_j, imax, imin]) (fun ls hl => ?_)
      refine lv_iconst (v := 2) hx hb dL_opening_19 (by decide) ?_
      exact hw_wret hx hb (Nat.le_of_ble_eq_true rfl) (Nat.le_of_ble_eq_true rfl) hret hf hH hlocks dL_opening_20
    replace hf := (if_neg h6).symm.trans hf
    cases hf
  · replace hf := (xh_inl hv3).symm.trans hf
    refine lv_i2l (v := (v3.toInt64)) hx hb dL_opening_8 rfl ?_
    obtain ⟨a7, ha7, hf⟩ := bnd hf
    replace ha7 := cha_some ha7
    obtain ⟨j8, hj8, hf⟩ := bnd hf
    obtain ⟨w9, hw9, hf⟩ := bnd hf
    replace hw9 := Option.some.inj hw9
    refine hw_last (x := (v3.toInt64)) hx hb hKs hH ha7.1 ha7.2 hj8 dL_opening_9 (fun H locs hH => ?_)
    rw [hw9] at hH
    refine lv_goto (tgt := 21) hx hb dL_opening_10 (by decide) ?_
    refine lv_iconst (v := 0) hx hb dL_opening_21 (by decide) ?_
    exact hw_wret hx hb (Nat.le_of_ble_eq_true rfl) (Nat.le_of_ble_eq_true rfl) hret hf hH hlocks dL_opening_22

theorem dL_openDays_0 : decode cL_openDays 0 = .ok (.aload_n 2, 1) := by decide +kernel
theorem dL_openDays_1 : decode cL_openDays 1 = .ok (.iconst 0, 1) := by decide +kernel
theorem dL_openDays_2 : decode cL_openDays 2 = .ok (.aload_n 0, 1) := by decide +kernel
theorem dL_openDays_3 : decode cL_openDays 3 = .ok (.iload_n 1, 1) := by decide +kernel
theorem dL_openDays_4 : decode cL_openDays 4 = .ok (.invokevirtual 63, 3) := by decide +kernel
theorem dL_openDays_7 : decode cL_openDays 7 = .ok (.i2l, 1) := by decide +kernel
theorem dL_openDays_8 : decode cL_openDays 8 = .ok (.lastore, 1) := by decide +kernel
theorem dL_openDays_9 : decode cL_openDays 9 = .ok (.goto 9, 3) := by decide +kernel
theorem dL_openDays_12 : decode cL_openDays 12 = .ok (.astore_n 3, 1) := by decide +kernel
theorem dL_openDays_13 : decode cL_openDays 13 = .ok (.iconst 1, 1) := by decide +kernel
theorem dL_openDays_14 : decode cL_openDays 14 = .ok (.ireturn, 1) := by decide +kernel
theorem dL_openDays_15 : decode cL_openDays 15 = .ok (.astore_n 3, 1) := by decide +kernel
theorem dL_openDays_16 : decode cL_openDays 16 = .ok (.iconst 2, 1) := by decide +kernel
theorem dL_openDays_17 : decode cL_openDays 17 = .ok (.ireturn, 1) := by decide +kernel
theorem dL_openDays_18 : decode cL_openDays 18 = .ok (.iconst 0, 1) := by decide +kernel
theorem dL_openDays_19 : decode cL_openDays 19 = .ok (.ireturn, 1) := by decide +kernel
theorem hs_L_openDays : yL_openDays.cls ≠ "java/lang/invoke/MethodHandle" ∧ yL_openDays.cls ≠ "java/lang/invoke/VarHandle" ∧ (parseMethodDescriptor yL_openDays.desc).map (fun d => d.parameters.length) = some 3 := by decide +kernel
set_option maxHeartbeats 4000000 in
set_option maxRecDepth 100000 in
theorem k_L_openDays (l : Launch) (hls : l.stackTraces = false) (E : Ev) (K : Kd) (z : Nat) (a_0 : Option Nat) (a_1 : Int32) (a_2 : Option Nat) (w : Wd) {r : Int32} {w' : Wd} (hf : f_L_openDays K a_0 a_1 a_2 w = some (r, w')) : Met l yL_openDays (Cond.codeWith yL_openDays cL_openDays 4 (Option.some Jvm.ClassFile.FieldType.int) [(0, 9, 12, 29), (0, 9, 15, 58)] :: bt) ({ frames := 8, cells := 2, slots := 12, locals := 149 } : Room) (va_Pc [rv E a_0, .int a_1, rv E a_2] (HB E K w z)) (QW E K w' r) 2 12 (hA E) := by
  refine MetH_ofW (cc := cL_openDays) (maxL := 4) (ret := (Option.some Jvm.ClassFile.FieldType.int)) (hh := [(0, 9, 12, 29), (0, 9, 15, 58)]) (by decide) rfl ?_
  intro p e s m args below meth c s₁ B hml htab hv
  obtain ⟨rfl, hz, hP, hKs, hT, hb0⟩ := hv
  have C : CX p l e s m _ meth c cL_openDays 4 RL (Option.some Jvm.ClassFile.FieldType.int) E := ⟨B.exec, B.bytes, hml, findClass_of_methodNamed B.named, fun w h => atoms_spec (ws := Cond.codeWith yL_openDays cL_openDays 4 (Option.some Jvm.ClassFile.FieldType.int) [(0, 9, 12, 29), (0, 9, 15, 58)] :: bt) B.pre w (List.mem_cons_of_mem _ h), hKs, hT, by rw [hz]; exact hb0, B.notSynchronized, B.returns⟩
  have hH : HQ E K z w s s.heap [] := ⟨hP, va_S.rf, hz⟩
  obtain ⟨hx, hb, hml, hown, hts, hKs, hT, hb0, hlocks, hret⟩ := id C
  have hl := lv_entry [rv E a_0, .int a_1, rv E a_2] (n := 4) (by simp [lg_len_nil, lg_len_i, lg_len_j, lg_len_q, lg_len_f, lg_len_d, lg_len_r])
  rw [lg_entry_eq]
  generalize (lg_sl [rv E a_0, .int a_1, rv E a_2] ++ List.replicate (4 - (lg_sl [rv E a_0, .int a_1, rv E a_2]).length) Slot.unset).toArray = ls at hl ⊢
  replace hl : lv_has ls 4 [(0, rv E a_0), (1, .int a_1), (2, rv E a_2)] := by simpa only [lv_args, cat_q, cat_i, cat_j, reduceIte, Nat.reduceEqDiff, Nat.reduceAdd, Nat.zero_add] using hl
  generalize s.heap = H at hH ⊢
  unfold f_L_openDays at hf
  refine hl_aload_n hx hb dL_openDays_0 rfl (lv_at hl 2 rfl) ?_
  refine lv_iconst (v := 0) hx hb dL_openDays_1 (by decide) ?_
  refine hl_aload_n hx hb dL_openDays_2 rfl (lv_at hl 0 rfl) ?_
  refine lv_iload_n hx hb dL_openDays_3 rfl (lv_at hl 1 rfl) ?_
  obtain ⟨a1, ha1, hf⟩ := bnd hf
  replace ha1 := chk_some ha1
  obtain ⟨q2, hq2, hf⟩ := bnd hf
  refine hxC_i hx hb hml hown hts hKs hT hb0 hH (As := [.int a_1]) (rest := [.int 0, rv E a_2]) (k_X12_openDays l hls E K H.size a1 a_1 w ha1.2 hq2) (gV m5_224 m5_225 m5_226 m1_1 m5_227) hd_X12_openDays ⟨Nat.le_of_ble_eq_true rfl, Nat.le_of_ble_eq_true rfl, rfl, rfl⟩ ha1.1 ha1.2 rfl rfl rfl hl.1 rfl (rcI (rcV rc0)) rfl dL_openDays_4 ⟨Nat.le_of_ble_eq_true rfl, Nat.le_of_ble_eq_true rfl⟩ (fun c4 hc4 H locs q9 ce9 hH hc9 hv9 hf9 => ?_) (fun v3 hv3 H locs hH => ?_)
  · replace hf := (xh_inr hc4).symm.trans hf
    by_cases h5 : c4 = 1
    · subst h5
      replace hf := (if_pos rfl).symm.trans hf
      refine vx_catch (name := "java/lang/IndexOutOfBoundsException") hown [] ⟨0, 9, 12, 29⟩ [⟨0, 9, 15, 58⟩] htab pass0 (by decide) (by decide) (hts _ m5_85) (va_Nw.use rfl (hKs.2.1 _ m5_96)) hc9 hv9 hf9 ?_
      refine lv_astore_n (i := 3) (lv' := [(3, .ref q9), (0, rv E a_0), (1, .int a_1), (2, rv E a_2)]) hx hb dL_openDays_12 rfl hl (by decide) (by simp [List.filter_cons, cat_q, cat_i, cat_j, imax, imin]) (fun ls hl => ?_)
      refine lv_iconst (v := 1) hx hb dL_openDays_13 (by decide) ?_
      exact hw_wret hx hb (Nat.le_of_ble_eq_true rfl) (Nat.le_of_ble_eq_true rfl) hret hf hH hlocks dL_openDays_14
    replace hf := (if_neg h5).symm.trans hf
    by_cases h6 : c4 = 3
    · subst h6
      replace hf := (if_pos rfl).symm.trans hf
      refine vx_catch (name := "java/lang/IllegalStateException") hown [⟨0, 9, 12, 29⟩] ⟨0, 9, 15, 58⟩ [] htab (pass1 (Or.inr ⟨by decide, "java/lang/IndexOutOfBoundsException", hts _ m5_85, hKs.2.2.2.1 ("java/lang/IllegalStateException", "java/lang/IndexOutOfBoundsException") (by decide)⟩) pass0) (by decide) (by decide) (hts _ m5_181) (va_Nw.use rfl (hKs.2.1 _ m5_196)) hc9 hv9 hf9 ?_
      refine lv_astore_n (i := 3) (lv' := [(3, .ref q9), (0, rv E a_0), (1, .int a_1), (2, rv E a_2)]) hx hb dL_openDays_15 rfl hl (by decide) (by simp [List.filter_cons, cat_q, cat_i, cat_j, imax, imin]) (fun ls hl => ?_)
      refine lv_iconst (v := 2) hx hb dL_openDays_16 (by decide) ?_
      exact hw_wret hx hb (Nat.le_of_ble_eq_true rfl) (Nat.le_of_ble_eq_true rfl) hret hf hH hlocks dL_openDays_17
    replace hf := (if_neg h6).symm.trans hf
    cases hf
  · replace hf := (xh_inl hv3).symm.trans hf
    refine lv_i2l (v := (v3.toInt64)) hx hb dL_openDays_7 rfl ?_
    obtain ⟨a7, ha7, hf⟩ := bnd hf
    replace ha7 := cha_some ha7
    obtain ⟨j8, hj8, hf⟩ := bnd hf
    obtain ⟨w9, hw9, hf⟩ := bnd hf
    replace hw9 := Option.some.inj hw9
    refine hw_last (x := (v3.toInt64)) hx hb hKs hH ha7.1 ha7.2 hj8 dL_openDays_8 (fun H locs hH => ?_)
    rw [hw9] at hH
    refine lv_goto (tgt := 18) hx hb dL_openDays_9 (by decide) ?_
    refine lv_iconst (v := 0) hx hb dL_openDays_18 (by decide) ?_
    exact hw_wret hx hb (Nat.le_of_ble_eq_true rfl) (Nat.le_of_ble_eq_true rfl) hret hf hH hlocks dL_openDays_19

theorem dL_planNext_0 : decode cL_planNext 0 = .ok (.aload_n 2, 1) := by decide +kernel
theorem dL_planNext_1 : decode cL_planNext 1 = .ok (.iconst 0, 1) := by decide +kernel
theorem dL_planNext_2 : decode cL_planNext 2 = .ok (.aload_n 0, 1) := by decide +kernel
theorem dL_planNext_3 : decode cL_planNext 3 = .ok (.iload_n 1, 1) := by decide +kernel
theorem dL_planNext_4 : decode cL_planNext 4 = .ok (.invokevirtual 87, 3) := by decide +kernel
theorem dL_planNext_7 : decode cL_planNext 7 = .ok (.i2l, 1) := by decide +kernel
theorem dL_planNext_8 : decode cL_planNext 8 = .ok (.lastore, 1) := by decide +kernel
theorem dL_planNext_9 : decode cL_planNext 9 = .ok (.goto 12, 3) := by decide +kernel
theorem dL_planNext_12 : decode cL_planNext 12 = .ok (.astore_n 3, 1) := by decide +kernel
theorem dL_planNext_13 : decode cL_planNext 13 = .ok (.iconst 1, 1) := by decide +kernel
theorem dL_planNext_14 : decode cL_planNext 14 = .ok (.ireturn, 1) := by decide +kernel
theorem dL_planNext_15 : decode cL_planNext 15 = .ok (.astore_n 3, 1) := by decide +kernel
theorem dL_planNext_16 : decode cL_planNext 16 = .ok (.iconst 2, 1) := by decide +kernel
theorem dL_planNext_17 : decode cL_planNext 17 = .ok (.ireturn, 1) := by decide +kernel
theorem dL_planNext_18 : decode cL_planNext 18 = .ok (.astore_n 3, 1) := by decide +kernel
theorem dL_planNext_19 : decode cL_planNext 19 = .ok (.iconst 3, 1) := by decide +kernel
theorem dL_planNext_20 : decode cL_planNext 20 = .ok (.ireturn, 1) := by decide +kernel
theorem dL_planNext_21 : decode cL_planNext 21 = .ok (.iconst 0, 1) := by decide +kernel
theorem dL_planNext_22 : decode cL_planNext 22 = .ok (.ireturn, 1) := by decide +kernel
theorem hs_L_planNext : yL_planNext.cls ≠ "java/lang/invoke/MethodHandle" ∧ yL_planNext.cls ≠ "java/lang/invoke/VarHandle" ∧ (parseMethodDescriptor yL_planNext.desc).map (fun d => d.parameters.length) = some 3 := by decide +kernel
set_option maxHeartbeats 4000000 in
set_option maxRecDepth 100000 in
theorem k_L_planNext (l : Launch) (hls : l.stackTraces = false) (E : Ev) (K : Kd) (z : Nat) (a_0 : Option Nat) (a_1 : Int32) (a_2 : Option Nat) (w : Wd) {r : Int32} {w' : Wd} (hf : f_L_planNext K a_0 a_1 a_2 w = some (r, w')) : Met l yL_planNext (Cond.codeWith yL_planNext cL_planNext 4 (Option.some Jvm.ClassFile.FieldType.int) [(0, 9, 12, 29), (0, 9, 15, 58), (0, 9, 18, 69)] :: bt) ({ frames := 8, cells := 2, slots := 12, locals := 149 } : Room) (va_Pc [rv E a_0, .int a_1, rv E a_2] (HB E K w z)) (QW E K w' r) 2 12 (hA E) := by
  refine MetH_ofW (cc := cL_planNext) (maxL := 4) (ret := (Option.some Jvm.ClassFile.FieldType.int)) (hh := [(0, 9, 12, 29), (0, 9, 15, 58), (0, 9, 18, 69)]) (by decide) rfl ?_
  intro p e s m args below meth c s₁ B hml htab hv
  obtain ⟨rfl, hz, hP, hKs, hT, hb0⟩ := hv
  have C : CX p l e s m _ meth c cL_planNext 4 RL (Option.some Jvm.ClassFile.FieldType.int) E := ⟨B.exec, B.bytes, hml, findClass_of_methodNamed B.named, fun w h => atoms_spec (ws := Cond.codeWith yL_planNext cL_planNext 4 (Option.some Jvm.ClassFile.FieldType.int) [(0, 9, 12, 29), (0, 9, 15, 58), (0, 9, 18, 69)] :: bt) B.pre w (List.mem_cons_of_mem _ h), hKs, hT, by rw [hz]; exact hb0, B.notSynchronized, B.returns⟩
  have hH : HQ E K z w s s.heap [] := ⟨hP, va_S.rf, hz⟩
  obtain ⟨hx, hb, hml, hown, hts, hKs, hT, hb0, hlocks, hret⟩ := id C
  have hl := lv_entry [rv E a_0, .int a_1, rv E a_2] (n := 4) (by simp [lg_len_nil, lg_len_i, lg_len_j, lg_len_q, lg_len_f, lg_len_d, lg_len_r])
  rw [lg_entry_eq]
  generalize (lg_sl [rv E a_0, .int a_1, rv E a_2] ++ List.replicate (4 - (lg_sl [rv E a_0, .int a_1, rv E a_2]).length) Slot.unset).toArray = ls at hl ⊢
  replace hl : lv_has ls 4 [(0, rv E a_0), (1, .int a_1), (2, rv E a_2)] := by simpa only [lv_args, cat_q, cat_i, cat_j, reduceIte, Nat.reduceEqDiff, Nat.reduceAdd, Nat.zero_add] using hl
  generalize s.heap = H at hH ⊢
  unfold f_L_planNext at hf
  refine hl_aload_n hx hb dL_planNext_0 rfl (lv_at hl 2 rfl) ?_
  refine lv_iconst (v := 0) hx hb dL_planNext_1 (by decide) ?_
  refine hl_aload_n hx hb dL_planNext_2 rfl (lv_at hl 0 rfl) ?_
  refine lv_iload_n hx hb dL_planNext_3 rfl (lv_at hl 1 rfl) ?_
  obtain ⟨a1, ha1, hf⟩ := bnd hf
  replace ha1 := chk_some ha1
  obtain ⟨q2, hq2, hf⟩ := bnd hf
  refine hxC_i hx hb hml hown hts hKs hT hb0 hH (As := [.int a_1]) (rest := [.int 0, rv E a_2]) (k_X12_planNext l hls E K H.size a1 a_1 w ha1.2 hq2) (gV m6_68 m6_69 m6_70 m1_1 m6_71) hd_X12_planNext ⟨Nat.le_of_ble_eq_true rfl, Nat.le_of_ble_eq_true rfl, rfl, rfl⟩ ha1.1 ha1.2 rfl rfl rfl hl.1 rfl (rcI (rcV rc0)) rfl dL_planNext_4 ⟨Nat.le_of_ble_eq_true rfl, Nat.le_of_ble_eq_true rfl⟩ (fun c4 hc4 H locs q9 ce9 hH hc9 hv9 hf9 => ?_) (fun v3 hv3 H locs hH => ?_)
  · replace hf := (xh_inr hc4).symm.trans hf
    by_cases h5 : c4 = 1
    · subst h5
      replace hf := (if_pos rfl).symm.trans hf
      refine vx_catch (name := "java/lang/IndexOutOfBoundsException") hown [] ⟨0, 9, 12, 29⟩ [⟨0, 9, 15, 58⟩, ⟨0, 9, 18, 69⟩] htab pass0 (by decide) (by decide) (hts _ m5_85) (va_Nw.use rfl (hKs.2.1 _ m5_96)) hc9 hv9 hf9 ?_
      refine lv_astore_n (i := 3) (lv' := [(3, .ref q9), (0, rv E a_0), (1, .int a_1), (2, rv E a_2)]) hx hb dL_planNext_12 rfl hl (by decide) (by simp [List.filter_cons, cat_q, cat_i, cat_j, imax, imin]) (fun ls hl => ?_)
      refine lv_iconst (v := 1) hx hb dL_planNext_13 (by decide) ?_
      exact hw_wret hx hb (Nat.le_of_ble_eq_true rfl) (Nat.le_of_ble_eq_true rfl) hret hf hH hlocks dL_planNext_14
    replace hf := (if_neg h5).symm.trans hf
    by_cases h6 : c4 = 3
    · subst h6
      replace hf := (if_pos rfl).symm.trans hf
      refine vx_catch (name := "java/lang/IllegalStateException") hown [⟨0, 9, 12, 29⟩] ⟨0, 9, 15, 58⟩ [⟨0, 9, 18, 69⟩] htab (pass1 (Or.inr ⟨by decide, "java/lang/IndexOutOfBoundsException", hts _ m5_85, hKs.2.2.2.1 ("java/lang/IllegalStateException", "java/lang/IndexOutOfBoundsException") (by decide)⟩) pass0) (by decide) (by decide) (hts _ m5_181) (va_Nw.use rfl (hKs.2.1 _ m5_196)) hc9 hv9 hf9 ?_
      refine lv_astore_n (i := 3) (lv' := [(3, .ref q9), (0, rv E a_0), (1, .int a_1), (2, rv E a_2)]) hx hb dL_planNext_15 rfl hl (by decide) (by simp [List.filter_cons, cat_q, cat_i, cat_j, imax, imin]) (fun ls hl => ?_)
      refine lv_iconst (v := 2) hx hb dL_planNext_16 (by decide) ?_
      exact hw_wret hx hb (Nat.le_of_ble_eq_true rfl) (Nat.le_of_ble_eq_true rfl) hret hf hH hlocks dL_planNext_17
    replace hf := (if_neg h6).symm.trans hf
    by_cases h7 : c4 = 4
    · subst h7
      replace hf := (if_pos rfl).symm.trans hf
      refine vx_catch (name := "java/util/NoSuchElementException") hown [⟨0, 9, 12, 29⟩, ⟨0, 9, 15, 58⟩] ⟨0, 9, 18, 69⟩ [] htab (pass1 (Or.inr ⟨by decide, "java/lang/IndexOutOfBoundsException", hts _ m5_85, hKs.2.2.2.1 ("java/util/NoSuchElementException", "java/lang/IndexOutOfBoundsException") (by decide)⟩) (pass1 (Or.inr ⟨by decide, "java/lang/IllegalStateException", hts _ m5_181, hKs.2.2.2.1 ("java/util/NoSuchElementException", "java/lang/IllegalStateException") (by decide)⟩) pass0)) (by decide) (by decide) (hts _ m5_235) (va_Nw.use rfl (hKs.2.1 _ m6_3)) hc9 hv9 hf9 ?_
      refine lv_astore_n (i := 3) (lv' := [(3, .ref q9), (0, rv E a_0), (1, .int a_1), (2, rv E a_2)]) hx hb dL_planNext_18 rfl hl (by decide) (by simp [List.filter_cons, cat_q, cat_i, cat_j, imax, imin]) (fun ls hl => ?_)
      refine lv_iconst (v := 3) hx hb dL_planNext_19 (by decide) ?_
      exact hw_wret hx hb (Nat.le_of_ble_eq_true rfl) (Nat.le_of_ble_eq_true rfl) hret hf hH hlocks dL_planNext_20
    replace hf := (if_neg h7).symm.trans hf
    cases hf
  · replace hf := (xh_inl hv3).symm.trans hf
    refine lv_i2l (v := (v3.toInt64)) hx hb dL_planNext_7 rfl ?_
    obtain ⟨a8, ha8, hf⟩ := bnd hf
    replace ha8 := cha_some ha8
    obtain ⟨j9, hj9, hf⟩ := bnd hf
    obtain ⟨w10, hw10, hf⟩ := bnd hf
    replace hw10 := Option.some.inj hw10
    refine hw_last (x := (v3.toInt64)) hx hb hKs hH ha8.1 ha8.2 hj9 dL_planNext_8 (fun H locs hH => ?_)
    rw [hw10] at hH
    refine lv_goto (tgt := 21) hx hb dL_planNext_9 (by decide) ?_
    refine lv_iconst (v := 0) hx hb dL_planNext_21 (by decide) ?_
    exact hw_wret hx hb (Nat.le_of_ble_eq_true rfl) (Nat.le_of_ble_eq_true rfl) hret hf hH hlocks dL_planNext_22

theorem dX12_plannable_0 : decode cX12_plannable 0 = .ok (.aload_n 0, 1) := by decide +kernel
theorem dX12_plannable_1 : decode cX12_plannable 1 = .ok (.iconst 0, 1) := by decide +kernel
theorem dX12_plannable_2 : decode cX12_plannable 2 = .ok (.invokevirtual 366, 3) := by decide +kernel
theorem dX12_plannable_5 : decode cX12_plannable 5 = .ok (.ireturn, 1) := by decide +kernel
theorem hd_X12_plannable : yX12_plannable.cls = RX12 ∧ yX12_plannable.cls ≠ "java/lang/invoke/MethodHandle" ∧ yX12_plannable.cls ≠ "java/lang/invoke/VarHandle" ∧ (parseMethodDescriptor yX12_plannable.desc).map (fun d => d.parameters.length) = some 0 := by decide +kernel
theorem hs_X12_plannable : yX12_plannable.cls ≠ "java/lang/invoke/MethodHandle" ∧ yX12_plannable.cls ≠ "java/lang/invoke/VarHandle" ∧ (parseMethodDescriptor yX12_plannable.desc).map (fun d => d.parameters.length) = some 0 := by decide +kernel
set_option maxHeartbeats 4000000 in
set_option maxRecDepth 100000 in
theorem k_X12_plannable (l : Launch) (E : Ev) (K : Kd) (z : Nat) (o : Nat) (w : Wd) (ho : K o = some (10, 0)) {r : Int32} {w' : Wd} (hf : f_X12_plannable K o w = some (r, w')) : Met l yX12_plannable (Cond.code yX12_plannable cX12_plannable 1 (Option.some Jvm.ClassFile.FieldType.int) :: bt) ({ frames := 7, cells := 0, slots := 0, locals := 174 } : Room) (va_Pc [rv E (some o)] (HB E K w z)) (QI E K z w' r) 0 0 (hA E) := by
  refine Met.ofW (cc := cX12_plannable) (maxL := 1) (ret := (Option.some Jvm.ClassFile.FieldType.int)) (by decide) rfl ?_
  intro p e s m args below meth c s₁ B hml hv
  obtain ⟨rfl, hz, hP, hKs, hT, hb0⟩ := hv
  have C : CX p l e s m _ meth c cX12_plannable 1 RX12 (Option.some Jvm.ClassFile.FieldType.int) E := ⟨B.exec, B.bytes, hml, findClass_of_methodNamed B.named, fun w h => atoms_spec (ws := Cond.code yX12_plannable cX12_plannable 1 (Option.some Jvm.ClassFile.FieldType.int) :: bt) B.pre w (List.mem_cons_of_mem _ h), hKs, hT, by rw [hz]; exact hb0, B.notSynchronized, B.returns⟩
  have hH : HQ E K z w s s.heap [] := ⟨hP, va_S.rf, hz⟩
  obtain ⟨hx, hb, hml, hown, hts, hKs, hT, hb0, hlocks, hret⟩ := id C
  have hl := lv_entry [rv E (some o)] (n := 1) (by simp [lg_len_nil, lg_len_i, lg_len_j, lg_len_q, lg_len_f, lg_len_d, lg_len_r])
  rw [lg_entry_eq]
  generalize (lg_sl [rv E (some o)] ++ List.replicate (1 - (lg_sl [rv E (some o)]).length) Slot.unset).toArray = ls at hl ⊢
  replace hl : lv_has ls 1 [(0, rv E (some o))] := by simpa only [lv_args, cat_q, cat_i, cat_j, reduceIte, Nat.reduceEqDiff, Nat.reduceAdd, Nat.zero_add] using hl
  generalize s.heap = H at hH ⊢
  unfold f_X12_plannable at hf
  refine hl_aload_n hx hb dX12_plannable_0 rfl (lv_at hl 0 rfl) ?_
  refine lv_iconst (v := 0) hx hb dX12_plannable_1 (by decide) ?_
  obtain ⟨q1, hq1, hf⟩ := bnd hf
  refine hcV_i hx hb hml hown hts hKs hT hb0 hH (As := [.int 0]) (rest := []) (k_X12_forecastPlanned l E K H.size o 0 w ho hq1) (gV m4_193 m4_195 ms_30 m1_1 m4_196) hd_X12_forecastPlanned ⟨Nat.le_of_ble_eq_true rfl, Nat.le_of_ble_eq_true rfl, rfl, rfl⟩ rfl ho rfl rfl rfl hl.1 rfl rc0 rfl dX12_plannable_2 ⟨Nat.zero_le _, Nat.zero_le _⟩ (fun H locs hH => ?_)
  exact hw_iret hx hb hret hf hH hlocks dX12_plannable_5
end
