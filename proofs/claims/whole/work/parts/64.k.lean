section
variable {p : Program} {l : Launch} {e : Env} {s : State} {m : MethodId} {args : Array Value} {below : List Frame} {meth : Method} {c : Code} {E : Ev} {K : Kd} {z : Nat}

theorem dX13_takesAway_0 : decode cX13_takesAway 0 = .ok (.aload_n 0, 1) := by decide +kernel
theorem dX13_takesAway_1 : decode cX13_takesAway 1 = .ok (.iload_n 1, 1) := by decide +kernel
theorem dX13_takesAway_2 : decode cX13_takesAway 2 = .ok (.iconst 0, 1) := by decide +kernel
theorem dX13_takesAway_3 : decode cX13_takesAway 3 = .ok (.iconst 0, 1) := by decide +kernel
theorem dX13_takesAway_4 : decode cX13_takesAway 4 = .ok (.invokevirtual 258, 3) := by decide +kernel
theorem dX13_takesAway_7 : decode cX13_takesAway 7 = .ok (.aload_n 0, 1) := by decide +kernel
theorem dX13_takesAway_8 : decode cX13_takesAway 8 = .ok (.iload_n 1, 1) := by decide +kernel
theorem dX13_takesAway_9 : decode cX13_takesAway 9 = .ok (.iconst 2, 1) := by decide +kernel
theorem dX13_takesAway_10 : decode cX13_takesAway 10 = .ok (.invokevirtual 141, 3) := by decide +kernel
theorem dX13_takesAway_13 : decode cX13_takesAway 13 = .ok (.istore_n 3, 1) := by decide +kernel
theorem dX13_takesAway_14 : decode cX13_takesAway 14 = .ok (.iload_n 3, 1) := by decide +kernel
theorem dX13_takesAway_15 : decode cX13_takesAway 15 = .ok (.iconst 5, 1) := by decide +kernel
theorem dX13_takesAway_16 : decode cX13_takesAway 16 = .ok (.if_icmp .ne 4, 3) := by decide +kernel
theorem dX13_takesAway_19 : decode cX13_takesAway 19 = .ok (.return_, 1) := by decide +kernel
theorem dX13_takesAway_20 : decode cX13_takesAway 20 = .ok (.aload_n 0, 1) := by decide +kernel
theorem dX13_takesAway_21 : decode cX13_takesAway 21 = .ok (.iload_n 1, 1) := by decide +kernel
theorem dX13_takesAway_22 : decode cX13_takesAway 22 = .ok (.iconst 1, 1) := by decide +kernel
theorem dX13_takesAway_23 : decode cX13_takesAway 23 = .ok (.invokevirtual 141, 3) := by decide +kernel
theorem dX13_takesAway_26 : decode cX13_takesAway 26 = .ok (.istore 4, 2) := by decide +kernel
theorem dX13_takesAway_28 : decode cX13_takesAway 28 = .ok (.iload 4, 2) := by decide +kernel
theorem dX13_takesAway_30 : decode cX13_takesAway 30 = .ok (.aload_n 0, 1) := by decide +kernel
theorem dX13_takesAway_31 : decode cX13_takesAway 31 = .ok (.getfield 7, 3) := by decide +kernel
theorem dX13_takesAway_34 : decode cX13_takesAway 34 = .ok (.sipush 160, 3) := by decide +kernel
theorem dX13_takesAway_37 : decode cX13_takesAway 37 = .ok (.iload_n 2, 1) := by decide +kernel
theorem dX13_takesAway_38 : decode cX13_takesAway 38 = .ok (.iadd, 1) := by decide +kernel
theorem dX13_takesAway_39 : decode cX13_takesAway 39 = .ok (.iaload, 1) := by decide +kernel
theorem dX13_takesAway_40 : decode cX13_takesAway 40 = .ok (.iadd, 1) := by decide +kernel
theorem dX13_takesAway_41 : decode cX13_takesAway 41 = .ok (.istore 5, 2) := by decide +kernel
theorem dX13_takesAway_43 : decode cX13_takesAway 43 = .ok (.aload_n 0, 1) := by decide +kernel
theorem dX13_takesAway_44 : decode cX13_takesAway 44 = .ok (.getfield 7, 3) := by decide +kernel
theorem dX13_takesAway_47 : decode cX13_takesAway 47 = .ok (.bipush 124, 2) := by decide +kernel
theorem dX13_takesAway_49 : decode cX13_takesAway 49 = .ok (.iload_n 1, 1) := by decide +kernel
theorem dX13_takesAway_50 : decode cX13_takesAway 50 = .ok (.iadd, 1) := by decide +kernel
theorem dX13_takesAway_51 : decode cX13_takesAway 51 = .ok (.iaload, 1) := by decide +kernel
theorem dX13_takesAway_52 : decode cX13_takesAway 52 = .ok (.iconst 1, 1) := by decide +kernel
theorem dX13_takesAway_53 : decode cX13_takesAway 53 = .ok (.if_icmp .ne 26, 3) := by decide +kernel
theorem dX13_takesAway_56 : decode cX13_takesAway 56 = .ok (.iload 5, 2) := by decide +kernel
theorem dX13_takesAway_58 : decode cX13_takesAway 58 = .ok (.aload_n 0, 1) := by decide +kernel
theorem dX13_takesAway_59 : decode cX13_takesAway 59 = .ok (.getfield 7, 3) := by decide +kernel
theorem dX13_takesAway_62 : decode cX13_takesAway 62 = .ok (.sipush 164, 3) := by decide +kernel
theorem dX13_takesAway_65 : decode cX13_takesAway 65 = .ok (.iaload, 1) := by decide +kernel
theorem dX13_takesAway_66 : decode cX13_takesAway 66 = .ok (.if_icmp .le 13, 3) := by decide +kernel
theorem dX13_takesAway_69 : decode cX13_takesAway 69 = .ok (.aload_n 0, 1) := by decide +kernel
theorem dX13_takesAway_70 : decode cX13_takesAway 70 = .ok (.getfield 7, 3) := by decide +kernel
theorem dX13_takesAway_73 : decode cX13_takesAway 73 = .ok (.sipush 164, 3) := by decide +kernel
theorem dX13_takesAway_76 : decode cX13_takesAway 76 = .ok (.iaload, 1) := by decide +kernel
theorem dX13_takesAway_77 : decode cX13_takesAway 77 = .ok (.istore 5, 2) := by decide +kernel
theorem dX13_takesAway_79 : decode cX13_takesAway 79 = .ok (.aload_n 0, 1) := by decide +kernel
theorem dX13_takesAway_80 : decode cX13_takesAway 80 = .ok (.iload_n 1, 1) := by decide +kernel
theorem dX13_takesAway_81 : decode cX13_takesAway 81 = .ok (.iconst 1, 1) := by decide +kernel
theorem dX13_takesAway_82 : decode cX13_takesAway 82 = .ok (.iload 5, 2) := by decide +kernel
theorem dX13_takesAway_84 : decode cX13_takesAway 84 = .ok (.invokevirtual 258, 3) := by decide +kernel
theorem dX13_takesAway_87 : decode cX13_takesAway 87 = .ok (.aload_n 0, 1) := by decide +kernel
theorem dX13_takesAway_88 : decode cX13_takesAway 88 = .ok (.iload_n 1, 1) := by decide +kernel
theorem dX13_takesAway_89 : decode cX13_takesAway 89 = .ok (.iconst 2, 1) := by decide +kernel
theorem dX13_takesAway_90 : decode cX13_takesAway 90 = .ok (.iload_n 3, 1) := by decide +kernel
theorem dX13_takesAway_91 : decode cX13_takesAway 91 = .ok (.iconst 1, 1) := by decide +kernel
theorem dX13_takesAway_92 : decode cX13_takesAway 92 = .ok (.iadd, 1) := by decide +kernel
theorem dX13_takesAway_93 : decode cX13_takesAway 93 = .ok (.invokevirtual 258, 3) := by decide +kernel
theorem dX13_takesAway_96 : decode cX13_takesAway 96 = .ok (.aload_n 0, 1) := by decide +kernel
theorem dX13_takesAway_97 : decode cX13_takesAway 97 = .ok (.iload_n 1, 1) := by decide +kernel
theorem dX13_takesAway_98 : decode cX13_takesAway 98 = .ok (.bipush 7, 2) := by decide +kernel
theorem dX13_takesAway_100 : decode cX13_takesAway 100 = .ok (.iconst 4, 1) := by decide +kernel
theorem dX13_takesAway_101 : decode cX13_takesAway 101 = .ok (.iload_n 3, 1) := by decide +kernel
theorem dX13_takesAway_102 : decode cX13_takesAway 102 = .ok (.imul, 1) := by decide +kernel
theorem dX13_takesAway_103 : decode cX13_takesAway 103 = .ok (.iadd, 1) := by decide +kernel
theorem dX13_takesAway_104 : decode cX13_takesAway 104 = .ok (.aload_n 0, 1) := by decide +kernel
theorem dX13_takesAway_105 : decode cX13_takesAway 105 = .ok (.getfield 16, 3) := by decide +kernel
theorem dX13_takesAway_108 : decode cX13_takesAway 108 = .ok (.iconst 0, 1) := by decide +kernel
theorem dX13_takesAway_109 : decode cX13_takesAway 109 = .ok (.iaload, 1) := by decide +kernel
theorem dX13_takesAway_110 : decode cX13_takesAway 110 = .ok (.invokevirtual 258, 3) := by decide +kernel
theorem dX13_takesAway_113 : decode cX13_takesAway 113 = .ok (.aload_n 0, 1) := by decide +kernel
theorem dX13_takesAway_114 : decode cX13_takesAway 114 = .ok (.iload_n 1, 1) := by decide +kernel
theorem dX13_takesAway_115 : decode cX13_takesAway 115 = .ok (.bipush 7, 2) := by decide +kernel
theorem dX13_takesAway_117 : decode cX13_takesAway 117 = .ok (.iconst 4, 1) := by decide +kernel
theorem dX13_takesAway_118 : decode cX13_takesAway 118 = .ok (.iload_n 3, 1) := by decide +kernel
theorem dX13_takesAway_119 : decode cX13_takesAway 119 = .ok (.imul, 1) := by decide +kernel
theorem dX13_takesAway_120 : decode cX13_takesAway 120 = .ok (.iadd, 1) := by decide +kernel
theorem dX13_takesAway_121 : decode cX13_takesAway 121 = .ok (.iconst 1, 1) := by decide +kernel
theorem dX13_takesAway_122 : decode cX13_takesAway 122 = .ok (.iadd, 1) := by decide +kernel
theorem dX13_takesAway_123 : decode cX13_takesAway 123 = .ok (.iload_n 2, 1) := by decide +kernel
theorem dX13_takesAway_124 : decode cX13_takesAway 124 = .ok (.invokevirtual 258, 3) := by decide +kernel
theorem dX13_takesAway_127 : decode cX13_takesAway 127 = .ok (.aload_n 0, 1) := by decide +kernel
theorem dX13_takesAway_128 : decode cX13_takesAway 128 = .ok (.iload_n 1, 1) := by decide +kernel
theorem dX13_takesAway_129 : decode cX13_takesAway 129 = .ok (.bipush 7, 2) := by decide +kernel
theorem dX13_takesAway_131 : decode cX13_takesAway 131 = .ok (.iconst 4, 1) := by decide +kernel
theorem dX13_takesAway_132 : decode cX13_takesAway 132 = .ok (.iload_n 3, 1) := by decide +kernel
theorem dX13_takesAway_133 : decode cX13_takesAway 133 = .ok (.imul, 1) := by decide +kernel
theorem dX13_takesAway_134 : decode cX13_takesAway 134 = .ok (.iadd, 1) := by decide +kernel
theorem dX13_takesAway_135 : decode cX13_takesAway 135 = .ok (.iconst 2, 1) := by decide +kernel
theorem dX13_takesAway_136 : decode cX13_takesAway 136 = .ok (.iadd, 1) := by decide +kernel
theorem dX13_takesAway_137 : decode cX13_takesAway 137 = .ok (.aload_n 0, 1) := by decide +kernel
theorem dX13_takesAway_138 : decode cX13_takesAway 138 = .ok (.iload_n 1, 1) := by decide +kernel
theorem dX13_takesAway_139 : decode cX13_takesAway 139 = .ok (.iconst 3, 1) := by decide +kernel
theorem dX13_takesAway_140 : decode cX13_takesAway 140 = .ok (.invokevirtual 141, 3) := by decide +kernel
theorem dX13_takesAway_143 : decode cX13_takesAway 143 = .ok (.invokevirtual 258, 3) := by decide +kernel
theorem dX13_takesAway_146 : decode cX13_takesAway 146 = .ok (.aload_n 0, 1) := by decide +kernel
theorem dX13_takesAway_147 : decode cX13_takesAway 147 = .ok (.iload_n 1, 1) := by decide +kernel
theorem dX13_takesAway_148 : decode cX13_takesAway 148 = .ok (.bipush 7, 2) := by decide +kernel
theorem dX13_takesAway_150 : decode cX13_takesAway 150 = .ok (.iconst 4, 1) := by decide +kernel
theorem dX13_takesAway_151 : decode cX13_takesAway 151 = .ok (.iload_n 3, 1) := by decide +kernel
theorem dX13_takesAway_152 : decode cX13_takesAway 152 = .ok (.imul, 1) := by decide +kernel
theorem dX13_takesAway_153 : decode cX13_takesAway 153 = .ok (.iadd, 1) := by decide +kernel
theorem dX13_takesAway_154 : decode cX13_takesAway 154 = .ok (.iconst 3, 1) := by decide +kernel
theorem dX13_takesAway_155 : decode cX13_takesAway 155 = .ok (.iadd, 1) := by decide +kernel
theorem dX13_takesAway_156 : decode cX13_takesAway 156 = .ok (.iload 5, 2) := by decide +kernel
theorem dX13_takesAway_158 : decode cX13_takesAway 158 = .ok (.iload 4, 2) := by decide +kernel
theorem dX13_takesAway_160 : decode cX13_takesAway 160 = .ok (.isub, 1) := by decide +kernel
theorem dX13_takesAway_161 : decode cX13_takesAway 161 = .ok (.invokevirtual 258, 3) := by decide +kernel
theorem dX13_takesAway_164 : decode cX13_takesAway 164 = .ok (.return_, 1) := by decide +kernel
theorem hd_X13_takesAway : yX13_takesAway.cls = RX13 ∧ yX13_takesAway.cls ≠ "java/lang/invoke/MethodHandle" ∧ yX13_takesAway.cls ≠ "java/lang/invoke/VarHandle" ∧ (parseMethodDescriptor yX13_takesAway.desc).map (fun d => d.parameters.length) = some 2 := by decide +kernel
theorem hs_X13_takesAway : yX13_takesAway.cls ≠ "java/lang/invoke/MethodHandle" ∧ yX13_takesAway.cls ≠ "java/lang/invoke/VarHandle" ∧ (parseMethodDescriptor yX13_takesAway.desc).map (fun d => d.parameters.length) = some 2 := by decide +kernel
set_option maxHeartbeats 4000000 in
set_option maxRecDepth 100000 in
theorem k_X13_takesAway (l : Launch) (E : Ev) (K : Kd) (z : Nat) (o : Nat) (a_1 : Int32) (a_2 : Int32) (w : Wd) (ho : K o = some (11, 0)) {w' : Wd} (hf : f_X13_takesAway K o a_1 a_2 w = some w') : Met l yX13_takesAway (Cond.code yX13_takesAway cX13_takesAway 6 (Option.none : Option Jvm.ClassFile.FieldType) :: bt) ({ frames := 2, cells := 0, slots := 0, locals := 45 } : Room) (va_Pc [rv E (some o), .int a_1, .int a_2] (HB E K w z)) (QV E K z w') 0 0 (hA E) := by
  refine Met.ofW (cc := cX13_takesAway) (maxL := 6) (ret := (Option.none : Option Jvm.ClassFile.FieldType)) (by decide) rfl ?_
  intro p e s m args below meth c s₁ B hml hv
  obtain ⟨rfl, hz, hP, hKs, hT, hb0⟩ := hv
  have C : CX p l e s m _ meth c cX13_takesAway 6 RX13 (Option.none : Option Jvm.ClassFile.FieldType) E := ⟨B.exec, B.bytes, hml, findClass_of_methodNamed B.named, fun w h => atoms_spec (ws := Cond.code yX13_takesAway cX13_takesAway 6 (Option.none : Option Jvm.ClassFile.FieldType) :: bt) B.pre w (List.mem_cons_of_mem _ h), hKs, hT, by rw [hz]; exact hb0, B.notSynchronized, B.returns⟩
  have hH : HQ E K z w s s.heap [] := ⟨hP, va_S.rf, hz⟩
  obtain ⟨hx, hb, hml, hown, hts, hKs, hT, hb0, hlocks, hret⟩ := id C
  have hl := lv_entry [rv E (some o), .int a_1, .int a_2] (n := 6) (by simp [lg_len_nil, lg_len_i, lg_len_j, lg_len_q, lg_len_f, lg_len_d, lg_len_r])
  rw [lg_entry_eq]
  generalize (lg_sl [rv E (some o), .int a_1, .int a_2] ++ List.replicate (6 - (lg_sl [rv E (some o), .int a_1, .int a_2]).length) Slot.unset).toArray = ls at hl ⊢
  replace hl : lv_has ls 6 [(0, rv E (some o)), (1, .int a_1), (2, .int a_2)] := by simpa only [lv_args, cat_q, cat_i, cat_j, reduceIte, Nat.reduceEqDiff, Nat.reduceAdd, Nat.zero_add] using hl
  generalize s.heap = H at hH ⊢
  unfold f_X13_takesAway at hf
  refine hl_aload_n hx hb dX13_takesAway_0 rfl (lv_at hl 0 rfl) ?_
  refine lv_iload_n hx hb dX13_takesAway_1 rfl (lv_at hl 1 rfl) ?_
  refine lv_iconst (v := 0) hx hb dX13_takesAway_2 (by decide) ?_
  refine lv_iconst (v := 0) hx hb dX13_takesAway_3 (by decide) ?_
  obtain ⟨q1, hq1, hf⟩ := bnd hf
  refine hcV_v hx hb hml hown hts hKs hT hb0 hH (As := [.int a_1, .int 0, .int 0]) (rest := []) (k_X13_lays l E K H.size o a_1 0 0 w ho hq1) (gV m8_46 m8_48 ms_82 m1_16 m8_49) hd_X13_lays ⟨Nat.le_of_ble_eq_true rfl, Nat.le_of_ble_eq_true rfl, rfl, rfl⟩ rfl ho rfl rfl rfl hl.1 rfl rc0 rfl dX13_takesAway_4 ⟨Nat.zero_le _, Nat.zero_le _⟩ (fun H locs hH => ?_)
  refine hl_aload_n hx hb dX13_takesAway_7 rfl (lv_at hl 0 rfl) ?_
  refine lv_iload_n hx hb dX13_takesAway_8 rfl (lv_at hl 1 rfl) ?_
  refine lv_iconst (v := 2) hx hb dX13_takesAway_9 (by decide) ?_
  obtain ⟨q2, hq2, hf⟩ := bnd hf
  refine hcV_i hx hb hml hown hts hKs hT hb0 hH (As := [.int a_1, .int 2]) (rest := []) (k_X13_of l E K H.size o a_1 2 q1 ho hq2) (gV m7_126 m7_128 ms_54 m1_16 m7_129) hd_X13_of ⟨Nat.le_of_ble_eq_true rfl, Nat.le_of_ble_eq_true rfl, rfl, rfl⟩ rfl ho rfl rfl rfl hl.1 rfl rc0 rfl dX13_takesAway_10 ⟨Nat.zero_le _, Nat.zero_le _⟩ (fun H locs hH => ?_)
  refine lv_istore_n (i := 3) (lv' := [(3, .int (q2.1)), (0, rv E (some o)), (1, .int a_1), (2, .int a_2)]) hx hb dX13_takesAway_13 rfl hl (by decide) rfl (fun ls hl => ?_)
  refine lv_iload_n hx hb dX13_takesAway_14 rfl (lv_at hl 0 rfl) ?_
  refine lv_iconst (v := 5) hx hb dX13_takesAway_15 (by decide) ?_
  refine lv_icmp_ne (tgt := 20) hx hb dX13_takesAway_16 (by decide) (fun c3 => ?_) (fun c3 => ?_)
  · replace hf := (if_neg c3).symm.trans hf
    refine hl_aload_n hx hb dX13_takesAway_20 rfl (lv_at hl 1 rfl) ?_
    refine lv_iload_n hx hb dX13_takesAway_21 rfl (lv_at hl 2 rfl) ?_
    refine lv_iconst (v := 1) hx hb dX13_takesAway_22 (by decide) ?_
    obtain ⟨q4, hq4, hf⟩ := bnd hf
    refine hcV_i hx hb hml hown hts hKs hT hb0 hH (As := [.int a_1, .int 1]) (rest := []) (k_X13_of l E K H.size o a_1 1 q2.2 ho hq4) (gV m7_126 m7_128 ms_54 m1_16 m7_129) hd_X13_of ⟨Nat.le_of_ble_eq_true rfl, Nat.le_of_ble_eq_true rfl, rfl, rfl⟩ rfl ho rfl rfl rfl hl.1 rfl rc0 rfl dX13_takesAway_23 ⟨Nat.zero_le _, Nat.zero_le _⟩ (fun H locs hH => ?_)
    refine lv_istore (i := 4) (lv' := [(4, .int (q4.1)), (3, .int (q2.1)), (0, rv E (some o)), (1, .int a_1), (2, .int a_2)]) hx hb dX13_takesAway_26 hl (by decide) rfl (fun ls hl => ?_)
    refine lv_iload hx hb dX13_takesAway_28 (lv_at hl 0 rfl) ?_
    refine hl_aload_n hx hb dX13_takesAway_30 rfl (lv_at hl 2 rfl) ?_
    refine g13_1 hx hb hts hown hKs hH rfl ho m6_182 dX13_takesAway_31 ?_
    refine lv_sipush (v := 160) hx hb dX13_takesAway_34 (by decide) ?_
    refine lv_iload_n hx hb dX13_takesAway_37 rfl (lv_at hl 4 rfl) ?_
    refine lv_iadd hx hb dX13_takesAway_38 ?_
    obtain ⟨a5, ha5, hf⟩ := bnd hf
    replace ha5 := cha_some ha5
    obtain ⟨j6, hj6, hf⟩ := bnd hf
    refine hw_iald hx hb hKs hH ha5.1 ha5.2 hj6 dX13_takesAway_39 ?_
    refine lv_iadd hx hb dX13_takesAway_40 ?_
    refine lv_istore (i := 5) (lv' := [(5, .int ((q4.1 + (aI q4.2 a5.1 j6)))), (4, .int (q4.1)), (3, .int (q2.1)), (0, rv E (some o)), (1, .int a_1), (2, .int a_2)]) hx hb dX13_takesAway_41 hl (by decide) rfl (fun ls hl => ?_)
    refine hl_aload_n hx hb dX13_takesAway_43 rfl (lv_at hl 3 rfl) ?_
    refine g13_1 hx hb hts hown hKs hH rfl ho m6_182 dX13_takesAway_44 ?_
    refine lv_bipush (v := 124) hx hb dX13_takesAway_47 (by decide) ?_
    refine lv_iload_n hx hb dX13_takesAway_49 rfl (lv_at hl 4 rfl) ?_
    refine lv_iadd hx hb dX13_takesAway_50 ?_
    obtain ⟨j7, hj7, hf⟩ := bnd hf
    refine hw_iald hx hb hKs hH ha5.1 ha5.2 hj7 dX13_takesAway_51 ?_
    refine lv_iconst (v := 1) hx hb dX13_takesAway_52 (by decide) ?_
    refine lv_icmp_ne (tgt := 79) hx hb dX13_takesAway_53 (by decide) (fun c8 => ?_) (fun c8 => ?_)
    · replace hf := (if_neg c8).symm.trans hf
      refine hl_aload_n hx hb dX13_takesAway_79 rfl (lv_at hl 3 rfl) ?_
      refine lv_iload_n hx hb dX13_takesAway_80 rfl (lv_at hl 4 rfl) ?_
      refine lv_iconst (v := 1) hx hb dX13_takesAway_81 (by decide) ?_
      refine lv_iload hx hb dX13_takesAway_82 (lv_at hl 0 rfl) ?_
      obtain ⟨q9, hq9, hf⟩ := bnd hf
      refine hcV_v hx hb hml hown hts hKs hT hb0 hH (As := [.int a_1, .int 1, .int ((q4.1 + (aI q4.2 a5.1 j6)))]) (rest := []) (k_X13_lays l E K H.size o a_1 1 (q4.1 + (aI q4.2 a5.1 j6)) q4.2 ho hq9) (gV m8_46 m8_48 ms_82 m1_16 m8_49) hd_X13_lays ⟨Nat.le_of_ble_eq_true rfl, Nat.le_of_ble_eq_true rfl, rfl, rfl⟩ rfl ho rfl rfl rfl hl.1 rfl rc0 rfl dX13_takesAway_84 ⟨Nat.zero_le _, Nat.zero_le _⟩ (fun H locs hH => ?_)
      refine hl_aload_n hx hb dX13_takesAway_87 rfl (lv_at hl 3 rfl) ?_
      refine lv_iload_n hx hb dX13_takesAway_88 rfl (lv_at hl 4 rfl) ?_
      refine lv_iconst (v := 2) hx hb dX13_takesAway_89 (by decide) ?_
      refine lv_iload_n hx hb dX13_takesAway_90 rfl (lv_at hl 2 rfl) ?_
      refine lv_iconst (v := 1) hx hb dX13_takesAway_91 (by decide) ?_
      refine lv_iadd hx hb dX13_takesAway_92 ?_
      obtain ⟨q10, hq10, hf⟩ := bnd hf
      refine hcV_v hx hb hml hown hts hKs hT hb0 hH (As := [.int a_1, .int 2, .int ((q2.1 + 1))]) (rest := []) (k_X13_lays l E K H.size o a_1 2 (q2.1 + 1) q9 ho hq10) (gV m8_46 m8_48 ms_82 m1_16 m8_49) hd_X13_lays ⟨Nat.le_of_ble_eq_true rfl, Nat.le_of_ble_eq_true rfl, rfl, rfl⟩ rfl ho rfl rfl rfl hl.1 rfl rc0 rfl dX13_takesAway_93 ⟨Nat.zero_le _, Nat.zero_le _⟩ (fun H locs hH => ?_)
      refine hl_aload_n hx hb dX13_takesAway_96 rfl (lv_at hl 3 rfl) ?_
      refine lv_iload_n hx hb dX13_takesAway_97 rfl (lv_at hl 4 rfl) ?_
      refine lv_bipush (v := 7) hx hb dX13_takesAway_98 (by decide) ?_
      refine lv_iconst (v := 4) hx hb dX13_takesAway_100 (by decide) ?_
      refine lv_iload_n hx hb dX13_takesAway_101 rfl (lv_at hl 2 rfl) ?_
      refine lv_imul hx hb dX13_takesAway_102 ?_
      refine lv_iadd hx hb dX13_takesAway_103 ?_
      refine hl_aload_n hx hb dX13_takesAway_104 rfl (lv_at hl 3 rfl) ?_
      refine g13_3 hx hb hts hown hKs hH rfl ho m6_184 dX13_takesAway_105 ?_
      refine lv_iconst (v := 0) hx hb dX13_takesAway_108 (by decide) ?_
      obtain ⟨a11, ha11, hf⟩ := bnd hf
      replace ha11 := cha_some ha11
      obtain ⟨j12, hj12, hf⟩ := bnd hf
      refine hw_iald hx hb hKs hH ha11.1 ha11.2 hj12 dX13_takesAway_109 ?_
      obtain ⟨q13, hq13, hf⟩ := bnd hf
      refine hcV_v hx hb hml hown hts hKs hT hb0 hH (As := [.int a_1, .int ((7 + (4 * q2.1))), .int ((aI q10 a11.1 j12))]) (rest := []) (k_X13_lays l E K H.size o a_1 (7 + (4 * q2.1)) (aI q10 a11.1 j12) q10 ho hq13) (gV m8_46 m8_48 ms_82 m1_16 m8_49) hd_X13_lays ⟨Nat.le_of_ble_eq_true rfl, Nat.le_of_ble_eq_true rfl, rfl, rfl⟩ rfl ho rfl rfl rfl hl.1 rfl rc0 rfl dX13_takesAway_110 ⟨Nat.zero_le _, Nat.zero_le _⟩ (fun H locs hH => ?_)
      refine hl_aload_n hx hb dX13_takesAway_113 rfl (lv_at hl 3 rfl) ?_
      refine lv_iload_n hx hb dX13_takesAway_114 rfl (lv_at hl 4 rfl) ?_
      refine lv_bipush (v := 7) hx hb dX13_takesAway_115 (by decide) ?_
      refine lv_iconst (v := 4) hx hb dX13_takesAway_117 (by decide) ?_
      refine lv_iload_n hx hb dX13_takesAway_118 rfl (lv_at hl 2 rfl) ?_
      refine lv_imul hx hb dX13_takesAway_119 ?_
      refine lv_iadd hx hb dX13_takesAway_120 ?_
      refine lv_iconst (v := 1) hx hb dX13_takesAway_121 (by decide) ?_
      refine lv_iadd hx hb dX13_takesAway_122 ?_
      refine lv_iload_n hx hb dX13_takesAway_123 rfl (lv_at hl 5 rfl) ?_
      obtain ⟨q14, hq14, hf⟩ := bnd hf
      refine hcV_v hx hb hml hown hts hKs hT hb0 hH (As := [.int a_1, .int (((7 + (4 * q2.1)) + 1)), .int a_2]) (rest := []) (k_X13_lays l E K H.size o a_1 ((7 + (4 * q2.1)) + 1) a_2 q13 ho hq14) (gV m8_46 m8_48 ms_82 m1_16 m8_49) hd_X13_lays ⟨Nat.le_of_ble_eq_true rfl, Nat.le_of_ble_eq_true rfl, rfl, rfl⟩ rfl ho rfl rfl rfl hl.1 rfl rc0 rfl dX13_takesAway_124 ⟨Nat.zero_le _, Nat.zero_le _⟩ (fun H locs hH => ?_)
      refine hl_aload_n hx hb dX13_takesAway_127 rfl (lv_at hl 3 rfl) ?_
      refine lv_iload_n hx hb dX13_takesAway_128 rfl (lv_at hl 4 rfl) ?_
      refine lv_bipush (v := 7) hx hb dX13_takesAway_129 (by decide) ?_
      refine lv_iconst (v := 4) hx hb dX13_takesAway_131 (by decide) ?_
      refine lv_iload_n hx hb dX13_takesAway_132 rfl (lv_at hl 2 rfl) ?_
      refine lv_imul hx hb dX13_takesAway_133 ?_
      refine lv_iadd hx hb dX13_takesAway_134 ?_
      refine lv_iconst (v := 2) hx hb dX13_takesAway_135 (by decide) ?_
      refine lv_iadd hx hb dX13_takesAway_136 ?_
      refine hl_aload_n hx hb dX13_takesAway_137 rfl (lv_at hl 3 rfl) ?_
      refine lv_iload_n hx hb dX13_takesAway_138 rfl (lv_at hl 4 rfl) ?_
      refine lv_iconst (v := 3) hx hb dX13_takesAway_139 (by decide) ?_
      obtain ⟨q15, hq15, hf⟩ := bnd hf
      refine hcV_i hx hb hml hown hts hKs hT hb0 hH (As := [.int a_1, .int 3]) (rest := [.int (((7 + (4 * q2.1)) + 2)), .int a_1, rv E (some o)]) (k_X13_of l E K H.size o a_1 3 q14 ho hq15) (gV m7_126 m7_128 ms_54 m1_16 m7_129) hd_X13_of ⟨Nat.le_of_ble_eq_true rfl, Nat.le_of_ble_eq_true rfl, rfl, rfl⟩ rfl ho rfl rfl rfl hl.1 rfl (rcI (rcI (rcV rc0))) rfl dX13_takesAway_140 ⟨Nat.zero_le _, Nat.zero_le _⟩ (fun H locs hH => ?_)
      obtain ⟨q16, hq16, hf⟩ := bnd hf
      refine hcV_v hx hb hml hown hts hKs hT hb0 hH (As := [.int a_1, .int (((7 + (4 * q2.1)) + 2)), .int (q15.1)]) (rest := []) (k_X13_lays l E K H.size o a_1 ((7 + (4 * q2.1)) + 2) q15.1 q15.2 ho hq16) (gV m8_46 m8_48 ms_82 m1_16 m8_49) hd_X13_lays ⟨Nat.le_of_ble_eq_true rfl, Nat.le_of_ble_eq_true rfl, rfl, rfl⟩ rfl ho rfl rfl rfl hl.1 rfl rc0 rfl dX13_takesAway_143 ⟨Nat.zero_le _, Nat.zero_le _⟩ (fun H locs hH => ?_)
      refine hl_aload_n hx hb dX13_takesAway_146 rfl (lv_at hl 3 rfl) ?_
      refine lv_iload_n hx hb dX13_takesAway_147 rfl (lv_at hl 4 rfl) ?_
      refine lv_bipush (v := 7) hx hb dX13_takesAway_148 (by decide) ?_
      refine lv_iconst (v := 4) hx hb dX13_takesAway_150 (by decide) ?_
      refine lv_iload_n hx hb dX13_takesAway_151 rfl (lv_at hl 2 rfl) ?_
      refine lv_imul hx hb dX13_takesAway_152 ?_
      refine lv_iadd hx hb dX13_takesAway_153 ?_
      refine lv_iconst (v := 3) hx hb dX13_takesAway_154 (by decide) ?_
      refine lv_iadd hx hb dX13_takesAway_155 ?_
      refine lv_iload hx hb dX13_takesAway_156 (lv_at hl 0 rfl) ?_
      refine lv_iload hx hb dX13_takesAway_158 (lv_at hl 1 rfl) ?_
      refine lv_isub hx hb dX13_takesAway_160 ?_
      obtain ⟨q17, hq17, hf⟩ := bnd hf
      refine hcV_v hx hb hml hown hts hKs hT hb0 hH (As := [.int a_1, .int (((7 + (4 * q2.1)) + 3)), .int (((q4.1 + (aI q4.2 a5.1 j6)) - q4.1))]) (rest := []) (k_X13_lays l E K H.size o a_1 ((7 + (4 * q2.1)) + 3) ((q4.1 + (aI q4.2 a5.1 j6)) - q4.1) q16 ho hq17) (gV m8_46 m8_48 ms_82 m1_16 m8_49) hd_X13_lays ⟨Nat.le_of_ble_eq_true rfl, Nat.le_of_ble_eq_true rfl, rfl, rfl⟩ rfl ho rfl rfl rfl hl.1 rfl rc0 rfl dX13_takesAway_161 ⟨Nat.zero_le _, Nat.zero_le _⟩ (fun H locs hH => ?_)
      exact hw_vret hx hb hret hf hH hlocks dX13_takesAway_164
    · replace hf := (if_pos c8).symm.trans hf
      refine lv_iload hx hb dX13_takesAway_56 (lv_at hl 0 rfl) ?_
      refine hl_aload_n hx hb dX13_takesAway_58 rfl (lv_at hl 3 rfl) ?_
      refine g13_1 hx hb hts hown hKs hH rfl ho m6_182 dX13_takesAway_59 ?_
      refine lv_sipush (v := 164) hx hb dX13_takesAway_62 (by decide) ?_
      obtain ⟨j18, hj18, hf⟩ := bnd hf
      refine hw_iald hx hb hKs hH ha5.1 ha5.2 hj18 dX13_takesAway_65 ?_
      refine lv_icmp_le (tgt := 79) hx hb dX13_takesAway_66 (by decide) (fun c19 => ?_) (fun c19 => ?_)
      · replace hf := (if_pos c19).symm.trans hf
        refine hl_aload_n hx hb dX13_takesAway_79 rfl (lv_at hl 3 rfl) ?_
        refine lv_iload_n hx hb dX13_takesAway_80 rfl (lv_at hl 4 rfl) ?_
        refine lv_iconst (v := 1) hx hb dX13_takesAway_81 (by decide) ?_
        refine lv_iload hx hb dX13_takesAway_82 (lv_at hl 0 rfl) ?_
        obtain ⟨q20, hq20, hf⟩ := bnd hf
        refine hcV_v hx hb hml hown hts hKs hT hb0 hH (As := [.int a_1, .int 1, .int ((q4.1 + (aI q4.2 a5.1 j6)))]) (rest := []) (k_X13_lays l E K H.size o a_1 1 (q4.1 + (aI q4.2 a5.1 j6)) q4.2 ho hq20) (gV m8_46 m8_48 ms_82 m1_16 m8_49) hd_X13_lays ⟨Nat.le_of_ble_eq_true rfl, Nat.le_of_ble_eq_true rfl, rfl, rfl⟩ rfl ho rfl rfl rfl hl.1 rfl rc0 rfl dX13_takesAway_84 ⟨Nat.zero_le _, Nat.zero_le _⟩ (fun H locs hH => ?_)
        refine hl_aload_n hx hb dX13_takesAway_87 rfl (lv_at hl 3 rfl) ?_
        refine lv_iload_n hx hb dX13_takesAway_88 rfl (lv_at hl 4 rfl) ?_
        refine lv_iconst (v := 2) hx hb dX13_takesAway_89 (by decide) ?_
        refine lv_iload_n hx hb dX13_takesAway_90 rfl (lv_at hl 2 rfl) ?_
        refine lv_iconst (v := 1) hx hb dX13_takesAway_91 (by decide) ?_
        refine lv_iadd hx hb dX13_takesAway_92 ?_
        obtain ⟨q21, hq21, hf⟩ := bnd hf
        refine hcV_v hx hb hml hown hts hKs hT hb0 hH (As := [.int a_1, .int 2, .int ((q2.1 + 1))]) (rest := []) (k_X13_lays l E K H.size o a_1 2 (q2.1 + 1) q20 ho hq21) (gV m8_46 m8_48 ms_82 m1_16 m8_49) hd_X13_lays ⟨Nat.le_of_ble_eq_true rfl, Nat.le_of_ble_eq_true rfl, rfl, rfl⟩ rfl ho rfl rfl rfl hl.1 rfl rc0 rfl dX13_takesAway_93 ⟨Nat.zero_le _, Nat.zero_le _⟩ (fun H locs hH => ?_)
        refine hl_aload_n hx hb dX13_takesAway_96 rfl (lv_at hl 3 rfl) ?_
        refine lv_iload_n hx hb dX13_takesAway_97 rfl (lv_at hl 4 rfl) ?_
        refine lv_bipush (v := 7) hx hb dX13_takesAway_98 (by decide) ?_
        refine lv_iconst (v := 4) hx hb dX13_takesAway_100 (by decide) ?_
        refine lv_iload_n hx hb dX13_takesAway_101 rfl (lv_at hl 2 rfl) ?_
        refine lv_imul hx hb dX13_takesAway_102 ?_
        refine lv_iadd hx hb dX13_takesAway_103 ?_
        refine hl_aload_n hx hb dX13_takesAway_104 rfl (lv_at hl 3 rfl) ?_
        refine g13_3 hx hb hts hown hKs hH rfl ho m6_184 dX13_takesAway_105 ?_
        refine lv_iconst (v := 0) hx hb dX13_takesAway_108 (by decide) ?_
        obtain ⟨a22, ha22, hf⟩ := bnd hf
        replace ha22 := cha_some ha22
        obtain ⟨j23, hj23, hf⟩ := bnd hf
        refine hw_iald hx hb hKs hH ha22.1 ha22.2 hj23 dX13_takesAway_109 ?_
        obtain ⟨q24, hq24, hf⟩ := bnd hf
        refine hcV_v hx hb hml hown hts hKs hT hb0 hH (As := [.int a_1, .int ((7 + (4 * q2.1))), .int ((aI q21 a22.1 j23))]) (rest := []) (k_X13_lays l E K H.size o a_1 (7 + (4 * q2.1)) (aI q21 a22.1 j23) q21 ho hq24) (gV m8_46 m8_48 ms_82 m1_16 m8_49) hd_X13_lays ⟨Nat.le_of_ble_eq_true rfl, Nat.le_of_ble_eq_true rfl, rfl, rfl⟩ rfl ho rfl rfl rfl hl.1 rfl rc0 rfl dX13_takesAway_110 ⟨Nat.zero_le _, Nat.zero_le _⟩ (fun H locs hH => ?_)
        refine hl_aload_n hx hb dX13_takesAway_113 rfl (lv_at hl 3 rfl) ?_
        refine lv_iload_n hx hb dX13_takesAway_114 rfl (lv_at hl 4 rfl) ?_
        refine lv_bipush (v := 7) hx hb dX13_takesAway_115 (by decide) ?_
        refine lv_iconst (v := 4) hx hb dX13_takesAway_117 (by decide) ?_
        refine lv_iload_n hx hb dX13_takesAway_118 rfl (lv_at hl 2 rfl) ?_
        refine lv_imul hx hb dX13_takesAway_119 ?_
        refine lv_iadd hx hb dX13_takesAway_120 ?_
        refine lv_iconst (v := 1) hx hb dX13_takesAway_121 (by decide) ?_
        refine lv_iadd hx hb dX13_takesAway_122 ?_
        refine lv_iload_n hx hb dX13_takesAway_123 rfl (lv_at hl 5 rfl) ?_
        obtain ⟨q25, hq25, hf⟩ := bnd hf
        refine hcV_v hx hb hml hown hts hKs hT hb0 hH (As := [.int a_1, .int (((7 + (4 * q2.1)) + 1)), .int a_2]) (rest := []) (k_X13_lays l E K H.size o a_1 ((7 + (4 * q2.1)) + 1) a_2 q24 ho hq25) (gV m8_46 m8_48 ms_82 m1_16 m8_49) hd_X13_lays ⟨Nat.le_of_ble_eq_true rfl, Nat.le_of_ble_eq_true rfl, rfl, rfl⟩ rfl ho rfl rfl rfl hl.1 rfl rc0 rfl dX13_takesAway_124 ⟨Nat.zero_le _, Nat.zero_le _⟩ (fun H locs hH => ?_)
        refine hl_aload_n hx hb dX13_takesAway_127 rfl (lv_at hl 3 rfl) ?_
        refine lv_iload_n hx hb dX13_takesAway_128 rfl (lv_at hl 4 rfl) ?_
        refine lv_bipush (v := 7) hx hb dX13_takesAway_129 (by decide) ?_
        refine lv_iconst (v := 4) hx hb dX13_takesAway_131 (by decide) ?_
        refine lv_iload_n hx hb dX13_takesAway_132 rfl (lv_at hl 2 rfl) ?_
        refine lv_imul hx hb dX13_takesAway_133 ?_
        refine lv_iadd hx hb dX13_takesAway_134 ?_
        refine lv_iconst (v := 2) hx hb dX13_takesAway_135 (by decide) ?_
        refine lv_iadd hx hb dX13_takesAway_136 ?_
        refine hl_aload_n hx hb dX13_takesAway_137 rfl (lv_at hl 3 rfl) ?_
        refine lv_iload_n hx hb dX13_takesAway_138 rfl (lv_at hl 4 rfl) ?_
        refine lv_iconst (v := 3) hx hb dX13_takesAway_139 (by decide) ?_
        obtain ⟨q26, hq26, hf⟩ := bnd hf
        refine hcV_i hx hb hml hown hts hKs hT hb0 hH (As := [.int a_1, .int 3]) (rest := [.int (((7 + (4 * q2.1)) + 2)), .int a_1, rv E (some o)]) (k_X13_of l E K H.size o a_1 3 q25 ho hq26) (gV m7_126 m7_128 ms_54 m1_16 m7_129) hd_X13_of ⟨Nat.le_of_ble_eq_true rfl, Nat.le_of_ble_eq_true rfl, rfl, rfl⟩ rfl ho rfl rfl rfl hl.1 rfl (rcI (rcI (rcV rc0))) rfl dX13_takesAway_140 ⟨Nat.zero_le _, Nat.zero_le _⟩ (fun H locs hH => ?_)
        obtain ⟨q27, hq27, hf⟩ := bnd hf
        refine hcV_v hx hb hml hown hts hKs hT hb0 hH (As := [.int a_1, .int (((7 + (4 * q2.1)) + 2)), .int (q26.1)]) (rest := []) (k_X13_lays l E K H.size o a_1 ((7 + (4 * q2.1)) + 2) q26.1 q26.2 ho hq27) (gV m8_46 m8_48 ms_82 m1_16 m8_49) hd_X13_lays ⟨Nat.le_of_ble_eq_true rfl, Nat.le_of_ble_eq_true rfl, rfl, rfl⟩ rfl ho rfl rfl rfl hl.1 rfl rc0 rfl dX13_takesAway_143 ⟨Nat.zero_le _, Nat.zero_le _⟩ (fun H locs hH => ?_)
        refine hl_aload_n hx hb dX13_takesAway_146 rfl (lv_at hl 3 rfl) ?_
        refine lv_iload_n hx hb dX13_takesAway_147 rfl (lv_at hl 4 rfl) ?_
        refine lv_bipush (v := 7) hx hb dX13_takesAway_148 (by decide) ?_
        refine lv_iconst (v := 4) hx hb dX13_takesAway_150 (by decide) ?_
        refine lv_iload_n hx hb dX13_takesAway_151 rfl (lv_at hl 2 rfl) ?_
        refine lv_imul hx hb dX13_takesAway_152 ?_
        refine lv_iadd hx hb dX13_takesAway_153 ?_
        refine lv_iconst (v := 3) hx hb dX13_takesAway_154 (by decide) ?_
        refine lv_iadd hx hb dX13_takesAway_155 ?_
        refine lv_iload hx hb dX13_takesAway_156 (lv_at hl 0 rfl) ?_
        refine lv_iload hx hb dX13_takesAway_158 (lv_at hl 1 rfl) ?_
        refine lv_isub hx hb dX13_takesAway_160 ?_
        obtain ⟨q28, hq28, hf⟩ := bnd hf
        refine hcV_v hx hb hml hown hts hKs hT hb0 hH (As := [.int a_1, .int (((7 + (4 * q2.1)) + 3)), .int (((q4.1 + (aI q4.2 a5.1 j6)) - q4.1))]) (rest := []) (k_X13_lays l E K H.size o a_1 ((7 + (4 * q2.1)) + 3) ((q4.1 + (aI q4.2 a5.1 j6)) - q4.1) q27 ho hq28) (gV m8_46 m8_48 ms_82 m1_16 m8_49) hd_X13_lays ⟨Nat.le_of_ble_eq_true rfl, Nat.le_of_ble_eq_true rfl, rfl, rfl⟩ rfl ho rfl rfl rfl hl.1 rfl rc0 rfl dX13_takesAway_161 ⟨Nat.zero_le _, Nat.zero_le _⟩ (fun H locs hH => ?_)
        exact hw_vret hx hb hret hf hH hlocks dX13_takesAway_164
      · replace hf := (if_neg c19).symm.trans hf
        refine hl_aload_n hx hb dX13_takesAway_69 rfl (lv_at hl 3 rfl) ?_
        refine g13_1 hx hb hts hown hKs hH rfl ho m6_182 dX13_takesAway_70 ?_
        refine lv_sipush (v := 164) hx hb dX13_takesAway_73 (by decide) ?_
        obtain ⟨j29, hj29, hf⟩ := bnd hf
        refine hw_iald hx hb hKs hH ha5.1 ha5.2 hj29 dX13_takesAway_76 ?_
        refine lv_istore (i := 5) (lv' := [(5, .int ((aI q4.2 a5.1 j29))), (4, .int (q4.1)), (3, .int (q2.1)), (0, rv E (some o)), (1, .int a_1), (2, .int a_2)]) hx hb dX13_takesAway_77 hl (by decide) rfl (fun ls hl => ?_)
        refine hl_aload_n hx hb dX13_takesAway_79 rfl (lv_at hl 3 rfl) ?_
        refine lv_iload_n hx hb dX13_takesAway_80 rfl (lv_at hl 4 rfl) ?_
        refine lv_iconst (v := 1) hx hb dX13_takesAway_81 (by decide) ?_
        refine lv_iload hx hb dX13_takesAway_82 (lv_at hl 0 rfl) ?_
        obtain ⟨q30, hq30, hf⟩ := bnd hf
        refine hcV_v hx hb hml hown hts hKs hT hb0 hH (As := [.int a_1, .int 1, .int ((aI q4.2 a5.1 j29))]) (rest := []) (k_X13_lays l E K H.size o a_1 1 (aI q4.2 a5.1 j29) q4.2 ho hq30) (gV m8_46 m8_48 ms_82 m1_16 m8_49) hd_X13_lays ⟨Nat.le_of_ble_eq_true rfl, Nat.le_of_ble_eq_true rfl, rfl, rfl⟩ rfl ho rfl rfl rfl hl.1 rfl rc0 rfl dX13_takesAway_84 ⟨Nat.zero_le _, Nat.zero_le _⟩ (fun H locs hH => ?_)
        refine hl_aload_n hx hb dX13_takesAway_87 rfl (lv_at hl 3 rfl) ?_
        refine lv_iload_n hx hb dX13_takesAway_88 rfl (lv_at hl 4 rfl) ?_
        refine lv_iconst (v := 2) hx hb dX13_takesAway_89 (by decide) ?_
        refine lv_iload_n hx hb dX13_takesAway_90 rfl (lv_at hl 2 rfl) ?_
        refine lv_iconst (v := 1) hx hb dX13_takesAway_91 (by decide) ?_
        refine lv_iadd hx hb dX13_takesAway_92 ?_
        obtain ⟨q31, hq31, hf⟩ := bnd hf
        refine hcV_v hx hb hml hown hts hKs hT hb0 hH (As := [.int a_1, .int 2, .int ((q2.1 + 1))]) (rest := []) (k_X13_lays l E K H.size o a_1 2 (q2.1 + 1) q30 ho hq31) (gV m8_46 m8_48 ms_82 m1_16 m8_49) hd_X13_lays ⟨Nat.le_of_ble_eq_true rfl, Nat.le_of_ble_eq_true rfl, rfl, rfl⟩ rfl ho rfl rfl rfl hl.1 rfl rc0 rfl dX13_takesAway_93 ⟨Nat.zero_le _, Nat.zero_le _⟩ (fun H locs hH => ?_)
        refine hl_aload_n hx hb dX13_takesAway_96 rfl (lv_at hl 3 rfl) ?_
        refine lv_iload_n hx hb dX13_takesAway_97 rfl (lv_at hl 4 rfl) ?_
        refine lv_bipush (v := 7) hx hb dX13_takesAway_98 (by decide) ?_
        refine lv_iconst (v := 4) hx hb dX13_takesAway_100 (by decide) ?_
        refine lv_iload_n hx hb dX13_takesAway_101 rfl (lv_at hl 2 rfl) ?_
        refine lv_imul hx hb dX13_takesAway_102 ?_
        refine lv_iadd hx hb dX13_takesAway_103 ?_
        refine hl_aload_n hx hb dX13_takesAway_104 rfl (lv_at hl 3 rfl) ?_
        refine g13_3 hx hb hts hown hKs hH rfl ho m6_184 dX13_takesAway_105 ?_
        refine lv_iconst (v := 0) hx hb dX13_takesAway_108 (by decide) ?_
        obtain ⟨a32, ha32, hf⟩ := bnd hf
        replace ha32 := cha_some ha32
        obtain ⟨j33, hj33, hf⟩ := bnd hf
        refine hw_iald hx hb hKs hH ha32.1 ha32.2 hj33 dX13_takesAway_109 ?_
        obtain ⟨q34, hq34, hf⟩ := bnd hf
        refine hcV_v hx hb hml hown hts hKs hT hb0 hH (As := [.int a_1, .int ((7 + (4 * q2.1))), .int ((aI q31 a32.1 j33))]) (rest := []) (k_X13_lays l E K H.size o a_1 (7 + (4 * q2.1)) (aI q31 a32.1 j33) q31 ho hq34) (gV m8_46 m8_48 ms_82 m1_16 m8_49) hd_X13_lays ⟨Nat.le_of_ble_eq_true rfl, Nat.le_of_ble_eq_true rfl, rfl, rfl⟩ rfl ho rfl rfl rfl hl.1 rfl rc0 rfl dX13_takesAway_110 ⟨Nat.zero_le _, Nat.zero_le _⟩ (fun H locs hH => ?_)
        refine hl_aload_n hx hb dX13_takesAway_113 rfl (lv_at hl 3 rfl) ?_
        refine lv_iload_n hx hb dX13_takesAway_114 rfl (lv_at hl 4 rfl) ?_
        refine lv_bipush (v := 7) hx hb dX13_takesAway_115 (by decide) ?_
        refine lv_iconst (v := 4) hx hb dX13_takesAway_117 (by decide) ?_
        refine lv_iload_n hx hb dX13_takesAway_118 rfl (lv_at hl 2 rfl) ?_
        refine lv_imul hx hb dX13_takesAway_119 ?_
        refine lv_iadd hx hb dX13_takesAway_120 ?_
        refine lv_iconst (v := 1) hx hb dX13_takesAway_121 (by decide) ?_
        refine lv_iadd hx hb dX13_takesAway_122 ?_
        refine lv_iload_n hx hb dX13_takesAway_123 rfl (lv_at hl 5 rfl) ?_
        obtain ⟨q35, hq35, hf⟩ := bnd hf
        refine hcV_v hx hb hml hown hts hKs hT hb0 hH (As := [.int a_1, .int (((7 + (4 * q2.1)) + 1)), .int a_2]) (rest := []) (k_X13_lays l E K H.size o a_1 ((7 + (4 * q2.1)) + 1) a_2 q34 ho hq35) (gV m8_46 m8_48 ms_82 m1_16 m8_49) hd_X13_lays ⟨Nat.le_of_ble_eq_true rfl, Nat.le_of_ble_eq_true rfl, rfl, rfl⟩ rfl ho rfl rfl rfl hl.1 rfl rc0 rfl dX13_takesAway_124 ⟨Nat.zero_le _, Nat.zero_le _⟩ (fun H locs hH => ?_)
        refine hl_aload_n hx hb dX13_takesAway_127 rfl (lv_at hl 3 rfl) ?_
        refine lv_iload_n hx hb dX13_takesAway_128 rfl (lv_at hl 4 rfl) ?_
        refine lv_bipush (v := 7) hx hb dX13_takesAway_129 (by decide) ?_
        refine lv_iconst (v := 4) hx hb dX13_takesAway_131 (by decide) ?_
        refine lv_iload_n hx hb dX13_takesAway_132 rfl (lv_at hl 2 rfl) ?_
        refine lv_imul hx hb dX13_takesAway_133 ?_
        refine lv_iadd hx hb dX13_takesAway_134 ?_
        refine lv_iconst (v := 2) hx hb dX13_takesAway_135 (by decide) ?_
        refine lv_iadd hx hb dX13_takesAway_136 ?_
        refine hl_aload_n hx hb dX13_takesAway_137 rfl (lv_at hl 3 rfl) ?_
        refine lv_iload_n hx hb dX13_takesAway_138 rfl (lv_at hl 4 rfl) ?_
        refine lv_iconst (v := 3) hx hb dX13_takesAway_139 (by decide) ?_
        obtain ⟨q36, hq36, hf⟩ := bnd hf
        refine hcV_i hx hb hml hown hts hKs hT hb0 hH (As := [.int a_1, .int 3]) (rest := [.int (((7 + (4 * q2.1)) + 2)), .int a_1, rv E (some o)]) (k_X13_of l E K H.size o a_1 3 q35 ho hq36) (gV m7_126 m7_128 ms_54 m1_16 m7_129) hd_X13_of ⟨Nat.le_of_ble_eq_true rfl, Nat.le_of_ble_eq_true rfl, rfl, rfl⟩ rfl ho rfl rfl rfl hl.1 rfl (rcI (rcI (rcV rc0))) rfl dX13_takesAway_140 ⟨Nat.zero_le _, Nat.zero_le _⟩ (fun H locs hH => ?_)
        obtain ⟨q37, hq37, hf⟩ := bnd hf
        refine hcV_v hx hb hml hown hts hKs hT hb0 hH (As := [.int a_1, .int (((7 + (4 * q2.1)) + 2)), .int (q36.1)]) (rest := []) (k_X13_lays l E K H.size o a_1 ((7 + (4 * q2.1)) + 2) q36.1 q36.2 ho hq37) (gV m8_46 m8_48 ms_82 m1_16 m8_49) hd_X13_lays ⟨Nat.le_of_ble_eq_true rfl, Nat.le_of_ble_eq_true rfl, rfl, rfl⟩ rfl ho rfl rfl rfl hl.1 rfl rc0 rfl dX13_takesAway_143 ⟨Nat.zero_le _, Nat.zero_le _⟩ (fun H locs hH => ?_)
        refine hl_aload_n hx hb dX13_takesAway_146 rfl (lv_at hl 3 rfl) ?_
        refine lv_iload_n hx hb dX13_takesAway_147 rfl (lv_at hl 4 rfl) ?_
        refine lv_bipush (v := 7) hx hb dX13_takesAway_148 (by decide) ?_
        refine lv_iconst (v := 4) hx hb dX13_takesAway_150 (by decide) ?_
        refine lv_iload_n hx hb dX13_takesAway_151 rfl (lv_at hl 2 rfl) ?_
        refine lv_imul hx hb dX13_takesAway_152 ?_
        refine lv_iadd hx hb dX13_takesAway_153 ?_
        refine lv_iconst (v := 3) hx hb dX13_takesAway_154 (by decide) ?_
        refine lv_iadd hx hb dX13_takesAway_155 ?_
        refine lv_iload hx hb dX13_takesAway_156 (lv_at hl 0 rfl) ?_
        refine lv_iload hx hb dX13_takesAway_158 (lv_at hl 1 rfl) ?_
        refine lv_isub hx hb dX13_takesAway_160 ?_
        obtain ⟨q38, hq38, hf⟩ := bnd hf
        refine hcV_v hx hb hml hown hts hKs hT hb0 hH (As := [.int a_1, .int (((7 + (4 * q2.1)) + 3)), .int (((aI q4.2 a5.1 j29) - q4.1))]) (rest := []) (k_X13_lays l E K H.size o a_1 ((7 + (4 * q2.1)) + 3) ((aI q4.2 a5.1 j29) - q4.1) q37 ho hq38) (gV m8_46 m8_48 ms_82 m1_16 m8_49) hd_X13_lays ⟨Nat.le_of_ble_eq_true rfl, Nat.le_of_ble_eq_true rfl, rfl, rfl⟩ rfl ho rfl rfl rfl hl.1 rfl rc0 rfl dX13_takesAway_161 ⟨Nat.zero_le _, Nat.zero_le _⟩ (fun H locs hH => ?_)
        exact hw_vret hx hb hret hf hH hlocks dX13_takesAway_164
  · replace hf := (if_pos c3).symm.trans hf
    exact hw_vret hx hb hret hf hH hlocks dX13_takesAway_19

theorem dX13_isReason_0 : decode cX13_isReason 0 = .ok (.iload_n 0, 1) := by decide +kernel
theorem dX13_isReason_1 : decode cX13_isReason 1 = .ok (.i2l, 1) := by decide +kernel
theorem dX13_isReason_2 : decode cX13_isReason 2 = .ok (.lconst 0, 1) := by decide +kernel
theorem dX13_isReason_3 : decode cX13_isReason 3 = .ok (.ldc2_w 162, 3) := by decide +kernel
theorem dX13_isReason_6 : decode cX13_isReason 6 = .ok (.invokestatic 123, 3) := by decide +kernel
theorem dX13_isReason_9 : decode cX13_isReason 9 = .ok (.ireturn, 1) := by decide +kernel
theorem hs_X13_isReason : yX13_isReason.cls ≠ "java/lang/invoke/MethodHandle" ∧ yX13_isReason.cls ≠ "java/lang/invoke/VarHandle" ∧ (parseMethodDescriptor yX13_isReason.desc).map (fun d => d.parameters.length) = some 1 := by decide +kernel
set_option maxHeartbeats 4000000 in
set_option maxRecDepth 100000 in
theorem k_X13_isReason (l : Launch) (E : Ev) (K : Kd) (z : Nat) (a_0 : Int32) (w : Wd) {r : Bool} {w' : Wd} (hf : f_X13_isReason K a_0 w = some (r, w')) : Met l yX13_isReason (Cond.code yX13_isReason cX13_isReason 1 (Option.some Jvm.ClassFile.FieldType.boolean) :: bt) ({ frames := 1, cells := 0, slots := 0, locals := 25 } : Room) (va_Pc [.int a_0] (HB E K w z)) (QI E K z w' (b2i r)) 0 0 (hA E) := by
  refine Met.ofW (cc := cX13_isReason) (maxL := 1) (ret := (Option.some Jvm.ClassFile.FieldType.boolean)) (by decide) rfl ?_
  intro p e s m args below meth c s₁ B hml hv
  obtain ⟨rfl, hz, hP, hKs, hT, hb0⟩ := hv
  have C : CX p l e s m _ meth c cX13_isReason 1 RX13 (Option.some Jvm.ClassFile.FieldType.boolean) E := ⟨B.exec, B.bytes, hml, findClass_of_methodNamed B.named, fun w h => atoms_spec (ws := Cond.code yX13_isReason cX13_isReason 1 (Option.some Jvm.ClassFile.FieldType.boolean) :: bt) B.pre w (List.mem_cons_of_mem _ h), hKs, hT, by rw [hz]; exact hb0, B.notSynchronized, B.returns⟩
  have hH : HQ E K z w s s.heap [] := ⟨hP, va_S.rf, hz⟩
  obtain ⟨hx, hb, hml, hown, hts, hKs, hT, hb0, hlocks, hret⟩ := id C
  have hl := lv_entry [.int a_0] (n := 1) (by simp [lg_len_nil, lg_len_i, lg_len_j, lg_len_q, lg_len_f, lg_len_d, lg_len_r])
  rw [lg_entry_eq]
  generalize (lg_sl [.int a_0] ++ List.replicate (1 - (lg_sl [.int a_0]).length) Slot.unset).toArray = ls at hl ⊢
  replace hl : lv_has ls 1 [(0, .int a_0)] := by simpa only [lv_args, cat_q, cat_i, cat_j, reduceIte, Nat.reduceEqDiff, Nat.reduceAdd, Nat.zero_add] using hl
  generalize s.heap = H at hH ⊢
  unfold f_X13_isReason at hf
  refine lv_iload_n hx hb dX13_isReason_0 rfl (lv_at hl 0 rfl) ?_
  refine lv_i2l (v := (a_0.toInt64)) hx hb dX13_isReason_1 rfl ?_
  refine lv_lconst (v := 0) hx hb dX13_isReason_2 rfl ?_
  refine lv_ldc2 (v := 3) hx hb hown (hts _ m7_154) dX13_isReason_3 ?_
  obtain ⟨q1, hq1, hf⟩ := bnd hf
  refine hcS_i hx hb hml hown hts hKs hT hb0 hH (As := [.long (a_0.toInt64), .long 0, .long 3]) (rest := []) (k_X13_isIn l E K H.size (a_0.toInt64) 0 3 w hq1) (gS m7_88 m7_89 m1_16 m7_90) hs_X13_isIn ⟨Nat.le_of_ble_eq_true rfl, Nat.le_of_ble_eq_true rfl, rfl, rfl⟩ hl.1 rfl rc0 rfl dX13_isReason_6 ⟨Nat.zero_le _, Nat.zero_le _⟩ (fun H locs hH => ?_)
  exact hw_zret hx hb hret rfl hf hH hlocks dX13_isReason_9

theorem dX13_adjourn_0 : decode cX13_adjourn 0 = .ok (.aload_n 0, 1) := by decide +kernel
theorem dX13_adjourn_1 : decode cX13_adjourn 1 = .ok (.aload_n 0, 1) := by decide +kernel
theorem dX13_adjourn_2 : decode cX13_adjourn 2 = .ok (.iload_n 1, 1) := by decide +kernel
theorem dX13_adjourn_3 : decode cX13_adjourn 3 = .ok (.invokevirtual 148, 3) := by decide +kernel
theorem dX13_adjourn_6 : decode cX13_adjourn 6 = .ok (.invokevirtual 110, 3) := by decide +kernel
theorem dX13_adjourn_9 : decode cX13_adjourn 9 = .ok (.ifCond .eq 48, 3) := by decide +kernel
theorem dX13_adjourn_12 : decode cX13_adjourn 12 = .ok (.aload_n 0, 1) := by decide +kernel
theorem dX13_adjourn_13 : decode cX13_adjourn 13 = .ok (.iload_n 2, 1) := by decide +kernel
theorem dX13_adjourn_14 : decode cX13_adjourn 14 = .ok (.invokestatic 279, 3) := by decide +kernel
theorem dX13_adjourn_17 : decode cX13_adjourn 17 = .ok (.iconst 2, 1) := by decide +kernel
theorem dX13_adjourn_18 : decode cX13_adjourn 18 = .ok (.invokevirtual 214, 3) := by decide +kernel
theorem dX13_adjourn_21 : decode cX13_adjourn 21 = .ok (.ifCond .eq 36, 3) := by decide +kernel
theorem dX13_adjourn_24 : decode cX13_adjourn 24 = .ok (.aload_n 0, 1) := by decide +kernel
theorem dX13_adjourn_25 : decode cX13_adjourn 25 = .ok (.aload_n 0, 1) := by decide +kernel
theorem dX13_adjourn_26 : decode cX13_adjourn 26 = .ok (.iload_n 1, 1) := by decide +kernel
theorem dX13_adjourn_27 : decode cX13_adjourn 27 = .ok (.iconst 0, 1) := by decide +kernel
theorem dX13_adjourn_28 : decode cX13_adjourn 28 = .ok (.invokevirtual 141, 3) := by decide +kernel
theorem dX13_adjourn_31 : decode cX13_adjourn 31 = .ok (.iconst 1, 1) := by decide +kernel
theorem dX13_adjourn_32 : decode cX13_adjourn 32 = .ok (.if_icmp .ne 17, 3) := by decide +kernel
theorem dX13_adjourn_35 : decode cX13_adjourn 35 = .ok (.aload_n 0, 1) := by decide +kernel
theorem dX13_adjourn_36 : decode cX13_adjourn 36 = .ok (.iload_n 1, 1) := by decide +kernel
theorem dX13_adjourn_37 : decode cX13_adjourn 37 = .ok (.iconst 2, 1) := by decide +kernel
theorem dX13_adjourn_38 : decode cX13_adjourn 38 = .ok (.invokevirtual 141, 3) := by decide +kernel
theorem dX13_adjourn_41 : decode cX13_adjourn 41 = .ok (.iconst 5, 1) := by decide +kernel
theorem dX13_adjourn_42 : decode cX13_adjourn 42 = .ok (.if_icmp .ge 7, 3) := by decide +kernel
theorem dX13_adjourn_45 : decode cX13_adjourn 45 = .ok (.iconst 1, 1) := by decide +kernel
theorem dX13_adjourn_46 : decode cX13_adjourn 46 = .ok (.goto 4, 3) := by decide +kernel
theorem dX13_adjourn_49 : decode cX13_adjourn 49 = .ok (.iconst 0, 1) := by decide +kernel
theorem dX13_adjourn_50 : decode cX13_adjourn 50 = .ok (.iconst 3, 1) := by decide +kernel
theorem dX13_adjourn_51 : decode cX13_adjourn 51 = .ok (.invokevirtual 214, 3) := by decide +kernel
theorem dX13_adjourn_54 : decode cX13_adjourn 54 = .ok (.ifCond .ne 5, 3) := by decide +kernel
theorem dX13_adjourn_57 : decode cX13_adjourn 57 = .ok (.iconst 0, 1) := by decide +kernel
theorem dX13_adjourn_58 : decode cX13_adjourn 58 = .ok (.ireturn, 1) := by decide +kernel
theorem dX13_adjourn_59 : decode cX13_adjourn 59 = .ok (.aload_n 0, 1) := by decide +kernel
theorem dX13_adjourn_60 : decode cX13_adjourn 60 = .ok (.invokevirtual 262, 3) := by decide +kernel
theorem dX13_adjourn_63 : decode cX13_adjourn 63 = .ok (.aload_n 0, 1) := by decide +kernel
theorem dX13_adjourn_64 : decode cX13_adjourn 64 = .ok (.iload_n 1, 1) := by decide +kernel
theorem dX13_adjourn_65 : decode cX13_adjourn 65 = .ok (.iload_n 2, 1) := by decide +kernel
theorem dX13_adjourn_66 : decode cX13_adjourn 66 = .ok (.invokevirtual 282, 3) := by decide +kernel
theorem dX13_adjourn_69 : decode cX13_adjourn 69 = .ok (.aload_n 0, 1) := by decide +kernel
theorem dX13_adjourn_70 : decode cX13_adjourn 70 = .ok (.aload_n 0, 1) := by decide +kernel
theorem dX13_adjourn_71 : decode cX13_adjourn 71 = .ok (.iload_n 1, 1) := by decide +kernel
theorem dX13_adjourn_72 : decode cX13_adjourn 72 = .ok (.invokevirtual 144, 3) := by decide +kernel
theorem dX13_adjourn_75 : decode cX13_adjourn 75 = .ok (.invokevirtual 269, 3) := by decide +kernel
theorem dX13_adjourn_78 : decode cX13_adjourn 78 = .ok (.ireturn, 1) := by decide +kernel
theorem hd_X13_adjourn : yX13_adjourn.cls = RX13 ∧ yX13_adjourn.cls ≠ "java/lang/invoke/MethodHandle" ∧ yX13_adjourn.cls ≠ "java/lang/invoke/VarHandle" ∧ (parseMethodDescriptor yX13_adjourn.desc).map (fun d => d.parameters.length) = some 2 := by decide +kernel
theorem hs_X13_adjourn : yX13_adjourn.cls ≠ "java/lang/invoke/MethodHandle" ∧ yX13_adjourn.cls ≠ "java/lang/invoke/VarHandle" ∧ (parseMethodDescriptor yX13_adjourn.desc).map (fun d => d.parameters.length) = some 2 := by decide +kernel
set_option maxHeartbeats 4000000 in
set_option maxRecDepth 100000 in
theorem k_X13_adjourn (l : Launch) (E : Ev) (K : Kd) (z : Nat) (o : Nat) (a_1 : Int32) (a_2 : Int32) (w : Wd) (ho : K o = some (11, 0)) {r : Int32} {w' : Wd} (hf : f_X13_adjourn K o a_1 a_2 w = some (r, w')) : Met l yX13_adjourn (Cond.code yX13_adjourn cX13_adjourn 3 (Option.some Jvm.ClassFile.FieldType.int) :: bt) ({ frames := 3, cells := 0, slots := 0, locals := 70 } : Room) (va_Pc [rv E (some o), .int a_1, .int a_2] (HB E K w z)) (QI E K z w' r) 0 0 (hA E) := by
  refine Met.ofW (cc := cX13_adjourn) (maxL := 3) (ret := (Option.some Jvm.ClassFile.FieldType.int)) (by decide) rfl ?_
  intro p e s m args below meth c s₁ B hml hv
  obtain ⟨rfl, hz, hP, hKs, hT, hb0⟩ := hv
  have C : CX p l e s m _ meth c cX13_adjourn 3 RX13 (Option.some Jvm.ClassFile.FieldType.int) E := ⟨B.exec, B.bytes, hml, findClass_of_methodNamed B.named, fun w h => atoms_spec (ws := Cond.code yX13_adjourn cX13_adjourn 3 (Option.some Jvm.ClassFile.FieldType.int) :: bt) B.pre w (List.mem_cons_of_mem _ h), hKs, hT, by rw [hz]; exact hb0, B.notSynchronized, B.returns⟩
  have hH : HQ E K z w s s.heap [] := ⟨hP, va_S.rf, hz⟩
  obtain ⟨hx, hb, hml, hown, hts, hKs, hT, hb0, hlocks, hret⟩ := id C
  have hl := lv_entry [rv E (some o), .int a_1, .int a_2] (n := 3) (by simp [lg_len_nil, lg_len_i, lg_len_j, lg_len_q, lg_len_f, lg_len_d, lg_len_r])
  rw [lg_entry_eq]
  generalize (lg_sl [rv E (some o), .int a_1, .int a_2] ++ List.replicate (3 - (lg_sl [rv E (some o), .int a_1, .int a_2]).length) Slot.unset).toArray = ls at hl ⊢
  replace hl : lv_has ls 3 [(0, rv E (some o)), (1, .int a_1), (2, .int a_2)] := by simpa only [lv_args, cat_q, cat_i, cat_j, reduceIte, Nat.reduceEqDiff, Nat.reduceAdd, Nat.zero_add] using hl
  generalize s.heap = H at hH ⊢
  unfold f_X13_adjourn at hf
  refine hl_aload_n hx hb dX13_adjourn_0 rfl (lv_at hl 0 rfl) ?_
  refine hl_aload_n hx hb dX13_adjourn_1 rfl (lv_at hl 0 rfl) ?_
  refine lv_iload_n hx hb dX13_adjourn_2 rfl (lv_at hl 1 rfl) ?_
  obtain ⟨q1, hq1, hf⟩ := bnd hf
  refine hcV_i hx hb hml hown hts hKs hT hb0 hH (As := [.int a_1]) (rest := [rv E (some o)]) (k_X13_isCase l E K H.size o a_1 w ho hq1) (gV m7_114 m7_116 ms_51 m1_16 m7_117) hd_X13_isCase ⟨Nat.le_of_ble_eq_true rfl, Nat.le_of_ble_eq_true rfl, rfl, rfl⟩ rfl ho rfl rfl rfl hl.1 rfl (rcV rc0) rfl dX13_adjourn_3 ⟨Nat.zero_le _, Nat.zero_le _⟩ (fun H locs hH => ?_)
  obtain ⟨q2, hq2, hf⟩ := bnd hf
  refine hcV_i hx hb hml hown hts hKs hT hb0 hH (As := [.int (b2i q1.1)]) (rest := []) (k_X13_is l E K H.size o q1.1 q1.2 ho hq2) (gV m7_68 m7_70 ms_47 m1_16 m7_71) hd_X13_is ⟨Nat.le_of_ble_eq_true rfl, Nat.le_of_ble_eq_true rfl, rfl, rfl⟩ rfl ho rfl rfl rfl hl.1 rfl rc0 rfl dX13_adjourn_6 ⟨Nat.zero_le _, Nat.zero_le _⟩ (fun H locs hH => ?_)
  refine lv_if_eq (tgt := 57) hx hb dX13_adjourn_9 (by decide) (fun c3 => ?_) (fun c3 => ?_)
  · replace hf := (if_pos c3).symm.trans hf
    refine lv_iconst (v := 0) hx hb dX13_adjourn_57 (by decide) ?_
    exact hw_iret hx hb hret hf hH hlocks dX13_adjourn_58
  · replace hf := (if_neg c3).symm.trans hf
    refine hl_aload_n hx hb dX13_adjourn_12 rfl (lv_at hl 0 rfl) ?_
    refine lv_iload_n hx hb dX13_adjourn_13 rfl (lv_at hl 2 rfl) ?_
    obtain ⟨q4, hq4, hf⟩ := bnd hf
    refine hcS_i hx hb hml hown hts hKs hT hb0 hH (As := [.int a_2]) (rest := [rv E (some o)]) (k_X13_isReason l E K H.size a_2 q2.2 hq4) (gS m8_78 m8_79 m1_16 m8_80) hs_X13_isReason ⟨Nat.le_of_ble_eq_true rfl, Nat.le_of_ble_eq_true rfl, rfl, rfl⟩ hl.1 rfl (rcV rc0) rfl dX13_adjourn_14 ⟨Nat.zero_le _, Nat.zero_le _⟩ (fun H locs hH => ?_)
    refine lv_iconst (v := 2) hx hb dX13_adjourn_17 (by decide) ?_
    obtain ⟨q5, hq5, hf⟩ := bnd hf
    refine hcV_i hx hb hml hown hts hKs hT hb0 hH (As := [.int (b2i q4.1), .int 2]) (rest := []) (k_X13_may l E K H.size o q4.1 2 q4.2 ho hq5) (gV m7_183 m7_185 ms_61 m1_16 m7_186) hd_X13_may ⟨Nat.le_of_ble_eq_true rfl, Nat.le_of_ble_eq_true rfl, rfl, rfl⟩ rfl ho rfl rfl rfl hl.1 rfl rc0 rfl dX13_adjourn_18 ⟨Nat.zero_le _, Nat.zero_le _⟩ (fun H locs hH => ?_)
    refine lv_if_eq (tgt := 57) hx hb dX13_adjourn_21 (by decide) (fun c6 => ?_) (fun c6 => ?_)
    · replace hf := (if_pos c6).symm.trans hf
      refine lv_iconst (v := 0) hx hb dX13_adjourn_57 (by decide) ?_
      exact hw_iret hx hb hret hf hH hlocks dX13_adjourn_58
    · replace hf := (if_neg c6).symm.trans hf
      refine hl_aload_n hx hb dX13_adjourn_24 rfl (lv_at hl 0 rfl) ?_
      refine hl_aload_n hx hb dX13_adjourn_25 rfl (lv_at hl 0 rfl) ?_
      refine lv_iload_n hx hb dX13_adjourn_26 rfl (lv_at hl 1 rfl) ?_
      refine lv_iconst (v := 0) hx hb dX13_adjourn_27 (by decide) ?_
      obtain ⟨q7, hq7, hf⟩ := bnd hf
      refine hcV_i hx hb hml hown hts hKs hT hb0 hH (As := [.int a_1, .int 0]) (rest := [rv E (some o)]) (k_X13_of l E K H.size o a_1 0 q5.2 ho hq7) (gV m7_126 m7_128 ms_54 m1_16 m7_129) hd_X13_of ⟨Nat.le_of_ble_eq_true rfl, Nat.le_of_ble_eq_true rfl, rfl, rfl⟩ rfl ho rfl rfl rfl hl.1 rfl (rcV rc0) rfl dX13_adjourn_28 ⟨Nat.zero_le _, Nat.zero_le _⟩ (fun H locs hH => ?_)
      refine lv_iconst (v := 1) hx hb dX13_adjourn_31 (by decide) ?_
      refine lv_icmp_ne (tgt := 49) hx hb dX13_adjourn_32 (by decide) (fun c8 => ?_) (fun c8 => ?_)
      · replace hf := (if_neg c8).symm.trans hf
        refine lv_iconst (v := 0) hx hb dX13_adjourn_49 (by decide) ?_
        refine lv_iconst (v := 3) hx hb dX13_adjourn_50 (by decide) ?_
        obtain ⟨q9, hq9, hf⟩ := bnd hf
        refine hcV_i hx hb hml hown hts hKs hT hb0 hH (As := [.int 0, .int 3]) (rest := []) (k_X13_may l E K H.size o false 3 q7.2 ho hq9) (gV m7_183 m7_185 ms_61 m1_16 m7_186) hd_X13_may ⟨Nat.le_of_ble_eq_true rfl, Nat.le_of_ble_eq_true rfl, rfl, rfl⟩ rfl ho rfl rfl rfl hl.1 rfl rc0 rfl dX13_adjourn_51 ⟨Nat.zero_le _, Nat.zero_le _⟩ (fun H locs hH => ?_)
        refine lv_if_ne (tgt := 59) hx hb dX13_adjourn_54 (by decide) (fun c10 => ?_) (fun c10 => ?_)
        · replace hf := (if_neg c10).symm.trans hf
          refine hl_aload_n hx hb dX13_adjourn_59 rfl (lv_at hl 0 rfl) ?_
          obtain ⟨q11, hq11, hf⟩ := bnd hf
          refine hcV_v hx hb hml hown hts hKs hT hb0 hH (As := []) (rest := []) (k_X13_starts l E K H.size o q9.2 ho hq11) (gV m8_38 m8_40 ms_80 m1_16 m8_41) hd_X13_starts ⟨Nat.le_of_ble_eq_true rfl, Nat.le_of_ble_eq_true rfl, rfl, rfl⟩ rfl ho rfl rfl rfl hl.1 rfl rc0 rfl dX13_adjourn_60 ⟨Nat.zero_le _, Nat.zero_le _⟩ (fun H locs hH => ?_)
          refine hl_aload_n hx hb dX13_adjourn_63 rfl (lv_at hl 0 rfl) ?_
          refine lv_iload_n hx hb dX13_adjourn_64 rfl (lv_at hl 1 rfl) ?_
          refine lv_iload_n hx hb dX13_adjourn_65 rfl (lv_at hl 2 rfl) ?_
          obtain ⟨q12, hq12, hf⟩ := bnd hf
          refine hcV_v hx hb hml hown hts hKs hT hb0 hH (As := [.int a_1, .int a_2]) (rest := []) (k_X13_takesAway l E K H.size o a_1 a_2 q11 ho hq12) (gV m8_81 m8_83 ms_87 m1_16 m8_84) hd_X13_takesAway ⟨Nat.le_of_ble_eq_true rfl, Nat.le_of_ble_eq_true rfl, rfl, rfl⟩ rfl ho rfl rfl rfl hl.1 rfl rc0 rfl dX13_adjourn_66 ⟨Nat.zero_le _, Nat.zero_le _⟩ (fun H locs hH => ?_)
          refine hl_aload_n hx hb dX13_adjourn_69 rfl (lv_at hl 0 rfl) ?_
          refine hl_aload_n hx hb dX13_adjourn_70 rfl (lv_at hl 0 rfl) ?_
          refine lv_iload_n hx hb dX13_adjourn_71 rfl (lv_at hl 1 rfl) ?_
          obtain ⟨q13, hq13, hf⟩ := bnd hf
          refine hcV_i hx hb hml hown hts hKs hT hb0 hH (As := [.int a_1]) (rest := [rv E (some o)]) (k_X13_limitDay l E K H.size o a_1 q12 ho hq13) (gV m7_122 m7_124 ms_53 m1_16 m7_125) hd_X13_limitDay ⟨Nat.le_of_ble_eq_true rfl, Nat.le_of_ble_eq_true rfl, rfl, rfl⟩ rfl ho rfl rfl rfl hl.1 rfl (rcV rc0) rfl dX13_adjourn_72 ⟨Nat.zero_le _, Nat.zero_le _⟩ (fun H locs hH => ?_)
          obtain ⟨q14, hq14, hf⟩ := bnd hf
          refine hcV_i hx hb hml hown hts hKs hT hb0 hH (As := [.int (q13.1)]) (rest := []) (k_X13_done l E K H.size o q13.1 q13.2 ho hq14) (gV m8_50 m8_52 ms_83 m1_16 m8_53) hd_X13_done ⟨Nat.le_of_ble_eq_true rfl, Nat.le_of_ble_eq_true rfl, rfl, rfl⟩ rfl ho rfl rfl rfl hl.1 rfl rc0 rfl dX13_adjourn_75 ⟨Nat.zero_le _, Nat.zero_le _⟩ (fun H locs hH => ?_)
          exact hw_iret hx hb hret hf hH hlocks dX13_adjourn_78
        · replace hf := (if_pos c10).symm.trans hf
          refine lv_iconst (v := 0) hx hb dX13_adjourn_57 (by decide) ?_
          exact hw_iret hx hb hret hf hH hlocks dX13_adjourn_58
      · replace hf := (if_pos c8).symm.trans hf
        refine hl_aload_n hx hb dX13_adjourn_35 rfl (lv_at hl 0 rfl) ?_
        refine lv_iload_n hx hb dX13_adjourn_36 rfl (lv_at hl 1 rfl) ?_
        refine lv_iconst (v := 2) hx hb dX13_adjourn_37 (by decide) ?_
        obtain ⟨q15, hq15, hf⟩ := bnd hf
        refine hcV_i hx hb hml hown hts hKs hT hb0 hH (As := [.int a_1, .int 2]) (rest := [rv E (some o)]) (k_X13_of l E K H.size o a_1 2 q7.2 ho hq15) (gV m7_126 m7_128 ms_54 m1_16 m7_129) hd_X13_of ⟨Nat.le_of_ble_eq_true rfl, Nat.le_of_ble_eq_true rfl, rfl, rfl⟩ rfl ho rfl rfl rfl hl.1 rfl (rcV rc0) rfl dX13_adjourn_38 ⟨Nat.zero_le _, Nat.zero_le _⟩ (fun H locs hH => ?_)
        refine lv_iconst (v := 5) hx hb dX13_adjourn_41 (by decide) ?_
        refine lv_icmp_ge (tgt := 49) hx hb dX13_adjourn_42 (by decide) (fun c16 => ?_) (fun c16 => ?_)
        · replace hf := (if_pos c16).symm.trans hf
          refine lv_iconst (v := 0) hx hb dX13_adjourn_49 (by decide) ?_
          refine lv_iconst (v := 3) hx hb dX13_adjourn_50 (by decide) ?_
          obtain ⟨q17, hq17, hf⟩ := bnd hf
          refine hcV_i hx hb hml hown hts hKs hT hb0 hH (As := [.int 0, .int 3]) (rest := []) (k_X13_may l E K H.size o false 3 q15.2 ho hq17) (gV m7_183 m7_185 ms_61 m1_16 m7_186) hd_X13_may ⟨Nat.le_of_ble_eq_true rfl, Nat.le_of_ble_eq_true rfl, rfl, rfl⟩ rfl ho rfl rfl rfl hl.1 rfl rc0 rfl dX13_adjourn_51 ⟨Nat.zero_le _, Nat.zero_le _⟩ (fun H locs hH => ?_)
          refine lv_if_ne (tgt := 59) hx hb dX13_adjourn_54 (by decide) (fun c18 => ?_) (fun c18 => ?_)
          · replace hf := (if_neg c18).symm.trans hf
            refine hl_aload_n hx hb dX13_adjourn_59 rfl (lv_at hl 0 rfl) ?_
            obtain ⟨q19, hq19, hf⟩ := bnd hf
            refine hcV_v hx hb hml hown hts hKs hT hb0 hH (As := []) (rest := []) (k_X13_starts l E K H.size o q17.2 ho hq19) (gV m8_38 m8_40 ms_80 m1_16 m8_41) hd_X13_starts ⟨Nat.le_of_ble_eq_true rfl, Nat.le_of_ble_eq_true rfl, rfl, rfl⟩ rfl ho rfl rfl rfl hl.1 rfl rc0 rfl dX13_adjourn_60 ⟨Nat.zero_le _, Nat.zero_le _⟩ (fun H locs hH => ?_)
            refine hl_aload_n hx hb dX13_adjourn_63 rfl (lv_at hl 0 rfl) ?_
            refine lv_iload_n hx hb dX13_adjourn_64 rfl (lv_at hl 1 rfl) ?_
            refine lv_iload_n hx hb dX13_adjourn_65 rfl (lv_at hl 2 rfl) ?_
            obtain ⟨q20, hq20, hf⟩ := bnd hf
            refine hcV_v hx hb hml hown hts hKs hT hb0 hH (As := [.int a_1, .int a_2]) (rest := []) (k_X13_takesAway l E K H.size o a_1 a_2 q19 ho hq20) (gV m8_81 m8_83 ms_87 m1_16 m8_84) hd_X13_takesAway ⟨Nat.le_of_ble_eq_true rfl, Nat.le_of_ble_eq_true rfl, rfl, rfl⟩ rfl ho rfl rfl rfl hl.1 rfl rc0 rfl dX13_adjourn_66 ⟨Nat.zero_le _, Nat.zero_le _⟩ (fun H locs hH => ?_)
            refine hl_aload_n hx hb dX13_adjourn_69 rfl (lv_at hl 0 rfl) ?_
            refine hl_aload_n hx hb dX13_adjourn_70 rfl (lv_at hl 0 rfl) ?_
            refine lv_iload_n hx hb dX13_adjourn_71 rfl (lv_at hl 1 rfl) ?_
            obtain ⟨q21, hq21, hf⟩ := bnd hf
            refine hcV_i hx hb hml hown hts hKs hT hb0 hH (As := [.int a_1]) (rest := [rv E (some o)]) (k_X13_limitDay l E K H.size o a_1 q20 ho hq21) (gV m7_122 m7_124 ms_53 m1_16 m7_125) hd_X13_limitDay ⟨Nat.le_of_ble_eq_true rfl, Nat.le_of_ble_eq_true rfl, rfl, rfl⟩ rfl ho rfl rfl rfl hl.1 rfl (rcV rc0) rfl dX13_adjourn_72 ⟨Nat.zero_le _, Nat.zero_le _⟩ (fun H locs hH => ?_)
            obtain ⟨q22, hq22, hf⟩ := bnd hf
            refine hcV_i hx hb hml hown hts hKs hT hb0 hH (As := [.int (q21.1)]) (rest := []) (k_X13_done l E K H.size o q21.1 q21.2 ho hq22) (gV m8_50 m8_52 ms_83 m1_16 m8_53) hd_X13_done ⟨Nat.le_of_ble_eq_true rfl, Nat.le_of_ble_eq_true rfl, rfl, rfl⟩ rfl ho rfl rfl rfl hl.1 rfl rc0 rfl dX13_adjourn_75 ⟨Nat.zero_le _, Nat.zero_le _⟩ (fun H locs hH => ?_)
            exact hw_iret hx hb hret hf hH hlocks dX13_adjourn_78
          · replace hf := (if_pos c18).symm.trans hf
            refine lv_iconst (v := 0) hx hb dX13_adjourn_57 (by decide) ?_
            exact hw_iret hx hb hret hf hH hlocks dX13_adjourn_58
        · replace hf := (if_neg c16).symm.trans hf
          refine lv_iconst (v := 1) hx hb dX13_adjourn_45 (by decide) ?_
          refine lv_goto (tgt := 50) hx hb dX13_adjourn_46 (by decide) ?_
          refine lv_iconst (v := 3) hx hb dX13_adjourn_50 (by decide) ?_
          obtain ⟨q23, hq23, hf⟩ := bnd hf
          refine hcV_i hx hb hml hown hts hKs hT hb0 hH (As := [.int 1, .int 3]) (rest := []) (k_X13_may l E K H.size o true 3 q15.2 ho hq23) (gV m7_183 m7_185 ms_61 m1_16 m7_186) hd_X13_may ⟨Nat.le_of_ble_eq_true rfl, Nat.le_of_ble_eq_true rfl, rfl, rfl⟩ rfl ho rfl rfl rfl hl.1 rfl rc0 rfl dX13_adjourn_51 ⟨Nat.zero_le _, Nat.zero_le _⟩ (fun H locs hH => ?_)
          refine lv_if_ne (tgt := 59) hx hb dX13_adjourn_54 (by decide) (fun c24 => ?_) (fun c24 => ?_)
          · replace hf := (if_neg c24).symm.trans hf
            refine hl_aload_n hx hb dX13_adjourn_59 rfl (lv_at hl 0 rfl) ?_
            obtain ⟨q25, hq25, hf⟩ := bnd hf
            refine hcV_v hx hb hml hown hts hKs hT hb0 hH (As := []) (rest := []) (k_X13_starts l E K H.size o q23.2 ho hq25) (gV m8_38 m8_40 ms_80 m1_16 m8_41) hd_X13_starts ⟨Nat.le_of_ble_eq_true rfl, Nat.le_of_ble_eq_true rfl, rfl, rfl⟩ rfl ho rfl rfl rfl hl.1 rfl rc0 rfl dX13_adjourn_60 ⟨Nat.zero_le _, Nat.zero_le _⟩ (fun H locs hH => ?_)
            refine hl_aload_n hx hb dX13_adjourn_63 rfl (lv_at hl 0 rfl) ?_
            refine lv_iload_n hx hb dX13_adjourn_64 rfl (lv_at hl 1 rfl) ?_
            refine lv_iload_n hx hb dX13_adjourn_65 rfl (lv_at hl 2 rfl) ?_
            obtain ⟨q26, hq26, hf⟩ := bnd hf
            refine hcV_v hx hb hml hown hts hKs hT hb0 hH (As := [.int a_1, .int a_2]) (rest := []) (k_X13_takesAway l E K H.size o a_1 a_2 q25 ho hq26) (gV m8_81 m8_83 ms_87 m1_16 m8_84) hd_X13_takesAway ⟨Nat.le_of_ble_eq_true rfl, Nat.le_of_ble_eq_true rfl, rfl, rfl⟩ rfl ho rfl rfl rfl hl.1 rfl rc0 rfl dX13_adjourn_66 ⟨Nat.zero_le _, Nat.zero_le _⟩ (fun H locs hH => ?_)
            refine hl_aload_n hx hb dX13_adjourn_69 rfl (lv_at hl 0 rfl) ?_
            refine hl_aload_n hx hb dX13_adjourn_70 rfl (lv_at hl 0 rfl) ?_
            refine lv_iload_n hx hb dX13_adjourn_71 rfl (lv_at hl 1 rfl) ?_
            obtain ⟨q27, hq27, hf⟩ := bnd hf
            refine hcV_i hx hb hml hown hts hKs hT hb0 hH (As := [.int a_1]) (rest := [rv E (some o)]) (k_X13_limitDay l E K H.size o a_1 q26 ho hq27) (gV m7_122 m7_124 ms_53 m1_16 m7_125) hd_X13_limitDay ⟨Nat.le_of_ble_eq_true rfl, Nat.le_of_ble_eq_true rfl, rfl, rfl⟩ rfl ho rfl rfl rfl hl.1 rfl (rcV rc0) rfl dX13_adjourn_72 ⟨Nat.zero_le _, Nat.zero_le _⟩ (fun H locs hH => ?_)
            obtain ⟨q28, hq28, hf⟩ := bnd hf
            refine hcV_i hx hb hml hown hts hKs hT hb0 hH (As := [.int (q27.1)]) (rest := []) (k_X13_done l E K H.size o q27.1 q27.2 ho hq28) (gV m8_50 m8_52 ms_83 m1_16 m8_53) hd_X13_done ⟨Nat.le_of_ble_eq_true rfl, Nat.le_of_ble_eq_true rfl, rfl, rfl⟩ rfl ho rfl rfl rfl hl.1 rfl rc0 rfl dX13_adjourn_75 ⟨Nat.zero_le _, Nat.zero_le _⟩ (fun H locs hH => ?_)
            exact hw_iret hx hb hret hf hH hlocks dX13_adjourn_78
          · replace hf := (if_pos c24).symm.trans hf
            refine lv_iconst (v := 0) hx hb dX13_adjourn_57 (by decide) ?_
            exact hw_iret hx hb hret hf hH hlocks dX13_adjourn_58

theorem dX13_withdraw_0 : decode cX13_withdraw 0 = .ok (.aload_n 0, 1) := by decide +kernel
theorem dX13_withdraw_1 : decode cX13_withdraw 1 = .ok (.aload_n 0, 1) := by decide +kernel
theorem dX13_withdraw_2 : decode cX13_withdraw 2 = .ok (.iload_n 1, 1) := by decide +kernel
theorem dX13_withdraw_3 : decode cX13_withdraw 3 = .ok (.invokevirtual 286, 3) := by decide +kernel
theorem dX13_withdraw_6 : decode cX13_withdraw 6 = .ok (.invokevirtual 110, 3) := by decide +kernel
theorem dX13_withdraw_9 : decode cX13_withdraw 9 = .ok (.ifCond .eq 26, 3) := by decide +kernel
theorem dX13_withdraw_12 : decode cX13_withdraw 12 = .ok (.aload_n 0, 1) := by decide +kernel
theorem dX13_withdraw_13 : decode cX13_withdraw 13 = .ok (.iload_n 2, 1) := by decide +kernel
theorem dX13_withdraw_14 : decode cX13_withdraw 14 = .ok (.i2l, 1) := by decide +kernel
theorem dX13_withdraw_15 : decode cX13_withdraw 15 = .ok (.aload_n 0, 1) := by decide +kernel
theorem dX13_withdraw_16 : decode cX13_withdraw 16 = .ok (.getfield 16, 3) := by decide +kernel
theorem dX13_withdraw_19 : decode cX13_withdraw 19 = .ok (.iconst 0, 1) := by decide +kernel
theorem dX13_withdraw_20 : decode cX13_withdraw 20 = .ok (.iaload, 1) := by decide +kernel
theorem dX13_withdraw_21 : decode cX13_withdraw 21 = .ok (.i2l, 1) := by decide +kernel
theorem dX13_withdraw_22 : decode cX13_withdraw 22 = .ok (.ldc2_w 121, 3) := by decide +kernel
theorem dX13_withdraw_25 : decode cX13_withdraw 25 = .ok (.invokestatic 123, 3) := by decide +kernel
theorem dX13_withdraw_28 : decode cX13_withdraw 28 = .ok (.iconst 2, 1) := by decide +kernel
theorem dX13_withdraw_29 : decode cX13_withdraw 29 = .ok (.invokevirtual 214, 3) := by decide +kernel
theorem dX13_withdraw_32 : decode cX13_withdraw 32 = .ok (.ifCond .ne 5, 3) := by decide +kernel
theorem dX13_withdraw_35 : decode cX13_withdraw 35 = .ok (.iconst 0, 1) := by decide +kernel
theorem dX13_withdraw_36 : decode cX13_withdraw 36 = .ok (.ireturn, 1) := by decide +kernel
theorem dX13_withdraw_37 : decode cX13_withdraw 37 = .ok (.aload_n 0, 1) := by decide +kernel
theorem dX13_withdraw_38 : decode cX13_withdraw 38 = .ok (.invokevirtual 262, 3) := by decide +kernel
theorem dX13_withdraw_41 : decode cX13_withdraw 41 = .ok (.aload_n 0, 1) := by decide +kernel
theorem dX13_withdraw_42 : decode cX13_withdraw 42 = .ok (.getfield 16, 3) := by decide +kernel
theorem dX13_withdraw_45 : decode cX13_withdraw 45 = .ok (.bipush 22, 2) := by decide +kernel
theorem dX13_withdraw_47 : decode cX13_withdraw 47 = .ok (.iload_n 1, 1) := by decide +kernel
theorem dX13_withdraw_48 : decode cX13_withdraw 48 = .ok (.iadd, 1) := by decide +kernel
theorem dX13_withdraw_49 : decode cX13_withdraw 49 = .ok (.iaload, 1) := by decide +kernel
theorem dX13_withdraw_50 : decode cX13_withdraw 50 = .ok (.iload_n 2, 1) := by decide +kernel
theorem dX13_withdraw_51 : decode cX13_withdraw 51 = .ok (.iconst 1, 1) := by decide +kernel
theorem dX13_withdraw_52 : decode cX13_withdraw 52 = .ok (.isub, 1) := by decide +kernel
theorem dX13_withdraw_53 : decode cX13_withdraw 53 = .ok (.if_icmp .le 15, 3) := by decide +kernel
theorem dX13_withdraw_56 : decode cX13_withdraw 56 = .ok (.aload_n 0, 1) := by decide +kernel
theorem dX13_withdraw_57 : decode cX13_withdraw 57 = .ok (.getfield 16, 3) := by decide +kernel
theorem dX13_withdraw_60 : decode cX13_withdraw 60 = .ok (.bipush 22, 2) := by decide +kernel
theorem dX13_withdraw_62 : decode cX13_withdraw 62 = .ok (.iload_n 1, 1) := by decide +kernel
theorem dX13_withdraw_63 : decode cX13_withdraw 63 = .ok (.iadd, 1) := by decide +kernel
theorem dX13_withdraw_64 : decode cX13_withdraw 64 = .ok (.iload_n 2, 1) := by decide +kernel
theorem dX13_withdraw_65 : decode cX13_withdraw 65 = .ok (.iconst 1, 1) := by decide +kernel
theorem dX13_withdraw_66 : decode cX13_withdraw 66 = .ok (.isub, 1) := by decide +kernel
theorem dX13_withdraw_67 : decode cX13_withdraw 67 = .ok (.iastore, 1) := by decide +kernel
theorem dX13_withdraw_68 : decode cX13_withdraw 68 = .ok (.iconst 0, 1) := by decide +kernel
theorem dX13_withdraw_69 : decode cX13_withdraw 69 = .ok (.istore_n 3, 1) := by decide +kernel
theorem dX13_withdraw_70 : decode cX13_withdraw 70 = .ok (.iconst 0, 1) := by decide +kernel
theorem dX13_withdraw_71 : decode cX13_withdraw 71 = .ok (.istore 4, 2) := by decide +kernel
theorem dX13_withdraw_73 : decode cX13_withdraw 73 = .ok (.iload 4, 2) := by decide +kernel
theorem dX13_withdraw_75 : decode cX13_withdraw 75 = .ok (.aload_n 0, 1) := by decide +kernel
theorem dX13_withdraw_76 : decode cX13_withdraw 76 = .ok (.getfield 7, 3) := by decide +kernel
theorem dX13_withdraw_79 : decode cX13_withdraw 79 = .ok (.iconst 3, 1) := by decide +kernel
theorem dX13_withdraw_80 : decode cX13_withdraw 80 = .ok (.iaload, 1) := by decide +kernel
theorem dX13_withdraw_81 : decode cX13_withdraw 81 = .ok (.if_icmp .ge 63, 3) := by decide +kernel
theorem dX13_withdraw_84 : decode cX13_withdraw 84 = .ok (.aload_n 0, 1) := by decide +kernel
theorem dX13_withdraw_85 : decode cX13_withdraw 85 = .ok (.iload 4, 2) := by decide +kernel
theorem dX13_withdraw_87 : decode cX13_withdraw 87 = .ok (.iconst 0, 1) := by decide +kernel
theorem dX13_withdraw_88 : decode cX13_withdraw 88 = .ok (.invokevirtual 141, 3) := by decide +kernel
theorem dX13_withdraw_91 : decode cX13_withdraw 91 = .ok (.iconst 1, 1) := by decide +kernel
theorem dX13_withdraw_92 : decode cX13_withdraw 92 = .ok (.if_icmp .ne 46, 3) := by decide +kernel
theorem dX13_withdraw_95 : decode cX13_withdraw 95 = .ok (.aload_n 0, 1) := by decide +kernel
theorem dX13_withdraw_96 : decode cX13_withdraw 96 = .ok (.iload 4, 2) := by decide +kernel
theorem dX13_withdraw_98 : decode cX13_withdraw 98 = .ok (.iconst 3, 1) := by decide +kernel
theorem dX13_withdraw_99 : decode cX13_withdraw 99 = .ok (.invokevirtual 141, 3) := by decide +kernel
theorem dX13_withdraw_102 : decode cX13_withdraw 102 = .ok (.iload_n 2, 1) := by decide +kernel
theorem dX13_withdraw_103 : decode cX13_withdraw 103 = .ok (.if_icmp .lt 35, 3) := by decide +kernel
theorem dX13_withdraw_106 : decode cX13_withdraw 106 = .ok (.aload_n 0, 1) := by decide +kernel
theorem dX13_withdraw_107 : decode cX13_withdraw 107 = .ok (.getfield 7, 3) := by decide +kernel
theorem dX13_withdraw_110 : decode cX13_withdraw 110 = .ok (.sipush 136, 3) := by decide +kernel
theorem dX13_withdraw_113 : decode cX13_withdraw 113 = .ok (.iload 4, 2) := by decide +kernel
theorem dX13_withdraw_115 : decode cX13_withdraw 115 = .ok (.iadd, 1) := by decide +kernel
theorem dX13_withdraw_116 : decode cX13_withdraw 116 = .ok (.iaload, 1) := by decide +kernel
theorem dX13_withdraw_117 : decode cX13_withdraw 117 = .ok (.iload_n 1, 1) := by decide +kernel
theorem dX13_withdraw_118 : decode cX13_withdraw 118 = .ok (.invokestatic 167, 3) := by decide +kernel
theorem dX13_withdraw_121 : decode cX13_withdraw 121 = .ok (.ifCond .ne 6, 3) := by decide +kernel
theorem dX13_withdraw_124 : decode cX13_withdraw 124 = .ok (.goto 14, 3) := by decide +kernel
theorem dX13_withdraw_127 : decode cX13_withdraw 127 = .ok (.aload_n 0, 1) := by decide +kernel
theorem dX13_withdraw_128 : decode cX13_withdraw 128 = .ok (.iload 4, 2) := by decide +kernel
theorem dX13_withdraw_130 : decode cX13_withdraw 130 = .ok (.iconst 0, 1) := by decide +kernel
theorem dX13_withdraw_131 : decode cX13_withdraw 131 = .ok (.invokevirtual 282, 3) := by decide +kernel
theorem dX13_withdraw_134 : decode cX13_withdraw 134 = .ok (.iload_n 3, 1) := by decide +kernel
theorem dX13_withdraw_135 : decode cX13_withdraw 135 = .ok (.iconst 1, 1) := by decide +kernel
theorem dX13_withdraw_136 : decode cX13_withdraw 136 = .ok (.iadd, 1) := by decide +kernel
theorem dX13_withdraw_137 : decode cX13_withdraw 137 = .ok (.istore_n 3, 1) := by decide +kernel
theorem dX13_withdraw_138 : decode cX13_withdraw 138 = .ok (.iinc 4 1, 3) := by decide +kernel
theorem dX13_withdraw_141 : decode cX13_withdraw 141 = .ok (.goto (-68), 3) := by decide +kernel
theorem dX13_withdraw_144 : decode cX13_withdraw 144 = .ok (.aload_n 0, 1) := by decide +kernel
theorem dX13_withdraw_145 : decode cX13_withdraw 145 = .ok (.iload_n 3, 1) := by decide +kernel
theorem dX13_withdraw_146 : decode cX13_withdraw 146 = .ok (.invokevirtual 269, 3) := by decide +kernel
theorem dX13_withdraw_149 : decode cX13_withdraw 149 = .ok (.ireturn, 1) := by decide +kernel
theorem hd_X13_withdraw : yX13_withdraw.cls = RX13 ∧ yX13_withdraw.cls ≠ "java/lang/invoke/MethodHandle" ∧ yX13_withdraw.cls ≠ "java/lang/invoke/VarHandle" ∧ (parseMethodDescriptor yX13_withdraw.desc).map (fun d => d.parameters.length) = some 2 := by decide +kernel
theorem hs_X13_withdraw : yX13_withdraw.cls ≠ "java/lang/invoke/MethodHandle" ∧ yX13_withdraw.cls ≠ "java/lang/invoke/VarHandle" ∧ (parseMethodDescriptor yX13_withdraw.desc).map (fun d => d.parameters.length) = some 2 := by decide +kernel
set_option maxHeartbeats 4000000 in
set_option maxRecDepth 100000 in
theorem l_X13_withdraw_L73 (C : CX p l e s m args meth c cX13_withdraw 5 RX13 (Option.some Jvm.ClassFile.FieldType.int) E) {o : Nat} (ho : K o = some (11, 0)) {r : Int32} {w' : Wd} (k : Int32 → Int32 → Int32 → Int32 → Wd → Option (Int32 × Wd)) (hk : ∀ (v1_73 : Int32) (v2_73 : Int32) (v3_73 : Int32) (v4_73 : Int32) (w : Wd) (H : Heap) (locs : List Loc) (ls : Array Slot), HQ E K z w s H locs → lv_has ls 5 [(1, .int v1_73), (2, .int v2_73), (3, .int v3_73), (4, .int v4_73), (0, rv E (some o))] → k v1_73 v2_73 v3_73 v4_73 w = some (r, w') → W p l e ({ frames := 3, cells := 0, slots := 0, locals := 70 } : Room) s m args below meth c H locs 0 0 (MQ below (QI E K z w' r) args s 0 0 (hA E)) (F0 m 144 ls [])) : ∀ (n : Nat) (v1_73 : Int32) (v2_73 : Int32) (v3_73 : Int32) (v4_73 : Int32) (w : Wd) (H : Heap) (locs : List Loc) (ls : Array Slot), HQ E K z w s H locs → lv_has ls 5 [(1, .int v1_73), (2, .int v2_73), (3, .int v3_73), (4, .int v4_73), (0, rv E (some o))] → f_X13_withdraw_L73 K o k n v1_73 v2_73 v3_73 v4_73 w = some (r, w') → W p l e ({ frames := 3, cells := 0, slots := 0, locals := 70 } : Room) s m args below meth c H locs 0 0 (MQ below (QI E K z w' r) args s 0 0 (hA E)) (F0 m 73 ls []) := by
  obtain ⟨hx, hb, hml, hown, hts, hKs, hT, hb0, hlocks, hret⟩ := id C
  intro n
  induction n with
  | zero =>
    intro v1_73 v2_73 v3_73 v4_73 w H locs ls hH hl hf
    cases hf
  | succ n ih =>
    intro v1_73 v2_73 v3_73 v4_73 w H locs ls hH hl hf
    rw [f_X13_withdraw_L73] at hf
    refine lv_iload hx hb dX13_withdraw_73 (lv_at hl 3 rfl) ?_
    refine hl_aload_n hx hb dX13_withdraw_75 rfl (lv_at hl 4 rfl) ?_
    refine g13_1 hx hb hts hown hKs hH rfl ho m6_182 dX13_withdraw_76 ?_
    refine lv_iconst (v := 3) hx hb dX13_withdraw_79 (by decide) ?_
    obtain ⟨a14, ha14, hf⟩ := bnd hf
    replace ha14 := cha_some ha14
    obtain ⟨j15, hj15, hf⟩ := bnd hf
    refine hw_iald hx hb hKs hH ha14.1 ha14.2 hj15 dX13_withdraw_80 ?_
    refine lv_icmp_ge (tgt := 144) hx hb dX13_withdraw_81 (by decide) (fun c16 => ?_) (fun c16 => ?_)
    · replace hf := (if_pos c16).symm.trans hf
      exact hk v1_73 v2_73 v3_73 v4_73 _ _ _ _ hH (lv_sub hl [0, 1, 2, 3, 4] rfl) hf
    · replace hf := (if_neg c16).symm.trans hf
      refine hl_aload_n hx hb dX13_withdraw_84 rfl (lv_at hl 4 rfl) ?_
      refine lv_iload hx hb dX13_withdraw_85 (lv_at hl 3 rfl) ?_
      refine lv_iconst (v := 0) hx hb dX13_withdraw_87 (by decide) ?_
      obtain ⟨q17, hq17, hf⟩ := bnd hf
      refine hcV_i hx hb hml hown hts hKs hT hb0 hH (As := [.int v4_73, .int 0]) (rest := []) (k_X13_of l E K H.size o v4_73 0 w ho hq17) (gV m7_126 m7_128 ms_54 m1_16 m7_129) hd_X13_of ⟨Nat.le_of_ble_eq_true rfl, Nat.le_of_ble_eq_true rfl, rfl, rfl⟩ rfl ho rfl rfl rfl hl.1 rfl rc0 rfl dX13_withdraw_88 ⟨Nat.zero_le _, Nat.zero_le _⟩ (fun H locs hH => ?_)
      refine lv_iconst (v := 1) hx hb dX13_withdraw_91 (by decide) ?_
      refine lv_icmp_ne (tgt := 138) hx hb dX13_withdraw_92 (by decide) (fun c18 => ?_) (fun c18 => ?_)
      · replace hf := (if_neg c18).symm.trans hf
        refine lv_iinc (v := (v4_73 + 1)) (lv' := [(4, .int ((v4_73 + 1))), (1, .int v1_73), (2, .int v2_73), (3, .int v3_73), (0, rv E (some o))]) hx hb dX13_withdraw_138 hl (k := 3) rfl rfl (by decide) rfl (fun ls hl => ?_)
        refine lv_goto (tgt := 73) hx hb dX13_withdraw_141 (by decide) ?_
        exact ih v1_73 v2_73 v3_73 (v4_73 + 1) _ _ _ _ hH (lv_sub hl [1, 2, 3, 0, 4] rfl) hf
      · replace hf := (if_pos c18).symm.trans hf
        refine hl_aload_n hx hb dX13_withdraw_95 rfl (lv_at hl 4 rfl) ?_
        refine lv_iload hx hb dX13_withdraw_96 (lv_at hl 3 rfl) ?_
        refine lv_iconst (v := 3) hx hb dX13_withdraw_98 (by decide) ?_
        obtain ⟨q19, hq19, hf⟩ := bnd hf
        refine hcV_i hx hb hml hown hts hKs hT hb0 hH (As := [.int v4_73, .int 3]) (rest := []) (k_X13_of l E K H.size o v4_73 3 q17.2 ho hq19) (gV m7_126 m7_128 ms_54 m1_16 m7_129) hd_X13_of ⟨Nat.le_of_ble_eq_true rfl, Nat.le_of_ble_eq_true rfl, rfl, rfl⟩ rfl ho rfl rfl rfl hl.1 rfl rc0 rfl dX13_withdraw_99 ⟨Nat.zero_le _, Nat.zero_le _⟩ (fun H locs hH => ?_)
        refine lv_iload_n hx hb dX13_withdraw_102 rfl (lv_at hl 1 rfl) ?_
        refine lv_icmp_lt (tgt := 138) hx hb dX13_withdraw_103 (by decide) (fun c20 => ?_) (fun c20 => ?_)
        · replace hf := (if_pos c20).symm.trans hf
          refine lv_iinc (v := (v4_73 + 1)) (lv' := [(4, .int ((v4_73 + 1))), (1, .int v1_73), (2, .int v2_73), (3, .int v3_73), (0, rv E (some o))]) hx hb dX13_withdraw_138 hl (k := 3) rfl rfl (by decide) rfl (fun ls hl => ?_)
          refine lv_goto (tgt := 73) hx hb dX13_withdraw_141 (by decide) ?_
          exact ih v1_73 v2_73 v3_73 (v4_73 + 1) _ _ _ _ hH (lv_sub hl [1, 2, 3, 0, 4] rfl) hf
        · replace hf := (if_neg c20).symm.trans hf
          refine hl_aload_n hx hb dX13_withdraw_106 rfl (lv_at hl 4 rfl) ?_
          refine g13_1 hx hb hts hown hKs hH rfl ho m6_182 dX13_withdraw_107 ?_
          refine lv_sipush (v := 136) hx hb dX13_withdraw_110 (by decide) ?_
          refine lv_iload hx hb dX13_withdraw_113 (lv_at hl 3 rfl) ?_
          refine lv_iadd hx hb dX13_withdraw_115 ?_
          obtain ⟨a21, ha21, hf⟩ := bnd hf
          replace ha21 := cha_some ha21
          obtain ⟨j22, hj22, hf⟩ := bnd hf
          refine hw_iald hx hb hKs hH ha21.1 ha21.2 hj22 dX13_withdraw_116 ?_
          refine lv_iload_n hx hb dX13_withdraw_117 rfl (lv_at hl 0 rfl) ?_
          obtain ⟨q23, hq23, hf⟩ := bnd hf
          refine hcS_i hx hb hml hown hts hKs hT hb0 hH (As := [.int ((aI q19.2 a21.1 j22)), .int v1_73]) (rest := []) (k_X13_has l E K H.size (aI q19.2 a21.1 j22) v1_73 q19.2 hq23) (gS m7_223 m7_224 m1_16 m7_225) hs_X13_has ⟨Nat.le_of_ble_eq_true rfl, Nat.le_of_ble_eq_true rfl, rfl, rfl⟩ hl.1 rfl rc0 rfl dX13_withdraw_118 ⟨Nat.zero_le _, Nat.zero_le _⟩ (fun H locs hH => ?_)
          refine lv_if_ne (tgt := 127) hx hb dX13_withdraw_121 (by decide) (fun c24 => ?_) (fun c24 => ?_)
          · replace hf := (if_neg c24).symm.trans hf
            refine hl_aload_n hx hb dX13_withdraw_127 rfl (lv_at hl 4 rfl) ?_
            refine lv_iload hx hb dX13_withdraw_128 (lv_at hl 3 rfl) ?_
            refine lv_iconst (v := 0) hx hb dX13_withdraw_130 (by decide) ?_
            obtain ⟨q25, hq25, hf⟩ := bnd hf
            refine hcV_v hx hb hml hown hts hKs hT hb0 hH (As := [.int v4_73, .int 0]) (rest := []) (k_X13_takesAway l E K H.size o v4_73 0 q23.2 ho hq25) (gV m8_81 m8_83 ms_87 m1_16 m8_84) hd_X13_takesAway ⟨Nat.le_of_ble_eq_true rfl, Nat.le_of_ble_eq_true rfl, rfl, rfl⟩ rfl ho rfl rfl rfl hl.1 rfl rc0 rfl dX13_withdraw_131 ⟨Nat.zero_le _, Nat.zero_le _⟩ (fun H locs hH => ?_)
            refine lv_iload_n hx hb dX13_withdraw_134 rfl (lv_at hl 2 rfl) ?_
            refine lv_iconst (v := 1) hx hb dX13_withdraw_135 (by decide) ?_
            refine lv_iadd hx hb dX13_withdraw_136 ?_
            refine lv_istore_n (i := 3) (lv' := [(3, .int ((v3_73 + 1))), (1, .int v1_73), (2, .int v2_73), (4, .int v4_73), (0, rv E (some o))]) hx hb dX13_withdraw_137 rfl hl (by decide) rfl (fun ls hl => ?_)
            refine lv_iinc (v := (v4_73 + 1)) (lv' := [(4, .int ((v4_73 + 1))), (3, .int ((v3_73 + 1))), (1, .int v1_73), (2, .int v2_73), (0, rv E (some o))]) hx hb dX13_withdraw_138 hl (k := 3) rfl rfl (by decide) rfl (fun ls hl => ?_)
            refine lv_goto (tgt := 73) hx hb dX13_withdraw_141 (by decide) ?_
            exact ih v1_73 v2_73 (v3_73 + 1) (v4_73 + 1) _ _ _ _ hH (lv_sub hl [2, 3, 1, 0, 4] rfl) hf
          · replace hf := (if_pos c24).symm.trans hf
            refine lv_goto (tgt := 138) hx hb dX13_withdraw_124 (by decide) ?_
            refine lv_iinc (v := (v4_73 + 1)) (lv' := [(4, .int ((v4_73 + 1))), (1, .int v1_73), (2, .int v2_73), (3, .int v3_73), (0, rv E (some o))]) hx hb dX13_withdraw_138 hl (k := 3) rfl rfl (by decide) rfl (fun ls hl => ?_)
            refine lv_goto (tgt := 73) hx hb dX13_withdraw_141 (by decide) ?_
            exact ih v1_73 v2_73 v3_73 (v4_73 + 1) _ _ _ _ hH (lv_sub hl [1, 2, 3, 0, 4] rfl) hf
set_option maxHeartbeats 4000000 in
set_option maxRecDepth 100000 in
theorem k_X13_withdraw (l : Launch) (E : Ev) (K : Kd) (z : Nat) (o : Nat) (a_1 : Int32) (a_2 : Int32) (w : Wd) (ho : K o = some (11, 0)) {r : Int32} {w' : Wd} (hf : f_X13_withdraw K o a_1 a_2 w = some (r, w')) : Met l yX13_withdraw (Cond.code yX13_withdraw cX13_withdraw 5 (Option.some Jvm.ClassFile.FieldType.int) :: bt) ({ frames := 3, cells := 0, slots := 0, locals := 70 } : Room) (va_Pc [rv E (some o), .int a_1, .int a_2] (HB E K w z)) (QI E K z w' r) 0 0 (hA E) := by
  refine Met.ofW (cc := cX13_withdraw) (maxL := 5) (ret := (Option.some Jvm.ClassFile.FieldType.int)) (by decide) rfl ?_
  intro p e s m args below meth c s₁ B hml hv
  obtain ⟨rfl, hz, hP, hKs, hT, hb0⟩ := hv
  have C : CX p l e s m _ meth c cX13_withdraw 5 RX13 (Option.some Jvm.ClassFile.FieldType.int) E := ⟨B.exec, B.bytes, hml, findClass_of_methodNamed B.named, fun w h => atoms_spec (ws := Cond.code yX13_withdraw cX13_withdraw 5 (Option.some Jvm.ClassFile.FieldType.int) :: bt) B.pre w (List.mem_cons_of_mem _ h), hKs, hT, by rw [hz]; exact hb0, B.notSynchronized, B.returns⟩
  have hH : HQ E K z w s s.heap [] := ⟨hP, va_S.rf, hz⟩
  obtain ⟨hx, hb, hml, hown, hts, hKs, hT, hb0, hlocks, hret⟩ := id C
  have hl := lv_entry [rv E (some o), .int a_1, .int a_2] (n := 5) (by simp [lg_len_nil, lg_len_i, lg_len_j, lg_len_q, lg_len_f, lg_len_d, lg_len_r])
  rw [lg_entry_eq]
  generalize (lg_sl [rv E (some o), .int a_1, .int a_2] ++ List.replicate (5 - (lg_sl [rv E (some o), .int a_1, .int a_2]).length) Slot.unset).toArray = ls at hl ⊢
  replace hl : lv_has ls 5 [(0, rv E (some o)), (1, .int a_1), (2, .int a_2)] := by simpa only [lv_args, cat_q, cat_i, cat_j, reduceIte, Nat.reduceEqDiff, Nat.reduceAdd, Nat.zero_add] using hl
  generalize s.heap = H at hH ⊢
  unfold f_X13_withdraw at hf
  refine hl_aload_n hx hb dX13_withdraw_0 rfl (lv_at hl 0 rfl) ?_
  refine hl_aload_n hx hb dX13_withdraw_1 rfl (lv_at hl 0 rfl) ?_
  refine lv_iload_n hx hb dX13_withdraw_2 rfl (lv_at hl 1 rfl) ?_
  obtain ⟨q1, hq1, hf⟩ := bnd hf
  refine hcV_i hx hb hml hown hts hKs hT hb0 hH (As := [.int a_1]) (rest := [rv E (some o)]) (k_X13_isWitness l E K H.size o a_1 w ho hq1) (gV m8_89 m8_91 ms_88 m1_16 m8_92) hd_X13_isWitness ⟨Nat.le_of_ble_eq_true rfl, Nat.le_of_ble_eq_true rfl, rfl, rfl⟩ rfl ho rfl rfl rfl hl.1 rfl (rcV rc0) rfl dX13_withdraw_3 ⟨Nat.zero_le _, Nat.zero_le _⟩ (fun H locs hH => ?_)
  obtain ⟨q2, hq2, hf⟩ := bnd hf
  refine hcV_i hx hb hml hown hts hKs hT hb0 hH (As := [.int (b2i q1.1)]) (rest := []) (k_X13_is l E K H.size o q1.1 q1.2 ho hq2) (gV m7_68 m7_70 ms_47 m1_16 m7_71) hd_X13_is ⟨Nat.le_of_ble_eq_true rfl, Nat.le_of_ble_eq_true rfl, rfl, rfl⟩ rfl ho rfl rfl rfl hl.1 rfl rc0 rfl dX13_withdraw_6 ⟨Nat.zero_le _, Nat.zero_le _⟩ (fun H locs hH => ?_)
  refine lv_if_eq (tgt := 35) hx hb dX13_withdraw_9 (by decide) (fun c3 => ?_) (fun c3 => ?_)
  · replace hf := (if_pos c3).symm.trans hf
    refine lv_iconst (v := 0) hx hb dX13_withdraw_35 (by decide) ?_
    exact hw_iret hx hb hret hf hH hlocks dX13_withdraw_36
  · replace hf := (if_neg c3).symm.trans hf
    refine hl_aload_n hx hb dX13_withdraw_12 rfl (lv_at hl 0 rfl) ?_
    refine lv_iload_n hx hb dX13_withdraw_13 rfl (lv_at hl 2 rfl) ?_
    refine lv_i2l (v := (a_2.toInt64)) hx hb dX13_withdraw_14 rfl ?_
    refine hl_aload_n hx hb dX13_withdraw_15 rfl (lv_at hl 0 rfl) ?_
    refine g13_3 hx hb hts hown hKs hH rfl ho m6_184 dX13_withdraw_16 ?_
    refine lv_iconst (v := 0) hx hb dX13_withdraw_19 (by decide) ?_
    obtain ⟨a4, ha4, hf⟩ := bnd hf
    replace ha4 := cha_some ha4
    obtain ⟨j5, hj5, hf⟩ := bnd hf
    refine hw_iald hx hb hKs hH ha4.1 ha4.2 hj5 dX13_withdraw_20 ?_
    refine lv_i2l (v := ((aI q2.2 a4.1 j5).toInt64)) hx hb dX13_withdraw_21 rfl ?_
    refine lv_ldc2 (v := 599) hx hb hown (hts _ m7_87) dX13_withdraw_22 ?_
    obtain ⟨q6, hq6, hf⟩ := bnd hf
    refine hcS_i hx hb hml hown hts hKs hT hb0 hH (As := [.long (a_2.toInt64), .long ((aI q2.2 a4.1 j5).toInt64), .long 599]) (rest := [rv E (some o)]) (k_X13_isIn l E K H.size (a_2.toInt64) ((aI q2.2 a4.1 j5).toInt64) 599 q2.2 hq6) (gS m7_88 m7_89 m1_16 m7_90) hs_X13_isIn ⟨Nat.le_of_ble_eq_true rfl, Nat.le_of_ble_eq_true rfl, rfl, rfl⟩ hl.1 rfl (rcV rc0) rfl dX13_withdraw_25 ⟨Nat.zero_le _, Nat.zero_le _⟩ (fun H locs hH => ?_)
    refine lv_iconst (v := 2) hx hb dX13_withdraw_28 (by decide) ?_
    obtain ⟨q7, hq7, hf⟩ := bnd hf
    refine hcV_i hx hb hml hown hts hKs hT hb0 hH (As := [.int (b2i q6.1), .int 2]) (rest := []) (k_X13_may l E K H.size o q6.1 2 q6.2 ho hq7) (gV m7_183 m7_185 ms_61 m1_16 m7_186) hd_X13_may ⟨Nat.le_of_ble_eq_true rfl, Nat.le_of_ble_eq_true rfl, rfl, rfl⟩ rfl ho rfl rfl rfl hl.1 rfl rc0 rfl dX13_withdraw_29 ⟨Nat.zero_le _, Nat.zero_le _⟩ (fun H locs hH => ?_)
    refine lv_if_ne (tgt := 37) hx hb dX13_withdraw_32 (by decide) (fun c8 => ?_) (fun c8 => ?_)
    · replace hf := (if_neg c8).symm.trans hf
      refine hl_aload_n hx hb dX13_withdraw_37 rfl (lv_at hl 0 rfl) ?_
      obtain ⟨q9, hq9, hf⟩ := bnd hf
      refine hcV_v hx hb hml hown hts hKs hT hb0 hH (As := []) (rest := []) (k_X13_starts l E K H.size o q7.2 ho hq9) (gV m8_38 m8_40 ms_80 m1_16 m8_41) hd_X13_starts ⟨Nat.le_of_ble_eq_true rfl, Nat.le_of_ble_eq_true rfl, rfl, rfl⟩ rfl ho rfl rfl rfl hl.1 rfl rc0 rfl dX13_withdraw_38 ⟨Nat.zero_le _, Nat.zero_le _⟩ (fun H locs hH => ?_)
      refine hl_aload_n hx hb dX13_withdraw_41 rfl (lv_at hl 0 rfl) ?_
      refine g13_3 hx hb hts hown hKs hH rfl ho m6_184 dX13_withdraw_42 ?_
      refine lv_bipush (v := 22) hx hb dX13_withdraw_45 (by decide) ?_
      refine lv_iload_n hx hb dX13_withdraw_47 rfl (lv_at hl 1 rfl) ?_
      refine lv_iadd hx hb dX13_withdraw_48 ?_
      obtain ⟨a10, ha10, hf⟩ := bnd hf
      replace ha10 := cha_some ha10
      obtain ⟨j11, hj11, hf⟩ := bnd hf
      refine hw_iald hx hb hKs hH ha10.1 ha10.2 hj11 dX13_withdraw_49 ?_
      refine lv_iload_n hx hb dX13_withdraw_50 rfl (lv_at hl 2 rfl) ?_
      refine lv_iconst (v := 1) hx hb dX13_withdraw_51 (by decide) ?_
      refine lv_isub hx hb dX13_withdraw_52 ?_
      refine lv_icmp_le (tgt := 68) hx hb dX13_withdraw_53 (by decide) (fun c12 => ?_) (fun c12 => ?_)
      · replace hf := (if_pos c12).symm.trans hf
        refine lv_iconst (v := 0) hx hb dX13_withdraw_68 (by decide) ?_
        refine lv_istore_n (i := 3) (lv' := [(3, .int 0), (0, rv E (some o)), (1, .int a_1), (2, .int a_2)]) hx hb dX13_withdraw_69 rfl hl (by decide) rfl (fun ls hl => ?_)
        refine lv_iconst (v := 0) hx hb dX13_withdraw_70 (by decide) ?_
        refine lv_istore (i := 4) (lv' := [(4, .int 0), (3, .int 0), (0, rv E (some o)), (1, .int a_1), (2, .int a_2)]) hx hb dX13_withdraw_71 hl (by decide) rfl (fun ls hl => ?_)
        refine l_X13_withdraw_L73  C ho _ (fun v1_73 v2_73 v3_73 v4_73 w13 H locs ls hH hl hf => ?_) fu a_1 a_2 0 0 q9 _ _ _ hH (lv_sub hl [3, 4, 1, 0, 2] rfl) hf
        refine hl_aload_n hx hb dX13_withdraw_144 rfl (lv_at hl 4 rfl) ?_
        refine lv_iload_n hx hb dX13_withdraw_145 rfl (lv_at hl 2 rfl) ?_
        obtain ⟨q26, hq26, hf⟩ := bnd hf
        refine hcV_i hx hb hml hown hts hKs hT hb0 hH (As := [.int v3_73]) (rest := []) (k_X13_done l E K H.size o v3_73 w13 ho hq26) (gV m8_50 m8_52 ms_83 m1_16 m8_53) hd_X13_done ⟨Nat.le_of_ble_eq_true rfl, Nat.le_of_ble_eq_true rfl, rfl, rfl⟩ rfl ho rfl rfl rfl hl.1 rfl rc0 rfl dX13_withdraw_146 ⟨Nat.zero_le _, Nat.zero_le _⟩ (fun H locs hH => ?_)
        exact hw_iret hx hb hret hf hH hlocks dX13_withdraw_149
      · replace hf := (if_neg c12).symm.trans hf
        refine hl_aload_n hx hb dX13_withdraw_56 rfl (lv_at hl 0 rfl) ?_
        refine g13_3 hx hb hts hown hKs hH rfl ho m6_184 dX13_withdraw_57 ?_
        refine lv_bipush (v := 22) hx hb dX13_withdraw_60 (by decide) ?_
        refine lv_iload_n hx hb dX13_withdraw_62 rfl (lv_at hl 1 rfl) ?_
        refine lv_iadd hx hb dX13_withdraw_63 ?_
        refine lv_iload_n hx hb dX13_withdraw_64 rfl (lv_at hl 2 rfl) ?_
        refine lv_iconst (v := 1) hx hb dX13_withdraw_65 (by decide) ?_
        refine lv_isub hx hb dX13_withdraw_66 ?_
        obtain ⟨j27, hj27, hf⟩ := bnd hf
        obtain ⟨w28, hw28, hf⟩ := bnd hf
        replace hw28 := Option.some.inj hw28
        refine hw_iast (x := (a_2 - 1)) hx hb hKs hH ha10.1 ha10.2 hj27 dX13_withdraw_67 (fun H locs hH => ?_)
        rw [hw28] at hH
        refine lv_iconst (v := 0) hx hb dX13_withdraw_68 (by decide) ?_
        refine lv_istore_n (i := 3) (lv' := [(3, .int 0), (0, rv E (some o)), (1, .int a_1), (2, .int a_2)]) hx hb dX13_withdraw_69 rfl hl (by decide) rfl (fun ls hl => ?_)
        refine lv_iconst (v := 0) hx hb dX13_withdraw_70 (by decide) ?_
        refine lv_istore (i := 4) (lv' := [(4, .int 0), (3, .int 0), (0, rv E (some o)), (1, .int a_1), (2, .int a_2)]) hx hb dX13_withdraw_71 hl (by decide) rfl (fun ls hl => ?_)
        refine l_X13_withdraw_L73  C ho _ (fun v1_73 v2_73 v3_73 v4_73 w29 H locs ls hH hl hf => ?_) fu a_1 a_2 0 0 w28 _ _ _ hH (lv_sub hl [3, 4, 1, 0, 2] rfl) hf
        refine hl_aload_n hx hb dX13_withdraw_144 rfl (lv_at hl 4 rfl) ?_
        refine lv_iload_n hx hb dX13_withdraw_145 rfl (lv_at hl 2 rfl) ?_
        obtain ⟨q30, hq30, hf⟩ := bnd hf
        refine hcV_i hx hb hml hown hts hKs hT hb0 hH (As := [.int v3_73]) (rest := []) (k_X13_done l E K H.size o v3_73 w29 ho hq30) (gV m8_50 m8_52 ms_83 m1_16 m8_53) hd_X13_done ⟨Nat.le_of_ble_eq_true rfl, Nat.le_of_ble_eq_true rfl, rfl, rfl⟩ rfl ho rfl rfl rfl hl.1 rfl rc0 rfl dX13_withdraw_146 ⟨Nat.zero_le _, Nat.zero_le _⟩ (fun H locs hH => ?_)
        exact hw_iret hx hb hret hf hH hlocks dX13_withdraw_149
    · replace hf := (if_pos c8).symm.trans hf
      refine lv_iconst (v := 0) hx hb dX13_withdraw_35 (by decide) ?_
      exact hw_iret hx hb hret hf hH hlocks dX13_withdraw_36

theorem dX13_addHoliday_0 : decode cX13_addHoliday 0 = .ok (.aload_n 0, 1) := by decide +kernel
theorem dX13_addHoliday_1 : decode cX13_addHoliday 1 = .ok (.iload_n 1, 1) := by decide +kernel
theorem dX13_addHoliday_2 : decode cX13_addHoliday 2 = .ok (.i2l, 1) := by decide +kernel
theorem dX13_addHoliday_3 : decode cX13_addHoliday 3 = .ok (.aload_n 0, 1) := by decide +kernel
theorem dX13_addHoliday_4 : decode cX13_addHoliday 4 = .ok (.getfield 16, 3) := by decide +kernel
theorem dX13_addHoliday_7 : decode cX13_addHoliday 7 = .ok (.iconst 0, 1) := by decide +kernel
theorem dX13_addHoliday_8 : decode cX13_addHoliday 8 = .ok (.iaload, 1) := by decide +kernel
theorem dX13_addHoliday_9 : decode cX13_addHoliday 9 = .ok (.i2l, 1) := by decide +kernel
theorem dX13_addHoliday_10 : decode cX13_addHoliday 10 = .ok (.ldc2_w 121, 3) := by decide +kernel
theorem dX13_addHoliday_13 : decode cX13_addHoliday 13 = .ok (.invokestatic 123, 3) := by decide +kernel
theorem dX13_addHoliday_16 : decode cX13_addHoliday 16 = .ok (.invokevirtual 110, 3) := by decide +kernel
theorem dX13_addHoliday_19 : decode cX13_addHoliday 19 = .ok (.ifCond .eq 35, 3) := by decide +kernel
theorem dX13_addHoliday_22 : decode cX13_addHoliday 22 = .ok (.aload_n 0, 1) := by decide +kernel
theorem dX13_addHoliday_23 : decode cX13_addHoliday 23 = .ok (.aload_n 0, 1) := by decide +kernel
theorem dX13_addHoliday_24 : decode cX13_addHoliday 24 = .ok (.iload_n 1, 1) := by decide +kernel
theorem dX13_addHoliday_25 : decode cX13_addHoliday 25 = .ok (.invokevirtual 118, 3) := by decide +kernel
theorem dX13_addHoliday_28 : decode cX13_addHoliday 28 = .ok (.ifCond .eq 18, 3) := by decide +kernel
theorem dX13_addHoliday_31 : decode cX13_addHoliday 31 = .ok (.aload_n 0, 1) := by decide +kernel
theorem dX13_addHoliday_32 : decode cX13_addHoliday 32 = .ok (.getfield 16, 3) := by decide +kernel
theorem dX13_addHoliday_35 : decode cX13_addHoliday 35 = .ok (.iconst 1, 1) := by decide +kernel
theorem dX13_addHoliday_36 : decode cX13_addHoliday 36 = .ok (.iaload, 1) := by decide +kernel
theorem dX13_addHoliday_37 : decode cX13_addHoliday 37 = .ok (.bipush 20, 2) := by decide +kernel
theorem dX13_addHoliday_39 : decode cX13_addHoliday 39 = .ok (.if_icmp .ge 7, 3) := by decide +kernel
theorem dX13_addHoliday_42 : decode cX13_addHoliday 42 = .ok (.iconst 1, 1) := by decide +kernel
theorem dX13_addHoliday_43 : decode cX13_addHoliday 43 = .ok (.goto 4, 3) := by decide +kernel
theorem dX13_addHoliday_46 : decode cX13_addHoliday 46 = .ok (.iconst 0, 1) := by decide +kernel
theorem dX13_addHoliday_47 : decode cX13_addHoliday 47 = .ok (.iconst 2, 1) := by decide +kernel
theorem dX13_addHoliday_48 : decode cX13_addHoliday 48 = .ok (.invokevirtual 214, 3) := by decide +kernel
theorem dX13_addHoliday_51 : decode cX13_addHoliday 51 = .ok (.ifCond .ne 5, 3) := by decide +kernel
theorem dX13_addHoliday_54 : decode cX13_addHoliday 54 = .ok (.iconst 0, 1) := by decide +kernel
theorem dX13_addHoliday_55 : decode cX13_addHoliday 55 = .ok (.ireturn, 1) := by decide +kernel
theorem dX13_addHoliday_56 : decode cX13_addHoliday 56 = .ok (.aload_n 0, 1) := by decide +kernel
theorem dX13_addHoliday_57 : decode cX13_addHoliday 57 = .ok (.invokevirtual 262, 3) := by decide +kernel
theorem dX13_addHoliday_60 : decode cX13_addHoliday 60 = .ok (.aload_n 0, 1) := by decide +kernel
theorem dX13_addHoliday_61 : decode cX13_addHoliday 61 = .ok (.getfield 16, 3) := by decide +kernel
theorem dX13_addHoliday_64 : decode cX13_addHoliday 64 = .ok (.iconst 2, 1) := by decide +kernel
theorem dX13_addHoliday_65 : decode cX13_addHoliday 65 = .ok (.aload_n 0, 1) := by decide +kernel
theorem dX13_addHoliday_66 : decode cX13_addHoliday 66 = .ok (.getfield 16, 3) := by decide +kernel
theorem dX13_addHoliday_69 : decode cX13_addHoliday 69 = .ok (.iconst 1, 1) := by decide +kernel
theorem dX13_addHoliday_70 : decode cX13_addHoliday 70 = .ok (.iaload, 1) := by decide +kernel
theorem dX13_addHoliday_71 : decode cX13_addHoliday 71 = .ok (.iadd, 1) := by decide +kernel
theorem dX13_addHoliday_72 : decode cX13_addHoliday 72 = .ok (.iload_n 1, 1) := by decide +kernel
theorem dX13_addHoliday_73 : decode cX13_addHoliday 73 = .ok (.iastore, 1) := by decide +kernel
theorem dX13_addHoliday_74 : decode cX13_addHoliday 74 = .ok (.aload_n 0, 1) := by decide +kernel
theorem dX13_addHoliday_75 : decode cX13_addHoliday 75 = .ok (.getfield 16, 3) := by decide +kernel
theorem dX13_addHoliday_78 : decode cX13_addHoliday 78 = .ok (.iconst 1, 1) := by decide +kernel
theorem dX13_addHoliday_79 : decode cX13_addHoliday 79 = .ok (.aload_n 0, 1) := by decide +kernel
theorem dX13_addHoliday_80 : decode cX13_addHoliday 80 = .ok (.getfield 16, 3) := by decide +kernel
theorem dX13_addHoliday_83 : decode cX13_addHoliday 83 = .ok (.iconst 1, 1) := by decide +kernel
theorem dX13_addHoliday_84 : decode cX13_addHoliday 84 = .ok (.iaload, 1) := by decide +kernel
theorem dX13_addHoliday_85 : decode cX13_addHoliday 85 = .ok (.iconst 1, 1) := by decide +kernel
theorem dX13_addHoliday_86 : decode cX13_addHoliday 86 = .ok (.iadd, 1) := by decide +kernel
theorem dX13_addHoliday_87 : decode cX13_addHoliday 87 = .ok (.iastore, 1) := by decide +kernel
theorem dX13_addHoliday_88 : decode cX13_addHoliday 88 = .ok (.iconst 0, 1) := by decide +kernel
theorem dX13_addHoliday_89 : decode cX13_addHoliday 89 = .ok (.istore_n 2, 1) := by decide +kernel
theorem dX13_addHoliday_90 : decode cX13_addHoliday 90 = .ok (.iconst 0, 1) := by decide +kernel
theorem dX13_addHoliday_91 : decode cX13_addHoliday 91 = .ok (.istore_n 3, 1) := by decide +kernel
theorem dX13_addHoliday_92 : decode cX13_addHoliday 92 = .ok (.iload_n 3, 1) := by decide +kernel
theorem dX13_addHoliday_93 : decode cX13_addHoliday 93 = .ok (.aload_n 0, 1) := by decide +kernel
theorem dX13_addHoliday_94 : decode cX13_addHoliday 94 = .ok (.getfield 7, 3) := by decide +kernel
theorem dX13_addHoliday_97 : decode cX13_addHoliday 97 = .ok (.iconst 3, 1) := by decide +kernel
theorem dX13_addHoliday_98 : decode cX13_addHoliday 98 = .ok (.iaload, 1) := by decide +kernel
theorem dX13_addHoliday_99 : decode cX13_addHoliday 99 = .ok (.if_icmp .ge 42, 3) := by decide +kernel
theorem dX13_addHoliday_102 : decode cX13_addHoliday 102 = .ok (.aload_n 0, 1) := by decide +kernel
theorem dX13_addHoliday_103 : decode cX13_addHoliday 103 = .ok (.iload_n 3, 1) := by decide +kernel
theorem dX13_addHoliday_104 : decode cX13_addHoliday 104 = .ok (.iconst 0, 1) := by decide +kernel
theorem dX13_addHoliday_105 : decode cX13_addHoliday 105 = .ok (.invokevirtual 141, 3) := by decide +kernel
theorem dX13_addHoliday_108 : decode cX13_addHoliday 108 = .ok (.iconst 1, 1) := by decide +kernel
theorem dX13_addHoliday_109 : decode cX13_addHoliday 109 = .ok (.if_icmp .ne 26, 3) := by decide +kernel
theorem dX13_addHoliday_112 : decode cX13_addHoliday 112 = .ok (.aload_n 0, 1) := by decide +kernel
theorem dX13_addHoliday_113 : decode cX13_addHoliday 113 = .ok (.iload_n 3, 1) := by decide +kernel
theorem dX13_addHoliday_114 : decode cX13_addHoliday 114 = .ok (.iconst 3, 1) := by decide +kernel
theorem dX13_addHoliday_115 : decode cX13_addHoliday 115 = .ok (.invokevirtual 141, 3) := by decide +kernel
theorem dX13_addHoliday_118 : decode cX13_addHoliday 118 = .ok (.iload_n 1, 1) := by decide +kernel
theorem dX13_addHoliday_119 : decode cX13_addHoliday 119 = .ok (.if_icmp .eq 6, 3) := by decide +kernel
theorem dX13_addHoliday_122 : decode cX13_addHoliday 122 = .ok (.goto 13, 3) := by decide +kernel
theorem dX13_addHoliday_125 : decode cX13_addHoliday 125 = .ok (.aload_n 0, 1) := by decide +kernel
theorem dX13_addHoliday_126 : decode cX13_addHoliday 126 = .ok (.iload_n 3, 1) := by decide +kernel
theorem dX13_addHoliday_127 : decode cX13_addHoliday 127 = .ok (.iconst 3, 1) := by decide +kernel
theorem dX13_addHoliday_128 : decode cX13_addHoliday 128 = .ok (.invokevirtual 282, 3) := by decide +kernel
theorem dX13_addHoliday_131 : decode cX13_addHoliday 131 = .ok (.iload_n 2, 1) := by decide +kernel
theorem dX13_addHoliday_132 : decode cX13_addHoliday 132 = .ok (.iconst 1, 1) := by decide +kernel
theorem dX13_addHoliday_133 : decode cX13_addHoliday 133 = .ok (.iadd, 1) := by decide +kernel
theorem dX13_addHoliday_134 : decode cX13_addHoliday 134 = .ok (.istore_n 2, 1) := by decide +kernel
theorem dX13_addHoliday_135 : decode cX13_addHoliday 135 = .ok (.iinc 3 1, 3) := by decide +kernel
theorem dX13_addHoliday_138 : decode cX13_addHoliday 138 = .ok (.goto (-46), 3) := by decide +kernel
theorem dX13_addHoliday_141 : decode cX13_addHoliday 141 = .ok (.aload_n 0, 1) := by decide +kernel
theorem dX13_addHoliday_142 : decode cX13_addHoliday 142 = .ok (.iload_n 2, 1) := by decide +kernel
theorem dX13_addHoliday_143 : decode cX13_addHoliday 143 = .ok (.invokevirtual 269, 3) := by decide +kernel
theorem dX13_addHoliday_146 : decode cX13_addHoliday 146 = .ok (.ireturn, 1) := by decide +kernel
theorem hd_X13_addHoliday : yX13_addHoliday.cls = RX13 ∧ yX13_addHoliday.cls ≠ "java/lang/invoke/MethodHandle" ∧ yX13_addHoliday.cls ≠ "java/lang/invoke/VarHandle" ∧ (parseMethodDescriptor yX13_addHoliday.desc).map (fun d => d.parameters.length) = some 1 := by decide +kernel
theorem hs_X13_addHoliday : yX13_addHoliday.cls ≠ "java/lang/invoke/MethodHandle" ∧ yX13_addHoliday.cls ≠ "java/lang/invoke/VarHandle" ∧ (parseMethodDescriptor yX13_addHoliday.desc).map (fun d => d.parameters.length) = some 1 := by decide +kernel
set_option maxHeartbeats 4000000 in
set_option maxRecDepth 100000 in
theorem l_X13_addHoliday_L92 (C : CX p l e s m args meth c cX13_addHoliday 4 RX13 (Option.some Jvm.ClassFile.FieldType.int) E) {o : Nat} (ho : K o = some (11, 0)) {r : Int32} {w' : Wd} (k : Int32 → Int32 → Int32 → Wd → Option (Int32 × Wd)) (hk : ∀ (v1_92 : Int32) (v2_92 : Int32) (v3_92 : Int32) (w : Wd) (H : Heap) (locs : List Loc) (ls : Array Slot), HQ E K z w s H locs → lv_has ls 4 [(1, .int v1_92), (2, .int v2_92), (3, .int v3_92), (0, rv E (some o))] → k v1_92 v2_92 v3_92 w = some (r, w') → W p l e ({ frames := 3, cells := 0, slots := 0, locals := 70 } : Room) s m args below meth c H locs 0 0 (MQ below (QI E K z w' r) args s 0 0 (hA E)) (F0 m 141 ls [])) : ∀ (n : Nat) (v1_92 : Int32) (v2_92 : Int32) (v3_92 : Int32) (w : Wd) (H : Heap) (locs : List Loc) (ls : Array Slot), HQ E K z w s H locs → lv_has ls 4 [(1, .int v1_92), (2, .int v2_92), (3, .int v3_92), (0, rv E (some o))] → f_X13_addHoliday_L92 K o k n v1_92 v2_92 v3_92 w = some (r, w') → W p l e ({ frames := 3, cells := 0, slots := 0, locals := 70 } : Room) s m args below meth c H locs 0 0 (MQ below (QI E K z w' r) args s 0 0 (hA E)) (F0 m 92 ls []) := by
  obtain ⟨hx, hb, hml, hown, hts, hKs, hT, hb0, hlocks, hret⟩ := id C
  intro n
  induction n with
  | zero =>
    intro v1_92 v2_92 v3_92 w H locs ls hH hl hf
    cases hf
  | succ n ih =>
    intro v1_92 v2_92 v3_92 w H locs ls hH hl hf
    rw [f_X13_addHoliday_L92] at hf
    refine lv_iload_n hx hb dX13_addHoliday_92 rfl (lv_at hl 2 rfl) ?_
    refine hl_aload_n hx hb dX13_addHoliday_93 rfl (lv_at hl 3 rfl) ?_
    refine g13_1 hx hb hts hown hKs hH rfl ho m6_182 dX13_addHoliday_94 ?_
    refine lv_iconst (v := 3) hx hb dX13_addHoliday_97 (by decide) ?_
    obtain ⟨a20, ha20, hf⟩ := bnd hf
    replace ha20 := cha_some ha20
    obtain ⟨j21, hj21, hf⟩ := bnd hf
    refine hw_iald hx hb hKs hH ha20.1 ha20.2 hj21 dX13_addHoliday_98 ?_
    refine lv_icmp_ge (tgt := 141) hx hb dX13_addHoliday_99 (by decide) (fun c22 => ?_) (fun c22 => ?_)
    · replace hf := (if_pos c22).symm.trans hf
      exact hk v1_92 v2_92 v3_92 _ _ _ _ hH (lv_sub hl [0, 1, 2, 3] rfl) hf
    · replace hf := (if_neg c22).symm.trans hf
      refine hl_aload_n hx hb dX13_addHoliday_102 rfl (lv_at hl 3 rfl) ?_
      refine lv_iload_n hx hb dX13_addHoliday_103 rfl (lv_at hl 2 rfl) ?_
      refine lv_iconst (v := 0) hx hb dX13_addHoliday_104 (by decide) ?_
      obtain ⟨q23, hq23, hf⟩ := bnd hf
      refine hcV_i hx hb hml hown hts hKs hT hb0 hH (As := [.int v3_92, .int 0]) (rest := []) (k_X13_of l E K H.size o v3_92 0 w ho hq23) (gV m7_126 m7_128 ms_54 m1_16 m7_129) hd_X13_of ⟨Nat.le_of_ble_eq_true rfl, Nat.le_of_ble_eq_true rfl, rfl, rfl⟩ rfl ho rfl rfl rfl hl.1 rfl rc0 rfl dX13_addHoliday_105 ⟨Nat.zero_le _, Nat.zero_le _⟩ (fun H locs hH => ?_)
      refine lv_iconst (v := 1) hx hb dX13_addHoliday_108 (by decide) ?_
      refine lv_icmp_ne (tgt := 135) hx hb dX13_addHoliday_109 (by decide) (fun c24 => ?_) (fun c24 => ?_)
      · replace hf := (if_neg c24).symm.trans hf
        refine lv_iinc (v := (v3_92 + 1)) (lv' := [(3, .int ((v3_92 + 1))), (1, .int v1_92), (2, .int v2_92), (0, rv E (some o))]) hx hb dX13_addHoliday_135 hl (k := 2) rfl rfl (by decide) rfl (fun ls hl => ?_)
        refine lv_goto (tgt := 92) hx hb dX13_addHoliday_138 (by decide) ?_
        exact ih v1_92 v2_92 (v3_92 + 1) _ _ _ _ hH (lv_sub hl [1, 2, 0, 3] rfl) hf
      · replace hf := (if_pos c24).symm.trans hf
        refine hl_aload_n hx hb dX13_addHoliday_112 rfl (lv_at hl 3 rfl) ?_
        refine lv_iload_n hx hb dX13_addHoliday_113 rfl (lv_at hl 2 rfl) ?_
        refine lv_iconst (v := 3) hx hb dX13_addHoliday_114 (by decide) ?_
        obtain ⟨q25, hq25, hf⟩ := bnd hf
        refine hcV_i hx hb hml hown hts hKs hT hb0 hH (As := [.int v3_92, .int 3]) (rest := []) (k_X13_of l E K H.size o v3_92 3 q23.2 ho hq25) (gV m7_126 m7_128 ms_54 m1_16 m7_129) hd_X13_of ⟨Nat.le_of_ble_eq_true rfl, Nat.le_of_ble_eq_true rfl, rfl, rfl⟩ rfl ho rfl rfl rfl hl.1 rfl rc0 rfl dX13_addHoliday_115 ⟨Nat.zero_le _, Nat.zero_le _⟩ (fun H locs hH => ?_)
        refine lv_iload_n hx hb dX13_addHoliday_118 rfl (lv_at hl 0 rfl) ?_
        refine lv_icmp_eq (tgt := 125) hx hb dX13_addHoliday_119 (by decide) (fun c26 => ?_) (fun c26 => ?_)
        · replace hf := (if_pos c26).symm.trans hf
          refine hl_aload_n hx hb dX13_addHoliday_125 rfl (lv_at hl 3 rfl) ?_
          refine lv_iload_n hx hb dX13_addHoliday_126 rfl (lv_at hl 2 rfl) ?_
          refine lv_iconst (v := 3) hx hb dX13_addHoliday_127 (by decide) ?_
          obtain ⟨q27, hq27, hf⟩ := bnd hf
          refine hcV_v hx hb hml hown hts hKs hT hb0 hH (As := [.int v3_92, .int 3]) (rest := []) (k_X13_takesAway l E K H.size o v3_92 3 q25.2 ho hq27) (gV m8_81 m8_83 ms_87 m1_16 m8_84) hd_X13_takesAway ⟨Nat.le_of_ble_eq_true rfl, Nat.le_of_ble_eq_true rfl, rfl, rfl⟩ rfl ho rfl rfl rfl hl.1 rfl rc0 rfl dX13_addHoliday_128 ⟨Nat.zero_le _, Nat.zero_le _⟩ (fun H locs hH => ?_)
          refine lv_iload_n hx hb dX13_addHoliday_131 rfl (lv_at hl 1 rfl) ?_
          refine lv_iconst (v := 1) hx hb dX13_addHoliday_132 (by decide) ?_
          refine lv_iadd hx hb dX13_addHoliday_133 ?_
          refine lv_istore_n (i := 2) (lv' := [(2, .int ((v2_92 + 1))), (1, .int v1_92), (3, .int v3_92), (0, rv E (some o))]) hx hb dX13_addHoliday_134 rfl hl (by decide) rfl (fun ls hl => ?_)
          refine lv_iinc (v := (v3_92 + 1)) (lv' := [(3, .int ((v3_92 + 1))), (2, .int ((v2_92 + 1))), (1, .int v1_92), (0, rv E (some o))]) hx hb dX13_addHoliday_135 hl (k := 2) rfl rfl (by decide) rfl (fun ls hl => ?_)
          refine lv_goto (tgt := 92) hx hb dX13_addHoliday_138 (by decide) ?_
          exact ih v1_92 (v2_92 + 1) (v3_92 + 1) _ _ _ _ hH (lv_sub hl [2, 1, 0, 3] rfl) hf
        · replace hf := (if_neg c26).symm.trans hf
          refine lv_goto (tgt := 135) hx hb dX13_addHoliday_122 (by decide) ?_
          refine lv_iinc (v := (v3_92 + 1)) (lv' := [(3, .int ((v3_92 + 1))), (1, .int v1_92), (2, .int v2_92), (0, rv E (some o))]) hx hb dX13_addHoliday_135 hl (k := 2) rfl rfl (by decide) rfl (fun ls hl => ?_)
          refine lv_goto (tgt := 92) hx hb dX13_addHoliday_138 (by decide) ?_
          exact ih v1_92 v2_92 (v3_92 + 1) _ _ _ _ hH (lv_sub hl [1, 2, 0, 3] rfl) hf
set_option maxHeartbeats 4000000 in
set_option maxRecDepth 100000 in
theorem k_X13_addHoliday (l : Launch) (E : Ev) (K : Kd) (z : Nat) (o : Nat) (a_1 : Int32) (w : Wd) (ho : K o = some (11, 0)) {r : Int32} {w' : Wd} (hf : f_X13_addHoliday K o a_1 w = some (r, w')) : Met l yX13_addHoliday (Cond.code yX13_addHoliday cX13_addHoliday 4 (Option.some Jvm.ClassFile.FieldType.int) :: bt) ({ frames := 3, cells := 0, slots := 0, locals := 70 } : Room) (va_Pc [rv E (some o), .int a_1] (HB E K w z)) (QI E K z w' r) 0 0 (hA E) := by
  refine Met.ofW (cc := cX13_addHoliday) (maxL := 4) (ret := (Option.some Jvm.ClassFile.FieldType.int)) (by decide) rfl ?_
  intro p e s m args below meth c s₁ B hml hv
  obtain ⟨rfl, hz, hP, hKs, hT, hb0⟩ := hv
  have C : CX p l e s m _ meth c cX13_addHoliday 4 RX13 (Option.some Jvm.ClassFile.FieldType.int) E := ⟨B.exec, B.bytes, hml, findClass_of_methodNamed B.named, fun w h => atoms_spec (ws := Cond.code yX13_addHoliday cX13_addHoliday 4 (Option.some Jvm.ClassFile.FieldType.int) :: bt) B.pre w (List.mem_cons_of_mem _ h), hKs, hT, by rw [hz]; exact hb0, B.notSynchronized, B.returns⟩
  have hH : HQ E K z w s s.heap [] := ⟨hP, va_S.rf, hz⟩
  obtain ⟨hx, hb, hml, hown, hts, hKs, hT, hb0, hlocks, hret⟩ := id C
  have hl := lv_entry [rv E (some o), .int a_1] (n := 4) (by simp [lg_len_nil, lg_len_i, lg_len_j, lg_len_q, lg_len_f, lg_len_d, lg_len_r])
  rw [lg_entry_eq]
  generalize (lg_sl [rv E (some o), .int a_1] ++ List.replicate (4 - (lg_sl [rv E (some o), .int a_1]).length) Slot.unset).toArray = ls at hl ⊢
  replace hl : lv_has ls 4 [(0, rv E (some o)), (1, .int a_1)] := by simpa only [lv_args, cat_q, cat_i, cat_j, reduceIte, Nat.reduceEqDiff, Nat.reduceAdd, Nat.zero_add] using hl
  generalize s.heap = H at hH ⊢
  unfold f_X13_addHoliday at hf
  refine hl_aload_n hx hb dX13_addHoliday_0 rfl (lv_at hl 0 rfl) ?_
  refine lv_iload_n hx hb dX13_addHoliday_1 rfl (lv_at hl 1 rfl) ?_
  refine lv_i2l (v := (a_1.toInt64)) hx hb dX13_addHoliday_2 rfl ?_
  refine hl_aload_n hx hb dX13_addHoliday_3 rfl (lv_at hl 0 rfl) ?_
  refine g13_3 hx hb hts hown hKs hH rfl ho m6_184 dX13_addHoliday_4 ?_
  refine lv_iconst (v := 0) hx hb dX13_addHoliday_7 (by decide) ?_
  obtain ⟨a1, ha1, hf⟩ := bnd hf
  replace ha1 := cha_some ha1
  obtain ⟨j2, hj2, hf⟩ := bnd hf
  refine hw_iald hx hb hKs hH ha1.1 ha1.2 hj2 dX13_addHoliday_8 ?_
  refine lv_i2l (v := ((aI w a1.1 j2).toInt64)) hx hb dX13_addHoliday_9 rfl ?_
  refine lv_ldc2 (v := 599) hx hb hown (hts _ m7_87) dX13_addHoliday_10 ?_
  obtain ⟨q3, hq3, hf⟩ := bnd hf
  refine hcS_i hx hb hml hown hts hKs hT hb0 hH (As := [.long (a_1.toInt64), .long ((aI w a1.1 j2).toInt64), .long 599]) (rest := [rv E (some o)]) (k_X13_isIn l E K H.size (a_1.toInt64) ((aI w a1.1 j2).toInt64) 599 w hq3) (gS m7_88 m7_89 m1_16 m7_90) hs_X13_isIn ⟨Nat.le_of_ble_eq_true rfl, Nat.le_of_ble_eq_true rfl, rfl, rfl⟩ hl.1 rfl (rcV rc0) rfl dX13_addHoliday_13 ⟨Nat.zero_le _, Nat.zero_le _⟩ (fun H locs hH => ?_)
  obtain ⟨q4, hq4, hf⟩ := bnd hf
  refine hcV_i hx hb hml hown hts hKs hT hb0 hH (As := [.int (b2i q3.1)]) (rest := []) (k_X13_is l E K H.size o q3.1 q3.2 ho hq4) (gV m7_68 m7_70 ms_47 m1_16 m7_71) hd_X13_is ⟨Nat.le_of_ble_eq_true rfl, Nat.le_of_ble_eq_true rfl, rfl, rfl⟩ rfl ho rfl rfl rfl hl.1 rfl rc0 rfl dX13_addHoliday_16 ⟨Nat.zero_le _, Nat.zero_le _⟩ (fun H locs hH => ?_)
  refine lv_if_eq (tgt := 54) hx hb dX13_addHoliday_19 (by decide) (fun c5 => ?_) (fun c5 => ?_)
  · replace hf := (if_pos c5).symm.trans hf
    refine lv_iconst (v := 0) hx hb dX13_addHoliday_54 (by decide) ?_
    exact hw_iret hx hb hret hf hH hlocks dX13_addHoliday_55
  · replace hf := (if_neg c5).symm.trans hf
    refine hl_aload_n hx hb dX13_addHoliday_22 rfl (lv_at hl 0 rfl) ?_
    refine hl_aload_n hx hb dX13_addHoliday_23 rfl (lv_at hl 0 rfl) ?_
    refine lv_iload_n hx hb dX13_addHoliday_24 rfl (lv_at hl 1 rfl) ?_
    obtain ⟨q6, hq6, hf⟩ := bnd hf
    refine hcV_i hx hb hml hown hts hKs hT hb0 hH (As := [.int a_1]) (rest := [rv E (some o)]) (k_X13_isWorking l E K H.size o a_1 q4.2 ho hq6) (gV m7_91 m7_93 ms_48 m1_16 m7_94) hd_X13_isWorking ⟨Nat.le_of_ble_eq_true rfl, Nat.le_of_ble_eq_true rfl, rfl, rfl⟩ rfl ho rfl rfl rfl hl.1 rfl (rcV rc0) rfl dX13_addHoliday_25 ⟨Nat.zero_le _, Nat.zero_le _⟩ (fun H locs hH => ?_)
    refine lv_if_eq (tgt := 46) hx hb dX13_addHoliday_28 (by decide) (fun c7 => ?_) (fun c7 => ?_)
    · replace hf := (if_pos c7).symm.trans hf
      refine lv_iconst (v := 0) hx hb dX13_addHoliday_46 (by decide) ?_
      refine lv_iconst (v := 2) hx hb dX13_addHoliday_47 (by decide) ?_
      obtain ⟨q8, hq8, hf⟩ := bnd hf
      refine hcV_i hx hb hml hown hts hKs hT hb0 hH (As := [.int 0, .int 2]) (rest := []) (k_X13_may l E K H.size o false 2 q6.2 ho hq8) (gV m7_183 m7_185 ms_61 m1_16 m7_186) hd_X13_may ⟨Nat.le_of_ble_eq_true rfl, Nat.le_of_ble_eq_true rfl, rfl, rfl⟩ rfl ho rfl rfl rfl hl.1 rfl rc0 rfl dX13_addHoliday_48 ⟨Nat.zero_le _, Nat.zero_le _⟩ (fun H locs hH => ?_)
      refine lv_if_ne (tgt := 56) hx hb dX13_addHoliday_51 (by decide) (fun c9 => ?_) (fun c9 => ?_)
      · replace hf := (if_neg c9).symm.trans hf
        refine hl_aload_n hx hb dX13_addHoliday_56 rfl (lv_at hl 0 rfl) ?_
        obtain ⟨q10, hq10, hf⟩ := bnd hf
        refine hcV_v hx hb hml hown hts hKs hT hb0 hH (As := []) (rest := []) (k_X13_starts l E K H.size o q8.2 ho hq10) (gV m8_38 m8_40 ms_80 m1_16 m8_41) hd_X13_starts ⟨Nat.le_of_ble_eq_true rfl, Nat.le_of_ble_eq_true rfl, rfl, rfl⟩ rfl ho rfl rfl rfl hl.1 rfl rc0 rfl dX13_addHoliday_57 ⟨Nat.zero_le _, Nat.zero_le _⟩ (fun H locs hH => ?_)
        refine hl_aload_n hx hb dX13_addHoliday_60 rfl (lv_at hl 0 rfl) ?_
        refine g13_3 hx hb hts hown hKs hH rfl ho m6_184 dX13_addHoliday_61 ?_
        refine lv_iconst (v := 2) hx hb dX13_addHoliday_64 (by decide) ?_
        refine hl_aload_n hx hb dX13_addHoliday_65 rfl (lv_at hl 0 rfl) ?_
        refine g13_3 hx hb hts hown hKs hH rfl ho m6_184 dX13_addHoliday_66 ?_
        refine lv_iconst (v := 1) hx hb dX13_addHoliday_69 (by decide) ?_
        obtain ⟨a11, ha11, hf⟩ := bnd hf
        replace ha11 := cha_some ha11
        obtain ⟨j12, hj12, hf⟩ := bnd hf
        refine hw_iald hx hb hKs hH ha11.1 ha11.2 hj12 dX13_addHoliday_70 ?_
        refine lv_iadd hx hb dX13_addHoliday_71 ?_
        refine lv_iload_n hx hb dX13_addHoliday_72 rfl (lv_at hl 1 rfl) ?_
        obtain ⟨j13, hj13, hf⟩ := bnd hf
        obtain ⟨w14, hw14, hf⟩ := bnd hf
        replace hw14 := Option.some.inj hw14
        refine hw_iast (x := a_1) hx hb hKs hH ha11.1 ha11.2 hj13 dX13_addHoliday_73 (fun H locs hH => ?_)
        rw [hw14] at hH
        refine hl_aload_n hx hb dX13_addHoliday_74 rfl (lv_at hl 0 rfl) ?_
        refine g13_3 hx hb hts hown hKs hH rfl ho m6_184 dX13_addHoliday_75 ?_
        refine lv_iconst (v := 1) hx hb dX13_addHoliday_78 (by decide) ?_
        refine hl_aload_n hx hb dX13_addHoliday_79 rfl (lv_at hl 0 rfl) ?_
        refine g13_3 hx hb hts hown hKs hH rfl ho m6_184 dX13_addHoliday_80 ?_
        refine lv_iconst (v := 1) hx hb dX13_addHoliday_83 (by decide) ?_
        obtain ⟨a15, ha15, hf⟩ := bnd hf
        replace ha15 := cha_some ha15
        obtain ⟨j16, hj16, hf⟩ := bnd hf
        refine hw_iald hx hb hKs hH ha15.1 ha15.2 hj16 dX13_addHoliday_84 ?_
        refine lv_iconst (v := 1) hx hb dX13_addHoliday_85 (by decide) ?_
        refine lv_iadd hx hb dX13_addHoliday_86 ?_
        obtain ⟨j17, hj17, hf⟩ := bnd hf
        obtain ⟨w18, hw18, hf⟩ := bnd hf
        replace hw18 := Option.some.inj hw18
        refine hw_iast (x := ((aI w14 a15.1 j16) + 1)) hx hb hKs hH ha15.1 ha15.2 hj17 dX13_addHoliday_87 (fun H locs hH => ?_)
        rw [hw18] at hH
        refine lv_iconst (v := 0) hx hb dX13_addHoliday_88 (by decide) ?_
        refine lv_istore_n (i := 2) (lv' := [(2, .int 0), (0, rv E (some o)), (1, .int a_1)]) hx hb dX13_addHoliday_89 rfl hl (by decide) rfl (fun ls hl => ?_)
        refine lv_iconst (v := 0) hx hb dX13_addHoliday_90 (by decide) ?_
        refine lv_istore_n (i := 3) (lv' := [(3, .int 0), (2, .int 0), (0, rv E (some o)), (1, .int a_1)]) hx hb dX13_addHoliday_91 rfl hl (by decide) rfl (fun ls hl => ?_)
        refine l_X13_addHoliday_L92  C ho _ (fun v1_92 v2_92 v3_92 w19 H locs ls hH hl hf => ?_) fu a_1 0 0 w18 _ _ _ hH (lv_sub hl [3, 1, 0, 2] rfl) hf
        refine hl_aload_n hx hb dX13_addHoliday_141 rfl (lv_at hl 3 rfl) ?_
        refine lv_iload_n hx hb dX13_addHoliday_142 rfl (lv_at hl 1 rfl) ?_
        obtain ⟨q28, hq28, hf⟩ := bnd hf
        refine hcV_i hx hb hml hown hts hKs hT hb0 hH (As := [.int v2_92]) (rest := []) (k_X13_done l E K H.size o v2_92 w19 ho hq28) (gV m8_50 m8_52 ms_83 m1_16 m8_53) hd_X13_done ⟨Nat.le_of_ble_eq_true rfl, Nat.le_of_ble_eq_true rfl, rfl, rfl⟩ rfl ho rfl rfl rfl hl.1 rfl rc0 rfl dX13_addHoliday_143 ⟨Nat.zero_le _, Nat.zero_le _⟩ (fun H locs hH => ?_)
        exact hw_iret hx hb hret hf hH hlocks dX13_addHoliday_146
      · replace hf := (if_pos c9).symm.trans hf
        refine lv_iconst (v := 0) hx hb dX13_addHoliday_54 (by decide) ?_
        exact hw_iret hx hb hret hf hH hlocks dX13_addHoliday_55
    · replace hf := (if_neg c7).symm.trans hf
      refine hl_aload_n hx hb dX13_addHoliday_31 rfl (lv_at hl 0 rfl) ?_
      refine g13_3 hx hb hts hown hKs hH rfl ho m6_184 dX13_addHoliday_32 ?_
      refine lv_iconst (v := 1) hx hb dX13_addHoliday_35 (by decide) ?_
      obtain ⟨a29, ha29, hf⟩ := bnd hf
      replace ha29 := cha_some ha29
      obtain ⟨j30, hj30, hf⟩ := bnd hf
      refine hw_iald hx hb hKs hH ha29.1 ha29.2 hj30 dX13_addHoliday_36 ?_
      refine lv_bipush (v := 20) hx hb dX13_addHoliday_37 (by decide) ?_
      refine lv_icmp_ge (tgt := 46) hx hb dX13_addHoliday_39 (by decide) (fun c31 => ?_) (fun c31 => ?_)
      · replace hf := (if_pos c31).symm.trans hf
        refine lv_iconst (v := 0) hx hb dX13_addHoliday_46 (by decide) ?_
        refine lv_iconst (v := 2) hx hb dX13_addHoliday_47 (by decide) ?_
        obtain ⟨q32, hq32, hf⟩ := bnd hf
        refine hcV_i hx hb hml hown hts hKs hT hb0 hH (As := [.int 0, .int 2]) (rest := []) (k_X13_may l E K H.size o false 2 q6.2 ho hq32) (gV m7_183 m7_185 ms_61 m1_16 m7_186) hd_X13_may ⟨Nat.le_of_ble_eq_true rfl, Nat.le_of_ble_eq_true rfl, rfl, rfl⟩ rfl ho rfl rfl rfl hl.1 rfl rc0 rfl dX13_addHoliday_48 ⟨Nat.zero_le _, Nat.zero_le _⟩ (fun H locs hH => ?_)
        refine lv_if_ne (tgt := 56) hx hb dX13_addHoliday_51 (by decide) (fun c33 => ?_) (fun c33 => ?_)
        · replace hf := (if_neg c33).symm.trans hf
          refine hl_aload_n hx hb dX13_addHoliday_56 rfl (lv_at hl 0 rfl) ?_
          obtain ⟨q34, hq34, hf⟩ := bnd hf
          refine hcV_v hx hb hml hown hts hKs hT hb0 hH (As := []) (rest := []) (k_X13_starts l E K H.size o q32.2 ho hq34) (gV m8_38 m8_40 ms_80 m1_16 m8_41) hd_X13_starts ⟨Nat.le_of_ble_eq_true rfl, Nat.le_of_ble_eq_true rfl, rfl, rfl⟩ rfl ho rfl rfl rfl hl.1 rfl rc0 rfl dX13_addHoliday_57 ⟨Nat.zero_le _, Nat.zero_le _⟩ (fun H locs hH => ?_)
          refine hl_aload_n hx hb dX13_addHoliday_60 rfl (lv_at hl 0 rfl) ?_
          refine g13_3 hx hb hts hown hKs hH rfl ho m6_184 dX13_addHoliday_61 ?_
          refine lv_iconst (v := 2) hx hb dX13_addHoliday_64 (by decide) ?_
          refine hl_aload_n hx hb dX13_addHoliday_65 rfl (lv_at hl 0 rfl) ?_
          refine g13_3 hx hb hts hown hKs hH rfl ho m6_184 dX13_addHoliday_66 ?_
          refine lv_iconst (v := 1) hx hb dX13_addHoliday_69 (by decide) ?_
          obtain ⟨a35, ha35, hf⟩ := bnd hf
          replace ha35 := cha_some ha35
          obtain ⟨j36, hj36, hf⟩ := bnd hf
          refine hw_iald hx hb hKs hH ha35.1 ha35.2 hj36 dX13_addHoliday_70 ?_
          refine lv_iadd hx hb dX13_addHoliday_71 ?_
          refine lv_iload_n hx hb dX13_addHoliday_72 rfl (lv_at hl 1 rfl) ?_
          obtain ⟨j37, hj37, hf⟩ := bnd hf
          obtain ⟨w38, hw38, hf⟩ := bnd hf
          replace hw38 := Option.some.inj hw38
          refine hw_iast (x := a_1) hx hb hKs hH ha35.1 ha35.2 hj37 dX13_addHoliday_73 (fun H locs hH => ?_)
          rw [hw38] at hH
          refine hl_aload_n hx hb dX13_addHoliday_74 rfl (lv_at hl 0 rfl) ?_
          refine g13_3 hx hb hts hown hKs hH rfl ho m6_184 dX13_addHoliday_75 ?_
          refine lv_iconst (v := 1) hx hb dX13_addHoliday_78 (by decide) ?_
          refine hl_aload_n hx hb dX13_addHoliday_79 rfl (lv_at hl 0 rfl) ?_
          refine g13_3 hx hb hts hown hKs hH rfl ho m6_184 dX13_addHoliday_80 ?_
          refine lv_iconst (v := 1) hx hb dX13_addHoliday_83 (by decide) ?_
          obtain ⟨a39, ha39, hf⟩ := bnd hf
          replace ha39 := cha_some ha39
          obtain ⟨j40, hj40, hf⟩ := bnd hf
          refine hw_iald hx hb hKs hH ha39.1 ha39.2 hj40 dX13_addHoliday_84 ?_
          refine lv_iconst (v := 1) hx hb dX13_addHoliday_85 (by decide) ?_
          refine lv_iadd hx hb dX13_addHoliday_86 ?_
          obtain ⟨j41, hj41, hf⟩ := bnd hf
          obtain ⟨w42, hw42, hf⟩ := bnd hf
          replace hw42 := Option.some.inj hw42
          refine hw_iast (x := ((aI w38 a39.1 j40) + 1)) hx hb hKs hH ha39.1 ha39.2 hj41 dX13_addHoliday_87 (fun H locs hH => ?_)
          rw [hw42] at hH
          refine lv_iconst (v := 0) hx hb dX13_addHoliday_88 (by decide) ?_
          refine lv_istore_n (i := 2) (lv' := [(2, .int 0), (0, rv E (some o)), (1, .int a_1)]) hx hb dX13_addHoliday_89 rfl hl (by decide) rfl (fun ls hl => ?_)
          refine lv_iconst (v := 0) hx hb dX13_addHoliday_90 (by decide) ?_
          refine lv_istore_n (i := 3) (lv' := [(3, .int 0), (2, .int 0), (0, rv E (some o)), (1, .int a_1)]) hx hb dX13_addHoliday_91 rfl hl (by decide) rfl (fun ls hl => ?_)
          refine l_X13_addHoliday_L92  C ho _ (fun v1_92 v2_92 v3_92 w43 H locs ls hH hl hf => ?_) fu a_1 0 0 w42 _ _ _ hH (lv_sub hl [3, 1, 0, 2] rfl) hf
          refine hl_aload_n hx hb dX13_addHoliday_141 rfl (lv_at hl 3 rfl) ?_
          refine lv_iload_n hx hb dX13_addHoliday_142 rfl (lv_at hl 1 rfl) ?_
          obtain ⟨q44, hq44, hf⟩ := bnd hf
          refine hcV_i hx hb hml hown hts hKs hT hb0 hH (As := [.int v2_92]) (rest := []) (k_X13_done l E K H.size o v2_92 w43 ho hq44) (gV m8_50 m8_52 ms_83 m1_16 m8_53) hd_X13_done ⟨Nat.le_of_ble_eq_true rfl, Nat.le_of_ble_eq_true rfl, rfl, rfl⟩ rfl ho rfl rfl rfl hl.1 rfl rc0 rfl dX13_addHoliday_143 ⟨Nat.zero_le _, Nat.zero_le _⟩ (fun H locs hH => ?_)
          exact hw_iret hx hb hret hf hH hlocks dX13_addHoliday_146
        · replace hf := (if_pos c33).symm.trans hf
          refine lv_iconst (v := 0) hx hb dX13_addHoliday_54 (by decide) ?_
          exact hw_iret hx hb hret hf hH hlocks dX13_addHoliday_55
      · replace hf := (if_neg c31).symm.trans hf
        refine lv_iconst (v := 1) hx hb dX13_addHoliday_42 (by decide) ?_
        refine lv_goto (tgt := 47) hx hb dX13_addHoliday_43 (by decide) ?_
        refine lv_iconst (v := 2) hx hb dX13_addHoliday_47 (by decide) ?_
        obtain ⟨q45, hq45, hf⟩ := bnd hf
        refine hcV_i hx hb hml hown hts hKs hT hb0 hH (As := [.int 1, .int 2]) (rest := []) (k_X13_may l E K H.size o true 2 q6.2 ho hq45) (gV m7_183 m7_185 ms_61 m1_16 m7_186) hd_X13_may ⟨Nat.le_of_ble_eq_true rfl, Nat.le_of_ble_eq_true rfl, rfl, rfl⟩ rfl ho rfl rfl rfl hl.1 rfl rc0 rfl dX13_addHoliday_48 ⟨Nat.zero_le _, Nat.zero_le _⟩ (fun H locs hH => ?_)
        refine lv_if_ne (tgt := 56) hx hb dX13_addHoliday_51 (by decide) (fun c46 => ?_) (fun c46 => ?_)
        · replace hf := (if_neg c46).symm.trans hf
          refine hl_aload_n hx hb dX13_addHoliday_56 rfl (lv_at hl 0 rfl) ?_
          obtain ⟨q47, hq47, hf⟩ := bnd hf
          refine hcV_v hx hb hml hown hts hKs hT hb0 hH (As := []) (rest := []) (k_X13_starts l E K H.size o q45.2 ho hq47) (gV m8_38 m8_40 ms_80 m1_16 m8_41) hd_X13_starts ⟨Nat.le_of_ble_eq_true rfl, Nat.le_of_ble_eq_true rfl, rfl, rfl⟩ rfl ho rfl rfl rfl hl.1 rfl rc0 rfl dX13_addHoliday_57 ⟨Nat.zero_le _, Nat.zero_le _⟩ (fun H locs hH => ?_)
          refine hl_aload_n hx hb dX13_addHoliday_60 rfl (lv_at hl 0 rfl) ?_
          refine g13_3 hx hb hts hown hKs hH rfl ho m6_184 dX13_addHoliday_61 ?_
          refine lv_iconst (v := 2) hx hb dX13_addHoliday_64 (by decide) ?_
          refine hl_aload_n hx hb dX13_addHoliday_65 rfl (lv_at hl 0 rfl) ?_
          refine g13_3 hx hb hts hown hKs hH rfl ho m6_184 dX13_addHoliday_66 ?_
          refine lv_iconst (v := 1) hx hb dX13_addHoliday_69 (by decide) ?_
          obtain ⟨a48, ha48, hf⟩ := bnd hf
          replace ha48 := cha_some ha48
          obtain ⟨j49, hj49, hf⟩ := bnd hf
          refine hw_iald hx hb hKs hH ha48.1 ha48.2 hj49 dX13_addHoliday_70 ?_
          refine lv_iadd hx hb dX13_addHoliday_71 ?_
          refine lv_iload_n hx hb dX13_addHoliday_72 rfl (lv_at hl 1 rfl) ?_
          obtain ⟨j50, hj50, hf⟩ := bnd hf
          obtain ⟨w51, hw51, hf⟩ := bnd hf
          replace hw51 := Option.some.inj hw51
          refine hw_iast (x := a_1) hx hb hKs hH ha48.1 ha48.2 hj50 dX13_addHoliday_73 (fun H locs hH => ?_)
          rw [hw51] at hH
          refine hl_aload_n hx hb dX13_addHoliday_74 rfl (lv_at hl 0 rfl) ?_
          refine g13_3 hx hb hts hown hKs hH rfl ho m6_184 dX13_addHoliday_75 ?_
          refine lv_iconst (v := 1) hx hb dX13_addHoliday_78 (by decide) ?_
          refine hl_aload_n hx hb dX13_addHoliday_79 rfl (lv_at hl 0 rfl) ?_
          refine g13_3 hx hb hts hown hKs hH rfl ho m6_184 dX13_addHoliday_80 ?_
          refine lv_iconst (v := 1) hx hb dX13_addHoliday_83 (by decide) ?_
          obtain ⟨a52, ha52, hf⟩ := bnd hf
          replace ha52 := cha_some ha52
          obtain ⟨j53, hj53, hf⟩ := bnd hf
          refine hw_iald hx hb hKs hH ha52.1 ha52.2 hj53 dX13_addHoliday_84 ?_
          refine lv_iconst (v := 1) hx hb dX13_addHoliday_85 (by decide) ?_
          refine lv_iadd hx hb dX13_addHoliday_86 ?_
          obtain ⟨j54, hj54, hf⟩ := bnd hf
          obtain ⟨w55, hw55, hf⟩ := bnd hf
          replace hw55 := Option.some.inj hw55
          refine hw_iast (x := ((aI w51 a52.1 j53) + 1)) hx hb hKs hH ha52.1 ha52.2 hj54 dX13_addHoliday_87 (fun H locs hH => ?_)
          rw [hw55] at hH
          refine lv_iconst (v := 0) hx hb dX13_addHoliday_88 (by decide) ?_
          refine lv_istore_n (i := 2) (lv' := [(2, .int 0), (0, rv E (some o)), (1, .int a_1)]) hx hb dX13_addHoliday_89 rfl hl (by decide) rfl (fun ls hl => ?_)
          refine lv_iconst (v := 0) hx hb dX13_addHoliday_90 (by decide) ?_
          refine lv_istore_n (i := 3) (lv' := [(3, .int 0), (2, .int 0), (0, rv E (some o)), (1, .int a_1)]) hx hb dX13_addHoliday_91 rfl hl (by decide) rfl (fun ls hl => ?_)
          refine l_X13_addHoliday_L92  C ho _ (fun v1_92 v2_92 v3_92 w56 H locs ls hH hl hf => ?_) fu a_1 0 0 w55 _ _ _ hH (lv_sub hl [3, 1, 0, 2] rfl) hf
          refine hl_aload_n hx hb dX13_addHoliday_141 rfl (lv_at hl 3 rfl) ?_
          refine lv_iload_n hx hb dX13_addHoliday_142 rfl (lv_at hl 1 rfl) ?_
          obtain ⟨q57, hq57, hf⟩ := bnd hf
          refine hcV_i hx hb hml hown hts hKs hT hb0 hH (As := [.int v2_92]) (rest := []) (k_X13_done l E K H.size o v2_92 w56 ho hq57) (gV m8_50 m8_52 ms_83 m1_16 m8_53) hd_X13_done ⟨Nat.le_of_ble_eq_true rfl, Nat.le_of_ble_eq_true rfl, rfl, rfl⟩ rfl ho rfl rfl rfl hl.1 rfl rc0 rfl dX13_addHoliday_143 ⟨Nat.zero_le _, Nat.zero_le _⟩ (fun H locs hH => ?_)
          exact hw_iret hx hb hret hf hH hlocks dX13_addHoliday_146
        · replace hf := (if_pos c46).symm.trans hf
          refine lv_iconst (v := 0) hx hb dX13_addHoliday_54 (by decide) ?_
          exact hw_iret hx hb hret hf hH hlocks dX13_addHoliday_55
end
