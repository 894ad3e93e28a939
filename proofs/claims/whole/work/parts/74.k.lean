section
variable {p : Program} {l : Launch} {e : Env} {s : State} {m : MethodId} {args : Array Value} {below : List Frame} {meth : Method} {c : Code} {E : Ev} {K : Kd} {z : Nat}

theorem dX6_faultOf_0 : decode cX6_faultOf 0 = .ok (.aload_n 1, 1) := by decide +kernel
theorem dX6_faultOf_1 : decode cX6_faultOf 1 = .ok (.getfield 24, 3) := by decide +kernel
theorem dX6_faultOf_4 : decode cX6_faultOf 4 = .ok (.getfield 30, 3) := by decide +kernel
theorem dX6_faultOf_7 : decode cX6_faultOf 7 = .ok (.iload_n 2, 1) := by decide +kernel
theorem dX6_faultOf_8 : decode cX6_faultOf 8 = .ok (.aaload, 1) := by decide +kernel
theorem dX6_faultOf_9 : decode cX6_faultOf 9 = .ok (.astore 7, 2) := by decide +kernel
theorem dX6_faultOf_11 : decode cX6_faultOf 11 = .ok (.iload_n 3, 1) := by decide +kernel
theorem dX6_faultOf_12 : decode cX6_faultOf 12 = .ok (.aload_n 1, 1) := by decide +kernel
theorem dX6_faultOf_13 : decode cX6_faultOf 13 = .ok (.getfield 36, 3) := by decide +kernel
theorem dX6_faultOf_16 : decode cX6_faultOf 16 = .ok (.if_icmp .lt 20, 3) := by decide +kernel
theorem dX6_faultOf_19 : decode cX6_faultOf 19 = .ok (.iload_n 3, 1) := by decide +kernel
theorem dX6_faultOf_20 : decode cX6_faultOf 20 = .ok (.aload 7, 2) := by decide +kernel
theorem dX6_faultOf_22 : decode cX6_faultOf 22 = .ok (.getfield 40, 3) := by decide +kernel
theorem dX6_faultOf_25 : decode cX6_faultOf 25 = .ok (.if_icmp .lt 11, 3) := by decide +kernel
theorem dX6_faultOf_28 : decode cX6_faultOf 28 = .ok (.aload_n 1, 1) := by decide +kernel
theorem dX6_faultOf_29 : decode cX6_faultOf 29 = .ok (.iload_n 3, 1) := by decide +kernel
theorem dX6_faultOf_30 : decode cX6_faultOf 30 = .ok (.invokevirtual 45, 3) := by decide +kernel
theorem dX6_faultOf_33 : decode cX6_faultOf 33 = .ok (.ifCond .ne 5, 3) := by decide +kernel
theorem dX6_faultOf_36 : decode cX6_faultOf 36 = .ok (.iconst 1, 1) := by decide +kernel
theorem dX6_faultOf_37 : decode cX6_faultOf 37 = .ok (.ireturn, 1) := by decide +kernel
theorem dX6_faultOf_38 : decode cX6_faultOf 38 = .ok (.iload_n 3, 1) := by decide +kernel
theorem dX6_faultOf_39 : decode cX6_faultOf 39 = .ok (.aload_n 1, 1) := by decide +kernel
theorem dX6_faultOf_40 : decode cX6_faultOf 40 = .ok (.iload_n 2, 1) := by decide +kernel
theorem dX6_faultOf_41 : decode cX6_faultOf 41 = .ok (.invokevirtual 49, 3) := by decide +kernel
theorem dX6_faultOf_44 : decode cX6_faultOf 44 = .ok (.if_icmp .le 5, 3) := by decide +kernel
theorem dX6_faultOf_47 : decode cX6_faultOf 47 = .ok (.iconst 2, 1) := by decide +kernel
theorem dX6_faultOf_48 : decode cX6_faultOf 48 = .ok (.ireturn, 1) := by decide +kernel
theorem dX6_faultOf_49 : decode cX6_faultOf 49 = .ok (.aload_n 0, 1) := by decide +kernel
theorem dX6_faultOf_50 : decode cX6_faultOf 50 = .ok (.aload_n 1, 1) := by decide +kernel
theorem dX6_faultOf_51 : decode cX6_faultOf 51 = .ok (.iload_n 2, 1) := by decide +kernel
theorem dX6_faultOf_52 : decode cX6_faultOf 52 = .ok (.invokevirtual 53, 3) := by decide +kernel
theorem dX6_faultOf_55 : decode cX6_faultOf 55 = .ok (.aload_n 0, 1) := by decide +kernel
theorem dX6_faultOf_56 : decode cX6_faultOf 56 = .ok (.aload_n 1, 1) := by decide +kernel
theorem dX6_faultOf_57 : decode cX6_faultOf 57 = .ok (.iload_n 2, 1) := by decide +kernel
theorem dX6_faultOf_58 : decode cX6_faultOf 58 = .ok (.iload_n 3, 1) := by decide +kernel
theorem dX6_faultOf_59 : decode cX6_faultOf 59 = .ok (.iconst 0, 1) := by decide +kernel
theorem dX6_faultOf_60 : decode cX6_faultOf 60 = .ok (.invokevirtual 57, 3) := by decide +kernel
theorem dX6_faultOf_63 : decode cX6_faultOf 63 = .ok (.iload 4, 2) := by decide +kernel
theorem dX6_faultOf_65 : decode cX6_faultOf 65 = .ok (.aload 7, 2) := by decide +kernel
theorem dX6_faultOf_67 : decode cX6_faultOf 67 = .ok (.getfield 61, 3) := by decide +kernel
theorem dX6_faultOf_70 : decode cX6_faultOf 70 = .ok (.invokestatic 64, 3) := by decide +kernel
theorem dX6_faultOf_73 : decode cX6_faultOf 73 = .ok (.istore 8, 2) := by decide +kernel
theorem dX6_faultOf_75 : decode cX6_faultOf 75 = .ok (.iload 8, 2) := by decide +kernel
theorem dX6_faultOf_77 : decode cX6_faultOf 77 = .ok (.aload_n 1, 1) := by decide +kernel
theorem dX6_faultOf_78 : decode cX6_faultOf 78 = .ok (.getfield 24, 3) := by decide +kernel
theorem dX6_faultOf_81 : decode cX6_faultOf 81 = .ok (.getfield 68, 3) := by decide +kernel
theorem dX6_faultOf_84 : decode cX6_faultOf 84 = .ok (.iload 5, 2) := by decide +kernel
theorem dX6_faultOf_86 : decode cX6_faultOf 86 = .ok (.iaload, 1) := by decide +kernel
theorem dX6_faultOf_87 : decode cX6_faultOf 87 = .ok (.iconst (-1), 1) := by decide +kernel
theorem dX6_faultOf_88 : decode cX6_faultOf 88 = .ok (.ixor, 1) := by decide +kernel
theorem dX6_faultOf_89 : decode cX6_faultOf 89 = .ok (.iand, 1) := by decide +kernel
theorem dX6_faultOf_90 : decode cX6_faultOf 90 = .ok (.ifCond .eq 5, 3) := by decide +kernel
theorem dX6_faultOf_93 : decode cX6_faultOf 93 = .ok (.iconst 3, 1) := by decide +kernel
theorem dX6_faultOf_94 : decode cX6_faultOf 94 = .ok (.ireturn, 1) := by decide +kernel
theorem dX6_faultOf_95 : decode cX6_faultOf 95 = .ok (.iload 8, 2) := by decide +kernel
theorem dX6_faultOf_97 : decode cX6_faultOf 97 = .ok (.aload_n 0, 1) := by decide +kernel
theorem dX6_faultOf_98 : decode cX6_faultOf 98 = .ok (.getfield 9, 3) := by decide +kernel
theorem dX6_faultOf_101 : decode cX6_faultOf 101 = .ok (.iload 5, 2) := by decide +kernel
theorem dX6_faultOf_103 : decode cX6_faultOf 103 = .ok (.iaload, 1) := by decide +kernel
theorem dX6_faultOf_104 : decode cX6_faultOf 104 = .ok (.iand, 1) := by decide +kernel
theorem dX6_faultOf_105 : decode cX6_faultOf 105 = .ok (.ifCond .eq 5, 3) := by decide +kernel
theorem dX6_faultOf_108 : decode cX6_faultOf 108 = .ok (.iconst 4, 1) := by decide +kernel
theorem dX6_faultOf_109 : decode cX6_faultOf 109 = .ok (.ireturn, 1) := by decide +kernel
theorem dX6_faultOf_110 : decode cX6_faultOf 110 = .ok (.aload_n 0, 1) := by decide +kernel
theorem dX6_faultOf_111 : decode cX6_faultOf 111 = .ok (.getfield 71, 3) := by decide +kernel
theorem dX6_faultOf_114 : decode cX6_faultOf 114 = .ok (.iload 6, 2) := by decide +kernel
theorem dX6_faultOf_116 : decode cX6_faultOf 116 = .ok (.invokestatic 74, 3) := by decide +kernel
theorem dX6_faultOf_119 : decode cX6_faultOf 119 = .ok (.ifCond .eq 5, 3) := by decide +kernel
theorem dX6_faultOf_122 : decode cX6_faultOf 122 = .ok (.iconst 5, 1) := by decide +kernel
theorem dX6_faultOf_123 : decode cX6_faultOf 123 = .ok (.ireturn, 1) := by decide +kernel
theorem dX6_faultOf_124 : decode cX6_faultOf 124 = .ok (.iload 8, 2) := by decide +kernel
theorem dX6_faultOf_126 : decode cX6_faultOf 126 = .ok (.aload_n 0, 1) := by decide +kernel
theorem dX6_faultOf_127 : decode cX6_faultOf 127 = .ok (.getfield 15, 3) := by decide +kernel
theorem dX6_faultOf_130 : decode cX6_faultOf 130 = .ok (.iload 6, 2) := by decide +kernel
theorem dX6_faultOf_132 : decode cX6_faultOf 132 = .ok (.iaload, 1) := by decide +kernel
theorem dX6_faultOf_133 : decode cX6_faultOf 133 = .ok (.iand, 1) := by decide +kernel
theorem dX6_faultOf_134 : decode cX6_faultOf 134 = .ok (.ifCond .eq 6, 3) := by decide +kernel
theorem dX6_faultOf_137 : decode cX6_faultOf 137 = .ok (.bipush 6, 2) := by decide +kernel
theorem dX6_faultOf_139 : decode cX6_faultOf 139 = .ok (.ireturn, 1) := by decide +kernel
theorem dX6_faultOf_140 : decode cX6_faultOf 140 = .ok (.aload_n 0, 1) := by decide +kernel
theorem dX6_faultOf_141 : decode cX6_faultOf 141 = .ok (.getfield 78, 3) := by decide +kernel
theorem dX6_faultOf_144 : decode cX6_faultOf 144 = .ok (.iload 6, 2) := by decide +kernel
theorem dX6_faultOf_146 : decode cX6_faultOf 146 = .ok (.invokestatic 74, 3) := by decide +kernel
theorem dX6_faultOf_149 : decode cX6_faultOf 149 = .ok (.ifCond .eq 6, 3) := by decide +kernel
theorem dX6_faultOf_152 : decode cX6_faultOf 152 = .ok (.bipush 7, 2) := by decide +kernel
theorem dX6_faultOf_154 : decode cX6_faultOf 154 = .ok (.ireturn, 1) := by decide +kernel
theorem dX6_faultOf_155 : decode cX6_faultOf 155 = .ok (.iload 8, 2) := by decide +kernel
theorem dX6_faultOf_157 : decode cX6_faultOf 157 = .ok (.aload_n 0, 1) := by decide +kernel
theorem dX6_faultOf_158 : decode cX6_faultOf 158 = .ok (.getfield 81, 3) := by decide +kernel
theorem dX6_faultOf_161 : decode cX6_faultOf 161 = .ok (.iand, 1) := by decide +kernel
theorem dX6_faultOf_162 : decode cX6_faultOf 162 = .ok (.ifCond .eq 6, 3) := by decide +kernel
theorem dX6_faultOf_165 : decode cX6_faultOf 165 = .ok (.bipush 8, 2) := by decide +kernel
theorem dX6_faultOf_167 : decode cX6_faultOf 167 = .ok (.ireturn, 1) := by decide +kernel
theorem dX6_faultOf_168 : decode cX6_faultOf 168 = .ok (.iload 8, 2) := by decide +kernel
theorem dX6_faultOf_170 : decode cX6_faultOf 170 = .ok (.aload_n 0, 1) := by decide +kernel
theorem dX6_faultOf_171 : decode cX6_faultOf 171 = .ok (.getfield 84, 3) := by decide +kernel
theorem dX6_faultOf_174 : decode cX6_faultOf 174 = .ok (.iand, 1) := by decide +kernel
theorem dX6_faultOf_175 : decode cX6_faultOf 175 = .ok (.ifCond .eq 8, 3) := by decide +kernel
theorem dX6_faultOf_178 : decode cX6_faultOf 178 = .ok (.bipush 9, 2) := by decide +kernel
theorem dX6_faultOf_180 : decode cX6_faultOf 180 = .ok (.goto 4, 3) := by decide +kernel
theorem dX6_faultOf_183 : decode cX6_faultOf 183 = .ok (.iconst 0, 1) := by decide +kernel
theorem dX6_faultOf_184 : decode cX6_faultOf 184 = .ok (.ireturn, 1) := by decide +kernel
theorem hd_X6_faultOf : yX6_faultOf.cls = RX6 ∧ yX6_faultOf.cls ≠ "java/lang/invoke/MethodHandle" ∧ yX6_faultOf.cls ≠ "java/lang/invoke/VarHandle" ∧ (parseMethodDescriptor yX6_faultOf.desc).map (fun d => d.parameters.length) = some 6 := by decide +kernel
theorem hs_X6_faultOf : yX6_faultOf.cls ≠ "java/lang/invoke/MethodHandle" ∧ yX6_faultOf.cls ≠ "java/lang/invoke/VarHandle" ∧ (parseMethodDescriptor yX6_faultOf.desc).map (fun d => d.parameters.length) = some 6 := by decide +kernel
set_option maxHeartbeats 4000000 in
set_option maxRecDepth 100000 in
theorem k_X6_faultOf (l : Launch) (E : Ev) (K : Kd) (z : Nat) (o : Nat) (a_1 : Option Nat) (a_2 : Int32) (a_3 : Int32) (a_4 : Int32) (a_5 : Int32) (a_6 : Int32) (w : Wd) (ho : K o = some (5, 0)) {r : Int32} {w' : Wd} (hf : f_X6_faultOf K o a_1 a_2 a_3 a_4 a_5 a_6 w = some (r, w')) : Met l yX6_faultOf (Cond.code yX6_faultOf cX6_faultOf 9 (Option.some Jvm.ClassFile.FieldType.int) :: bt) ({ frames := 3, cells := 0, slots := 0, locals := 76 } : Room) (va_Pc [rv E (some o), rv E a_1, .int a_2, .int a_3, .int a_4, .int a_5, .int a_6] (HB E K w z)) (QI E K z w' r) 0 0 (hA E) := by
  refine Met.ofW (cc := cX6_faultOf) (maxL := 9) (ret := (Option.some Jvm.ClassFile.FieldType.int)) (by decide) rfl ?_
  intro p e s m args below meth c s₁ B hml hv
  obtain ⟨rfl, hz, hP, hKs, hT, hb0⟩ := hv
  have C : CX p l e s m _ meth c cX6_faultOf 9 RX6 (Option.some Jvm.ClassFile.FieldType.int) E := ⟨B.exec, B.bytes, hml, findClass_of_methodNamed B.named, fun w h => atoms_spec (ws := Cond.code yX6_faultOf cX6_faultOf 9 (Option.some Jvm.ClassFile.FieldType.int) :: bt) B.pre w (List.mem_cons_of_mem _ h), hKs, hT, by rw [hz]; exact hb0, B.notSynchronized, B.returns⟩
  have hH : HQ E K z w s s.heap [] := ⟨hP, va_S.rf, hz⟩
  obtain ⟨hx, hb, hml, hown, hts, hKs, hT, hb0, hlocks, hret⟩ := id C
  have hl := lv_entry [rv E (some o), rv E a_1, .int a_2, .int a_3, .int a_4, .int a_5, .int a_6] (n := 9) (by simp [lg_len_nil, lg_len_i, lg_len_j, lg_len_q, lg_len_f, lg_len_d, lg_len_r])
  rw [lg_entry_eq]
  generalize (lg_sl [rv E (some o), rv E a_1, .int a_2, .int a_3, .int a_4, .int a_5, .int a_6] ++ List.replicate (9 - (lg_sl [rv E (some o), rv E a_1, .int a_2, .int a_3, .int a_4, .int a_5, .int a_6]).length) Slot.unset).toArray = ls at hl ⊢
  replace hl : lv_has ls 9 [(0, rv E (some o)), (1, rv E a_1), (2, .int a_2), (3, .int a_3), (4, .int a_4), (5, .int a_5), (6, .int a_6)] := by simpa only [lv_args, cat_q, cat_i, cat_j, reduceIte, Nat.reduceEqDiff, Nat.reduceAdd, Nat.zero_add] using hl
  generalize s.heap = H at hH ⊢
  unfold f_X6_faultOf at hf
  refine hl_aload_n hx hb dX6_faultOf_0 rfl (lv_at hl 1 rfl) ?_
  obtain ⟨a1, ha1, hf⟩ := bnd hf
  replace ha1 := chk_some ha1
  refine gn10_0 hx hb hts hown hKs hH ha1.1 ha1.2 m2_120 dX6_faultOf_1 ?_
  obtain ⟨a2, ha2, hf⟩ := bnd hf
  replace ha2 := chk_some ha2
  refine gn9_9 hx hb hts hown hKs hH ha2.1 ha2.2 m1_176 dX6_faultOf_4 ?_
  refine lv_iload_n hx hb dX6_faultOf_7 rfl (lv_at hl 2 rfl) ?_
  obtain ⟨a3, ha3, hf⟩ := bnd hf
  replace ha3 := cha_some ha3
  obtain ⟨j4, hj4, hf⟩ := bnd hf
  refine hw_aald25 hx hb hKs hH ha3.1 ha3.2 hj4 dX6_faultOf_8 ?_
  refine hl_astore (lv' := [(7, rv E (aR w a3.1 j4)), (0, rv E (some o)), (1, rv E a_1), (2, .int a_2), (3, .int a_3), (4, .int a_4), (5, .int a_5), (6, .int a_6)]) hx hb dX6_faultOf_9 hl (by decide) rfl (fun ls hl => ?_)
  refine lv_iload_n hx hb dX6_faultOf_11 rfl (lv_at hl 4 rfl) ?_
  refine hl_aload_n hx hb dX6_faultOf_12 rfl (lv_at hl 2 rfl) ?_
  refine gn10_1 hx hb hts hown hKs hH ha1.1 ha1.2 m2_124 dX6_faultOf_13 ?_
  refine lv_icmp_lt (tgt := 36) hx hb dX6_faultOf_16 (by decide) (fun c5 => ?_) (fun c5 => ?_)
  · replace hf := (if_pos c5).symm.trans hf
    refine lv_iconst (v := 1) hx hb dX6_faultOf_36 (by decide) ?_
    exact hw_iret hx hb hret hf hH hlocks dX6_faultOf_37
  · replace hf := (if_neg c5).symm.trans hf
    refine lv_iload_n hx hb dX6_faultOf_19 rfl (lv_at hl 4 rfl) ?_
    refine hl_aload hx hb dX6_faultOf_20 (lv_at hl 0 rfl) ?_
    obtain ⟨a6, ha6, hf⟩ := bnd hf
    replace ha6 := chk_some ha6
    refine gn3_0 hx hb hts hown hKs hH ha6.1 ha6.2 m1_88 dX6_faultOf_22 ?_
    refine lv_icmp_lt (tgt := 36) hx hb dX6_faultOf_25 (by decide) (fun c7 => ?_) (fun c7 => ?_)
    · replace hf := (if_pos c7).symm.trans hf
      refine lv_iconst (v := 1) hx hb dX6_faultOf_36 (by decide) ?_
      exact hw_iret hx hb hret hf hH hlocks dX6_faultOf_37
    · replace hf := (if_neg c7).symm.trans hf
      refine hl_aload_n hx hb dX6_faultOf_28 rfl (lv_at hl 2 rfl) ?_
      refine lv_iload_n hx hb dX6_faultOf_29 rfl (lv_at hl 4 rfl) ?_
      obtain ⟨q8, hq8, hf⟩ := bnd hf
      refine hcV_i hx hb hml hown hts hKs hT hb0 hH (As := [.int a_3]) (rest := []) (k_X10_works l E K H.size a1 a_3 w ha1.2 hq8) (gV m4_142 m4_71 m4_72 m1_12 m4_73) hd_X10_works ⟨Nat.le_of_ble_eq_true rfl, Nat.le_of_ble_eq_true rfl, rfl, rfl⟩ ha1.1 ha1.2 rfl rfl rfl hl.1 rfl rc0 rfl dX6_faultOf_30 ⟨Nat.zero_le _, Nat.zero_le _⟩ (fun H locs hH => ?_)
      refine lv_if_ne (tgt := 38) hx hb dX6_faultOf_33 (by decide) (fun c9 => ?_) (fun c9 => ?_)
      · replace hf := (if_neg c9).symm.trans hf
        refine lv_iload_n hx hb dX6_faultOf_38 rfl (lv_at hl 4 rfl) ?_
        refine hl_aload_n hx hb dX6_faultOf_39 rfl (lv_at hl 2 rfl) ?_
        refine lv_iload_n hx hb dX6_faultOf_40 rfl (lv_at hl 3 rfl) ?_
        obtain ⟨q10, hq10, hf⟩ := bnd hf
        refine hcV_i hx hb hml hown hts hKs hT hb0 hH (As := [.int a_2]) (rest := [.int a_3]) (k_X10_limitDay l E K H.size a1 a_2 q8.2 ha1.2 hq10) (gV m4_132 m4_67 m4_68 m1_12 m4_69) hd_X10_limitDay ⟨Nat.le_of_ble_eq_true rfl, Nat.le_of_ble_eq_true rfl, rfl, rfl⟩ ha1.1 ha1.2 rfl rfl rfl hl.1 rfl (rcI rc0) rfl dX6_faultOf_41 ⟨Nat.zero_le _, Nat.zero_le _⟩ (fun H locs hH => ?_)
        refine lv_icmp_le (tgt := 49) hx hb dX6_faultOf_44 (by decide) (fun c11 => ?_) (fun c11 => ?_)
        · replace hf := (if_pos c11).symm.trans hf
          refine hl_aload_n hx hb dX6_faultOf_49 rfl (lv_at hl 1 rfl) ?_
          refine hl_aload_n hx hb dX6_faultOf_50 rfl (lv_at hl 2 rfl) ?_
          refine lv_iload_n hx hb dX6_faultOf_51 rfl (lv_at hl 3 rfl) ?_
          obtain ⟨q12, hq12, hf⟩ := bnd hf
          refine hcV_v hx hb hml hown hts hKs hT hb0 hH (As := [rv E a_1, .int a_2]) (rest := []) (k_X6_lookAtOfficers l E K H.size o a_1 a_2 q10.2 ho hq12) (gV m4_115 m4_117 ms_26 m1_14 m4_118) hd_X6_lookAtOfficers ⟨Nat.le_of_ble_eq_true rfl, Nat.le_of_ble_eq_true rfl, rfl, rfl⟩ rfl ho rfl rfl rfl hl.1 rfl rc0 rfl dX6_faultOf_52 ⟨Nat.zero_le _, Nat.zero_le _⟩ (fun H locs hH => ?_)
          refine hl_aload_n hx hb dX6_faultOf_55 rfl (lv_at hl 1 rfl) ?_
          refine hl_aload_n hx hb dX6_faultOf_56 rfl (lv_at hl 2 rfl) ?_
          refine lv_iload_n hx hb dX6_faultOf_57 rfl (lv_at hl 3 rfl) ?_
          refine lv_iload_n hx hb dX6_faultOf_58 rfl (lv_at hl 4 rfl) ?_
          refine lv_iconst (v := 0) hx hb dX6_faultOf_59 (by decide) ?_
          obtain ⟨q13, hq13, hf⟩ := bnd hf
          refine hcV_v hx hb hml hown hts hKs hT hb0 hH (As := [rv E a_1, .int a_2, .int a_3, .int 0]) (rest := []) (k_X6_lookAtDay l E K H.size o a_1 a_2 a_3 0 q12 ho hq13) (gV m4_143 m4_145 ms_28 m1_14 m4_146) hd_X6_lookAtDay ⟨Nat.le_of_ble_eq_true rfl, Nat.le_of_ble_eq_true rfl, rfl, rfl⟩ rfl ho rfl rfl rfl hl.1 rfl rc0 rfl dX6_faultOf_60 ⟨Nat.zero_le _, Nat.zero_le _⟩ (fun H locs hH => ?_)
          refine lv_iload hx hb dX6_faultOf_63 (lv_at hl 5 rfl) ?_
          refine hl_aload hx hb dX6_faultOf_65 (lv_at hl 0 rfl) ?_
          refine gn3_1 hx hb hts hown hKs hH ha6.1 ha6.2 m1_93 dX6_faultOf_67 ?_
          obtain ⟨q14, hq14, hf⟩ := bnd hf
          refine hcM_i hx hb hml hown hts hKs hT hb0 hH (As := [.int a_4, .int ((wI q13 301 a6))]) (rest := []) (k_X12_slotSet l E K H.size a_4 (wI q13 301 a6) q13 hq14) m4_172 m3_155 m1_1 m3_156 hs_X12_slotSet ⟨Nat.le_of_ble_eq_true rfl, Nat.le_of_ble_eq_true rfl, rfl, rfl⟩ hl.1 rfl rc0 rfl dX6_faultOf_70 ⟨Nat.zero_le _, Nat.zero_le _⟩ (fun H locs hH => ?_)
          refine lv_istore (lv' := [(8, .int (q14.1)), (7, rv E (aR w a3.1 j4)), (0, rv E (some o)), (1, rv E a_1), (2, .int a_2), (3, .int a_3), (4, .int a_4), (5, .int a_5), (6, .int a_6)]) hx hb dX6_faultOf_73 hl (by decide) (by simp [List.filter_cons, cat_q, cat_i, cat_j]) (fun ls hl => ?_)
          refine lv_iload hx hb dX6_faultOf_75 (lv_at hl 0 rfl) ?_
          refine hl_aload_n hx hb dX6_faultOf_77 rfl (lv_at hl 3 rfl) ?_
          refine gn10_0 hx hb hts hown hKs hH ha1.1 ha1.2 m2_120 dX6_faultOf_78 ?_
          obtain ⟨a15, ha15, hf⟩ := bnd hf
          replace ha15 := chk_some ha15
          refine gn9_1 hx hb hts hown hKs hH ha15.1 ha15.2 m1_154 dX6_faultOf_81 ?_
          refine lv_iload hx hb dX6_faultOf_84 (lv_at hl 7 rfl) ?_
          obtain ⟨a16, ha16, hf⟩ := bnd hf
          replace ha16 := cha_some ha16
          obtain ⟨j17, hj17, hf⟩ := bnd hf
          refine hw_iald hx hb hKs hH ha16.1 ha16.2 hj17 dX6_faultOf_86 ?_
          refine lv_iconst (v := (-1)) hx hb dX6_faultOf_87 (by decide) ?_
          refine lv_ixor hx hb dX6_faultOf_88 ?_
          refine lv_iand hx hb dX6_faultOf_89 ?_
          refine lv_if_eq (tgt := 95) hx hb dX6_faultOf_90 (by decide) (fun c18 => ?_) (fun c18 => ?_)
          · replace hf := (if_pos c18).symm.trans hf
            refine lv_iload hx hb dX6_faultOf_95 (lv_at hl 0 rfl) ?_
            refine hl_aload_n hx hb dX6_faultOf_97 rfl (lv_at hl 2 rfl) ?_
            refine g6_0 hx hb hts hown hKs hH rfl ho m2_156 dX6_faultOf_98 ?_
            refine lv_iload hx hb dX6_faultOf_101 (lv_at hl 7 rfl) ?_
            obtain ⟨a19, ha19, hf⟩ := bnd hf
            replace ha19 := cha_some ha19
            obtain ⟨j20, hj20, hf⟩ := bnd hf
            refine hw_iald hx hb hKs hH ha19.1 ha19.2 hj20 dX6_faultOf_103 ?_
            refine lv_iand hx hb dX6_faultOf_104 ?_
            refine lv_if_eq (tgt := 110) hx hb dX6_faultOf_105 (by decide) (fun c21 => ?_) (fun c21 => ?_)
            · replace hf := (if_pos c21).symm.trans hf
              refine hl_aload_n hx hb dX6_faultOf_110 rfl (lv_at hl 2 rfl) ?_
              refine g6_5 hx hb hts hown hKs hH rfl ho m2_161 dX6_faultOf_111 ?_
              refine lv_iload hx hb dX6_faultOf_114 (lv_at hl 8 rfl) ?_
              obtain ⟨q22, hq22, hf⟩ := bnd hf
              refine hcM_i hx hb hml hown hts hKs hT hb0 hH (As := [.int ((wI q14.2 605 o)), .int a_6]) (rest := []) (k_X12_has l E K H.size (wI q14.2 605 o) a_6 q14.2 hq22) m4_181 m3_194 m1_1 m3_195 hs_X12_has ⟨Nat.le_of_ble_eq_true rfl, Nat.le_of_ble_eq_true rfl, rfl, rfl⟩ hl.1 rfl rc0 rfl dX6_faultOf_116 ⟨Nat.zero_le _, Nat.zero_le _⟩ (fun H locs hH => ?_)
              refine lv_if_eq (tgt := 124) hx hb dX6_faultOf_119 (by decide) (fun c23 => ?_) (fun c23 => ?_)
              · replace hf := (if_pos c23).symm.trans hf
                refine lv_iload hx hb dX6_faultOf_124 (lv_at hl 0 rfl) ?_
                refine hl_aload_n hx hb dX6_faultOf_126 rfl (lv_at hl 2 rfl) ?_
                refine g6_1 hx hb hts hown hKs hH rfl ho m2_157 dX6_faultOf_127 ?_
                refine lv_iload hx hb dX6_faultOf_130 (lv_at hl 8 rfl) ?_
                obtain ⟨a24, ha24, hf⟩ := bnd hf
                replace ha24 := cha_some ha24
                obtain ⟨j25, hj25, hf⟩ := bnd hf
                refine hw_iald hx hb hKs hH ha24.1 ha24.2 hj25 dX6_faultOf_132 ?_
                refine lv_iand hx hb dX6_faultOf_133 ?_
                refine lv_if_eq (tgt := 140) hx hb dX6_faultOf_134 (by decide) (fun c26 => ?_) (fun c26 => ?_)
                · replace hf := (if_pos c26).symm.trans hf
                  refine hl_aload_n hx hb dX6_faultOf_140 rfl (lv_at hl 2 rfl) ?_
                  refine g6_4 hx hb hts hown hKs hH rfl ho m2_160 dX6_faultOf_141 ?_
                  refine lv_iload hx hb dX6_faultOf_144 (lv_at hl 8 rfl) ?_
                  obtain ⟨q27, hq27, hf⟩ := bnd hf
                  refine hcM_i hx hb hml hown hts hKs hT hb0 hH (As := [.int ((wI q22.2 604 o)), .int a_6]) (rest := []) (k_X12_has l E K H.size (wI q22.2 604 o) a_6 q22.2 hq27) m4_181 m3_194 m1_1 m3_195 hs_X12_has ⟨Nat.le_of_ble_eq_true rfl, Nat.le_of_ble_eq_true rfl, rfl, rfl⟩ hl.1 rfl rc0 rfl dX6_faultOf_146 ⟨Nat.zero_le _, Nat.zero_le _⟩ (fun H locs hH => ?_)
                  refine lv_if_eq (tgt := 155) hx hb dX6_faultOf_149 (by decide) (fun c28 => ?_) (fun c28 => ?_)
                  · replace hf := (if_pos c28).symm.trans hf
                    refine lv_iload hx hb dX6_faultOf_155 (lv_at hl 0 rfl) ?_
                    refine hl_aload_n hx hb dX6_faultOf_157 rfl (lv_at hl 2 rfl) ?_
                    refine g6_6 hx hb hts hown hKs hH rfl ho m2_162 dX6_faultOf_158 ?_
                    refine lv_iand hx hb dX6_faultOf_161 ?_
                    refine lv_if_eq (tgt := 168) hx hb dX6_faultOf_162 (by decide) (fun c29 => ?_) (fun c29 => ?_)
                    · replace hf := (if_pos c29).symm.trans hf
                      refine lv_iload hx hb dX6_faultOf_168 (lv_at hl 0 rfl) ?_
                      refine hl_aload_n hx hb dX6_faultOf_170 rfl (lv_at hl 2 rfl) ?_
                      refine g6_7 hx hb hts hown hKs hH rfl ho m2_163 dX6_faultOf_171 ?_
                      refine lv_iand hx hb dX6_faultOf_174 ?_
                      refine lv_if_eq (tgt := 183) hx hb dX6_faultOf_175 (by decide) (fun c30 => ?_) (fun c30 => ?_)
                      · replace hf := (if_pos c30).symm.trans hf
                        refine lv_iconst (v := 0) hx hb dX6_faultOf_183 (by decide) ?_
                        exact hw_iret hx hb hret hf hH hlocks dX6_faultOf_184
                      · replace hf := (if_neg c30).symm.trans hf
                        refine lv_bipush (v := 9) hx hb dX6_faultOf_178 (by decide) ?_
                        refine lv_goto (tgt := 184) hx hb dX6_faultOf_180 (by decide) ?_
                        exact hw_iret hx hb hret hf hH hlocks dX6_faultOf_184
                    · replace hf := (if_neg c29).symm.trans hf
                      refine lv_bipush (v := 8) hx hb dX6_faultOf_165 (by decide) ?_
                      exact hw_iret hx hb hret hf hH hlocks dX6_faultOf_167
                  · replace hf := (if_neg c28).symm.trans hf
                    refine lv_bipush (v := 7) hx hb dX6_faultOf_152 (by decide) ?_
                    exact hw_iret hx hb hret hf hH hlocks dX6_faultOf_154
                · replace hf := (if_neg c26).symm.trans hf
                  refine lv_bipush (v := 6) hx hb dX6_faultOf_137 (by decide) ?_
                  exact hw_iret hx hb hret hf hH hlocks dX6_faultOf_139
              · replace hf := (if_neg c23).symm.trans hf
                refine lv_iconst (v := 5) hx hb dX6_faultOf_122 (by decide) ?_
                exact hw_iret hx hb hret hf hH hlocks dX6_faultOf_123
            · replace hf := (if_neg c21).symm.trans hf
              refine lv_iconst (v := 4) hx hb dX6_faultOf_108 (by decide) ?_
              exact hw_iret hx hb hret hf hH hlocks dX6_faultOf_109
          · replace hf := (if_neg c18).symm.trans hf
            refine lv_iconst (v := 3) hx hb dX6_faultOf_93 (by decide) ?_
            exact hw_iret hx hb hret hf hH hlocks dX6_faultOf_94
        · replace hf := (if_neg c11).symm.trans hf
          refine lv_iconst (v := 2) hx hb dX6_faultOf_47 (by decide) ?_
          exact hw_iret hx hb hret hf hH hlocks dX6_faultOf_48
      · replace hf := (if_pos c9).symm.trans hf
        refine lv_iconst (v := 1) hx hb dX6_faultOf_36 (by decide) ?_
        exact hw_iret hx hb hret hf hH hlocks dX6_faultOf_37

theorem dX6_findOn_0 : decode cX6_findOn 0 = .ok (.aload_n 1, 1) := by decide +kernel
theorem dX6_findOn_1 : decode cX6_findOn 1 = .ok (.iload_n 3, 1) := by decide +kernel
theorem dX6_findOn_2 : decode cX6_findOn 2 = .ok (.invokevirtual 45, 3) := by decide +kernel
theorem dX6_findOn_5 : decode cX6_findOn 5 = .ok (.ifCond .ne 5, 3) := by decide +kernel
theorem dX6_findOn_8 : decode cX6_findOn 8 = .ok (.iconst 0, 1) := by decide +kernel
theorem dX6_findOn_9 : decode cX6_findOn 9 = .ok (.ireturn, 1) := by decide +kernel
theorem dX6_findOn_10 : decode cX6_findOn 10 = .ok (.aload_n 0, 1) := by decide +kernel
theorem dX6_findOn_11 : decode cX6_findOn 11 = .ok (.aload_n 1, 1) := by decide +kernel
theorem dX6_findOn_12 : decode cX6_findOn 12 = .ok (.iload_n 2, 1) := by decide +kernel
theorem dX6_findOn_13 : decode cX6_findOn 13 = .ok (.iload_n 3, 1) := by decide +kernel
theorem dX6_findOn_14 : decode cX6_findOn 14 = .ok (.iload 4, 2) := by decide +kernel
theorem dX6_findOn_16 : decode cX6_findOn 16 = .ok (.invokevirtual 57, 3) := by decide +kernel
theorem dX6_findOn_19 : decode cX6_findOn 19 = .ok (.aload_n 1, 1) := by decide +kernel
theorem dX6_findOn_20 : decode cX6_findOn 20 = .ok (.getfield 24, 3) := by decide +kernel
theorem dX6_findOn_23 : decode cX6_findOn 23 = .ok (.getfield 30, 3) := by decide +kernel
theorem dX6_findOn_26 : decode cX6_findOn 26 = .ok (.iload_n 2, 1) := by decide +kernel
theorem dX6_findOn_27 : decode cX6_findOn 27 = .ok (.aaload, 1) := by decide +kernel
theorem dX6_findOn_28 : decode cX6_findOn 28 = .ok (.getfield 61, 3) := by decide +kernel
theorem dX6_findOn_31 : decode cX6_findOn 31 = .ok (.istore 5, 2) := by decide +kernel
theorem dX6_findOn_33 : decode cX6_findOn 33 = .ok (.iconst 0, 1) := by decide +kernel
theorem dX6_findOn_34 : decode cX6_findOn 34 = .ok (.istore 6, 2) := by decide +kernel
theorem dX6_findOn_36 : decode cX6_findOn 36 = .ok (.iload 6, 2) := by decide +kernel
theorem dX6_findOn_38 : decode cX6_findOn 38 = .ok (.iload 5, 2) := by decide +kernel
theorem dX6_findOn_40 : decode cX6_findOn 40 = .ok (.iadd, 1) := by decide +kernel
theorem dX6_findOn_41 : decode cX6_findOn 41 = .ok (.bipush 8, 2) := by decide +kernel
theorem dX6_findOn_43 : decode cX6_findOn 43 = .ok (.if_icmp .gt 59, 3) := by decide +kernel
theorem dX6_findOn_46 : decode cX6_findOn 46 = .ok (.iload 6, 2) := by decide +kernel
theorem dX6_findOn_48 : decode cX6_findOn 48 = .ok (.iload 5, 2) := by decide +kernel
theorem dX6_findOn_50 : decode cX6_findOn 50 = .ok (.invokestatic 64, 3) := by decide +kernel
theorem dX6_findOn_53 : decode cX6_findOn 53 = .ok (.istore 7, 2) := by decide +kernel
theorem dX6_findOn_55 : decode cX6_findOn 55 = .ok (.iload 7, 2) := by decide +kernel
theorem dX6_findOn_57 : decode cX6_findOn 57 = .ok (.aload_n 0, 1) := by decide +kernel
theorem dX6_findOn_58 : decode cX6_findOn 58 = .ok (.getfield 81, 3) := by decide +kernel
theorem dX6_findOn_61 : decode cX6_findOn 61 = .ok (.aload_n 0, 1) := by decide +kernel
theorem dX6_findOn_62 : decode cX6_findOn 62 = .ok (.getfield 84, 3) := by decide +kernel
theorem dX6_findOn_65 : decode cX6_findOn 65 = .ok (.ior, 1) := by decide +kernel
theorem dX6_findOn_66 : decode cX6_findOn 66 = .ok (.iand, 1) := by decide +kernel
theorem dX6_findOn_67 : decode cX6_findOn 67 = .ok (.ifCond .ne 29, 3) := by decide +kernel
theorem dX6_findOn_70 : decode cX6_findOn 70 = .ok (.aload_n 0, 1) := by decide +kernel
theorem dX6_findOn_71 : decode cX6_findOn 71 = .ok (.aload_n 1, 1) := by decide +kernel
theorem dX6_findOn_72 : decode cX6_findOn 72 = .ok (.getfield 24, 3) := by decide +kernel
theorem dX6_findOn_75 : decode cX6_findOn 75 = .ok (.iload 7, 2) := by decide +kernel
theorem dX6_findOn_77 : decode cX6_findOn 77 = .ok (.invokevirtual 137, 3) := by decide +kernel
theorem dX6_findOn_80 : decode cX6_findOn 80 = .ok (.ifCond .eq 16, 3) := by decide +kernel
theorem dX6_findOn_83 : decode cX6_findOn 83 = .ok (.aload_n 0, 1) := by decide +kernel
theorem dX6_findOn_84 : decode cX6_findOn 84 = .ok (.iload_n 3, 1) := by decide +kernel
theorem dX6_findOn_85 : decode cX6_findOn 85 = .ok (.putfield 102, 3) := by decide +kernel
theorem dX6_findOn_88 : decode cX6_findOn 88 = .ok (.aload_n 0, 1) := by decide +kernel
theorem dX6_findOn_89 : decode cX6_findOn 89 = .ok (.iload 6, 2) := by decide +kernel
theorem dX6_findOn_91 : decode cX6_findOn 91 = .ok (.putfield 103, 3) := by decide +kernel
theorem dX6_findOn_94 : decode cX6_findOn 94 = .ok (.iconst 1, 1) := by decide +kernel
theorem dX6_findOn_95 : decode cX6_findOn 95 = .ok (.ireturn, 1) := by decide +kernel
theorem dX6_findOn_96 : decode cX6_findOn 96 = .ok (.iinc 6 1, 3) := by decide +kernel
theorem dX6_findOn_99 : decode cX6_findOn 99 = .ok (.goto (-63), 3) := by decide +kernel
theorem dX6_findOn_102 : decode cX6_findOn 102 = .ok (.iconst 0, 1) := by decide +kernel
theorem dX6_findOn_103 : decode cX6_findOn 103 = .ok (.ireturn, 1) := by decide +kernel
theorem hd_X6_findOn : yX6_findOn.cls = RX6 ∧ yX6_findOn.cls ≠ "java/lang/invoke/MethodHandle" ∧ yX6_findOn.cls ≠ "java/lang/invoke/VarHandle" ∧ (parseMethodDescriptor yX6_findOn.desc).map (fun d => d.parameters.length) = some 4 := by decide +kernel
theorem hs_X6_findOn : yX6_findOn.cls ≠ "java/lang/invoke/MethodHandle" ∧ yX6_findOn.cls ≠ "java/lang/invoke/VarHandle" ∧ (parseMethodDescriptor yX6_findOn.desc).map (fun d => d.parameters.length) = some 4 := by decide +kernel
set_option maxHeartbeats 4000000 in
set_option maxRecDepth 100000 in
theorem l_X6_findOn_L36 (C : CX p l e s m args meth c cX6_findOn 8 RX6 (Option.some Jvm.ClassFile.FieldType.boolean) E) {o : Nat} (ho : K o = some (5, 0)) {r : Bool} {w' : Wd} (k : Option Nat → Int32 → Int32 → Int32 → Int32 → Int32 → Wd → Option (Bool × Wd)) (hk : ∀ (v1_36 : Option Nat) (v2_36 : Int32) (v3_36 : Int32) (v4_36 : Int32) (v5_36 : Int32) (v6_36 : Int32) (w : Wd) (H : Heap) (locs : List Loc) (ls : Array Slot), HQ E K z w s H locs → lv_has ls 8 [(1, rv E v1_36), (2, .int v2_36), (3, .int v3_36), (4, .int v4_36), (5, .int v5_36), (6, .int v6_36), (0, rv E (some o))] → k v1_36 v2_36 v3_36 v4_36 v5_36 v6_36 w = some (r, w') → W p l e ({ frames := 3, cells := 0, slots := 0, locals := 76 } : Room) s m args below meth c H locs 0 0 (MQ below (QI E K z w' (b2i r)) args s 0 0 (hA E)) (F0 m 102 ls [])) : ∀ (n : Nat) (v1_36 : Option Nat) (v2_36 : Int32) (v3_36 : Int32) (v4_36 : Int32) (v5_36 : Int32) (v6_36 : Int32) (w : Wd) (H : Heap) (locs : List Loc) (ls : Array Slot), HQ E K z w s H locs → lv_has ls 8 [(1, rv E v1_36), (2, .int v2_36), (3, .int v3_36), (4, .int v4_36), (5, .int v5_36), (6, .int v6_36), (0, rv E (some o))] → f_X6_findOn_L36 K o k n v1_36 v2_36 v3_36 v4_36 v5_36 v6_36 w = some (r, w') → W p l e ({ frames := 3, cells := 0, slots := 0, locals := 76 } : Room) s m args below meth c H locs 0 0 (MQ below (QI E K z w' (b2i r)) args s 0 0 (hA E)) (F0 m 36 ls []) := by
  obtain ⟨hx, hb, hml, hown, hts, hKs, hT, hb0, hlocks, hret⟩ := id C
  intro n
  induction n with
  | zero =>
    intro v1_36 v2_36 v3_36 v4_36 v5_36 v6_36 w H locs ls hH hl hf
    cases hf
  | succ n ih =>
    intro v1_36 v2_36 v3_36 v4_36 v5_36 v6_36 w H locs ls hH hl hf
    rw [f_X6_findOn_L36] at hf
    refine lv_iload hx hb dX6_findOn_36 (lv_at hl 5 rfl) ?_
    refine lv_iload hx hb dX6_findOn_38 (lv_at hl 4 rfl) ?_
    refine lv_iadd hx hb dX6_findOn_40 ?_
    refine lv_bipush (v := 8) hx hb dX6_findOn_41 (by decide) ?_
    refine lv_icmp_gt (tgt := 102) hx hb dX6_findOn_43 (by decide) (fun c10 => ?_) (fun c10 => ?_)
    · replace hf := (if_pos c10).symm.trans hf
      exact hk v1_36 v2_36 v3_36 v4_36 v5_36 v6_36 _ _ _ _ hH (lv_sub hl [0, 1, 2, 3, 4, 5, 6] rfl) hf
    · replace hf := (if_neg c10).symm.trans hf
      refine lv_iload hx hb dX6_findOn_46 (lv_at hl 5 rfl) ?_
      refine lv_iload hx hb dX6_findOn_48 (lv_at hl 4 rfl) ?_
      obtain ⟨q11, hq11, hf⟩ := bnd hf
      refine hcM_i hx hb hml hown hts hKs hT hb0 hH (As := [.int v6_36, .int v5_36]) (rest := []) (k_X12_slotSet l E K H.size v6_36 v5_36 w hq11) m4_172 m3_155 m1_1 m3_156 hs_X12_slotSet ⟨Nat.le_of_ble_eq_true rfl, Nat.le_of_ble_eq_true rfl, rfl, rfl⟩ hl.1 rfl rc0 rfl dX6_findOn_50 ⟨Nat.zero_le _, Nat.zero_le _⟩ (fun H locs hH => ?_)
      refine lv_istore (lv' := [(7, .int (q11.1)), (1, rv E v1_36), (2, .int v2_36), (3, .int v3_36), (4, .int v4_36), (5, .int v5_36), (6, .int v6_36), (0, rv E (some o))]) hx hb dX6_findOn_53 hl (by decide) rfl (fun ls hl => ?_)
      refine lv_iload hx hb dX6_findOn_55 (lv_at hl 0 rfl) ?_
      refine hl_aload_n hx hb dX6_findOn_57 rfl (lv_at hl 7 rfl) ?_
      refine g6_6 hx hb hts hown hKs hH rfl ho m2_162 dX6_findOn_58 ?_
      refine hl_aload_n hx hb dX6_findOn_61 rfl (lv_at hl 7 rfl) ?_
      refine g6_7 hx hb hts hown hKs hH rfl ho m2_163 dX6_findOn_62 ?_
      refine lv_ior hx hb dX6_findOn_65 ?_
      refine lv_iand hx hb dX6_findOn_66 ?_
      refine lv_if_ne (tgt := 96) hx hb dX6_findOn_67 (by decide) (fun c12 => ?_) (fun c12 => ?_)
      · replace hf := (if_neg c12).symm.trans hf
        refine lv_iinc (v := (v6_36 + 1)) (lv' := [(6, .int ((v6_36 + 1))), (7, .int (q11.1)), (1, rv E v1_36), (2, .int v2_36), (3, .int v3_36), (4, .int v4_36), (5, .int v5_36), (0, rv E (some o))]) hx hb dX6_findOn_96 hl (k := 6) rfl rfl (by decide) rfl (fun ls hl => ?_)
        refine lv_goto (tgt := 36) hx hb dX6_findOn_99 (by decide) ?_
        exact ih v1_36 v2_36 v3_36 v4_36 v5_36 (v6_36 + 1) _ _ _ _ hH (lv_sub hl [2, 3, 4, 5, 6, 0, 7] rfl) hf
      · replace hf := (if_pos c12).symm.trans hf
        refine hl_aload_n hx hb dX6_findOn_70 rfl (lv_at hl 7 rfl) ?_
        refine hl_aload_n hx hb dX6_findOn_71 rfl (lv_at hl 1 rfl) ?_
        obtain ⟨a13, ha13, hf⟩ := bnd hf
        replace ha13 := chk_some ha13
        refine gn10_0 hx hb hts hown hKs hH ha13.1 ha13.2 m2_120 dX6_findOn_72 ?_
        refine lv_iload hx hb dX6_findOn_75 (lv_at hl 0 rfl) ?_
        obtain ⟨q14, hq14, hf⟩ := bnd hf
        refine hcV_i hx hb hml hown hts hKs hT hb0 hH (As := [rv E (wR q11.2 1000 a13), .int (q11.1)]) (rest := []) (k_X6_findIn l E K H.size o (wR q11.2 1000 a13) q11.1 q11.2 ho hq14) (gV m4_173 m4_175 ms_29 m1_14 m4_176) hd_X6_findIn ⟨Nat.le_of_ble_eq_true rfl, Nat.le_of_ble_eq_true rfl, rfl, rfl⟩ rfl ho rfl rfl rfl hl.1 rfl rc0 rfl dX6_findOn_77 ⟨Nat.zero_le _, Nat.zero_le _⟩ (fun H locs hH => ?_)
        refine lv_if_eq (tgt := 96) hx hb dX6_findOn_80 (by decide) (fun c15 => ?_) (fun c15 => ?_)
        · replace hf := (if_pos c15).symm.trans hf
          refine lv_iinc (v := (v6_36 + 1)) (lv' := [(6, .int ((v6_36 + 1))), (7, .int (q11.1)), (1, rv E v1_36), (2, .int v2_36), (3, .int v3_36), (4, .int v4_36), (5, .int v5_36), (0, rv E (some o))]) hx hb dX6_findOn_96 hl (k := 6) rfl rfl (by decide) rfl (fun ls hl => ?_)
          refine lv_goto (tgt := 36) hx hb dX6_findOn_99 (by decide) ?_
          exact ih v1_36 v2_36 v3_36 v4_36 v5_36 (v6_36 + 1) _ _ _ _ hH (lv_sub hl [2, 3, 4, 5, 6, 0, 7] rfl) hf
        · replace hf := (if_neg c15).symm.trans hf
          refine hl_aload_n hx hb dX6_findOn_83 rfl (lv_at hl 7 rfl) ?_
          refine lv_iload_n hx hb dX6_findOn_84 rfl (lv_at hl 3 rfl) ?_
          obtain ⟨w16, hw16, hf⟩ := bnd hf
          replace hw16 := Option.some.inj hw16
          refine p6_8 (v := v3_36) hx hb hts hown hKs hH rfl ho m2_164 dX6_findOn_85 (fun H locs hH => ?_)
          rw [hw16] at hH
          refine hl_aload_n hx hb dX6_findOn_88 rfl (lv_at hl 7 rfl) ?_
          refine lv_iload hx hb dX6_findOn_89 (lv_at hl 6 rfl) ?_
          obtain ⟨w17, hw17, hf⟩ := bnd hf
          replace hw17 := Option.some.inj hw17
          refine p6_9 (v := v6_36) hx hb hts hown hKs hH rfl ho m2_166 dX6_findOn_91 (fun H locs hH => ?_)
          rw [hw17] at hH
          refine lv_iconst (v := 1) hx hb dX6_findOn_94 (by decide) ?_
          exact hw_zret hx hb hret rfl hf hH hlocks dX6_findOn_95
set_option maxHeartbeats 4000000 in
set_option maxRecDepth 100000 in
theorem k_X6_findOn (l : Launch) (E : Ev) (K : Kd) (z : Nat) (o : Nat) (a_1 : Option Nat) (a_2 : Int32) (a_3 : Int32) (a_4 : Int32) (w : Wd) (ho : K o = some (5, 0)) {r : Bool} {w' : Wd} (hf : f_X6_findOn K o a_1 a_2 a_3 a_4 w = some (r, w')) : Met l yX6_findOn (Cond.code yX6_findOn cX6_findOn 8 (Option.some Jvm.ClassFile.FieldType.boolean) :: bt) ({ frames := 3, cells := 0, slots := 0, locals := 76 } : Room) (va_Pc [rv E (some o), rv E a_1, .int a_2, .int a_3, .int a_4] (HB E K w z)) (QI E K z w' (b2i r)) 0 0 (hA E) := by
  refine Met.ofW (cc := cX6_findOn) (maxL := 8) (ret := (Option.some Jvm.ClassFile.FieldType.boolean)) (by decide) rfl ?_
  intro p e s m args below meth c s₁ B hml hv
  obtain ⟨rfl, hz, hP, hKs, hT, hb0⟩ := hv
  have C : CX p l e s m _ meth c cX6_findOn 8 RX6 (Option.some Jvm.ClassFile.FieldType.boolean) E := ⟨B.exec, B.bytes, hml, findClass_of_methodNamed B.named, fun w h => atoms_spec (ws := Cond.code yX6_findOn cX6_findOn 8 (Option.some Jvm.ClassFile.FieldType.boolean) :: bt) B.pre w (List.mem_cons_of_mem _ h), hKs, hT, by rw [hz]; exact hb0, B.notSynchronized, B.returns⟩
  have hH : HQ E K z w s s.heap [] := ⟨hP, va_S.rf, hz⟩
  obtain ⟨hx, hb, hml, hown, hts, hKs, hT, hb0, hlocks, hret⟩ := id C
  have hl := lv_entry [rv E (some o), rv E a_1, .int a_2, .int a_3, .int a_4] (n := 8) (by simp [lg_len_nil, lg_len_i, lg_len_j, lg_len_q, lg_len_f, lg_len_d, lg_len_r])
  rw [lg_entry_eq]
  generalize (lg_sl [rv E (some o), rv E a_1, .int a_2, .int a_3, .int a_4] ++ List.replicate (8 - (lg_sl [rv E (some o), rv E a_1, .int a_2, .int a_3, .int a_4]).length) Slot.unset).toArray = ls at hl ⊢
  replace hl : lv_has ls 8 [(0, rv E (some o)), (1, rv E a_1), (2, .int a_2), (3, .int a_3), (4, .int a_4)] := by simpa only [lv_args, cat_q, cat_i, cat_j, reduceIte, Nat.reduceEqDiff, Nat.reduceAdd, Nat.zero_add] using hl
  generalize s.heap = H at hH ⊢
  unfold f_X6_findOn at hf
  refine hl_aload_n hx hb dX6_findOn_0 rfl (lv_at hl 1 rfl) ?_
  refine lv_iload_n hx hb dX6_findOn_1 rfl (lv_at hl 3 rfl) ?_
  obtain ⟨a1, ha1, hf⟩ := bnd hf
  replace ha1 := chk_some ha1
  obtain ⟨q2, hq2, hf⟩ := bnd hf
  refine hcV_i hx hb hml hown hts hKs hT hb0 hH (As := [.int a_3]) (rest := []) (k_X10_works l E K H.size a1 a_3 w ha1.2 hq2) (gV m4_142 m4_71 m4_72 m1_12 m4_73) hd_X10_works ⟨Nat.le_of_ble_eq_true rfl, Nat.le_of_ble_eq_true rfl, rfl, rfl⟩ ha1.1 ha1.2 rfl rfl rfl hl.1 rfl rc0 rfl dX6_findOn_2 ⟨Nat.zero_le _, Nat.zero_le _⟩ (fun H locs hH => ?_)
  refine lv_if_ne (tgt := 10) hx hb dX6_findOn_5 (by decide) (fun c3 => ?_) (fun c3 => ?_)
  · replace hf := (if_neg c3).symm.trans hf
    refine hl_aload_n hx hb dX6_findOn_10 rfl (lv_at hl 0 rfl) ?_
    refine hl_aload_n hx hb dX6_findOn_11 rfl (lv_at hl 1 rfl) ?_
    refine lv_iload_n hx hb dX6_findOn_12 rfl (lv_at hl 2 rfl) ?_
    refine lv_iload_n hx hb dX6_findOn_13 rfl (lv_at hl 3 rfl) ?_
    refine lv_iload hx hb dX6_findOn_14 (lv_at hl 4 rfl) ?_
    obtain ⟨q4, hq4, hf⟩ := bnd hf
    refine hcV_v hx hb hml hown hts hKs hT hb0 hH (As := [rv E a_1, .int a_2, .int a_3, .int a_4]) (rest := []) (k_X6_lookAtDay l E K H.size o a_1 a_2 a_3 a_4 q2.2 ho hq4) (gV m4_143 m4_145 ms_28 m1_14 m4_146) hd_X6_lookAtDay ⟨Nat.le_of_ble_eq_true rfl, Nat.le_of_ble_eq_true rfl, rfl, rfl⟩ rfl ho rfl rfl rfl hl.1 rfl rc0 rfl dX6_findOn_16 ⟨Nat.zero_le _, Nat.zero_le _⟩ (fun H locs hH => ?_)
    refine hl_aload_n hx hb dX6_findOn_19 rfl (lv_at hl 1 rfl) ?_
    refine gn10_0 hx hb hts hown hKs hH ha1.1 ha1.2 m2_120 dX6_findOn_20 ?_
    obtain ⟨a5, ha5, hf⟩ := bnd hf
    replace ha5 := chk_some ha5
    refine gn9_9 hx hb hts hown hKs hH ha5.1 ha5.2 m1_176 dX6_findOn_23 ?_
    refine lv_iload_n hx hb dX6_findOn_26 rfl (lv_at hl 2 rfl) ?_
    obtain ⟨a6, ha6, hf⟩ := bnd hf
    replace ha6 := cha_some ha6
    obtain ⟨j7, hj7, hf⟩ := bnd hf
    refine hw_aald25 hx hb hKs hH ha6.1 ha6.2 hj7 dX6_findOn_27 ?_
    obtain ⟨a8, ha8, hf⟩ := bnd hf
    replace ha8 := chk_some ha8
    refine gn3_1 hx hb hts hown hKs hH ha8.1 ha8.2 m1_93 dX6_findOn_28 ?_
    refine lv_istore (lv' := [(5, .int ((wI q4 301 a8))), (0, rv E (some o)), (1, rv E a_1), (2, .int a_2), (3, .int a_3), (4, .int a_4)]) hx hb dX6_findOn_31 hl (by decide) rfl (fun ls hl => ?_)
    refine lv_iconst (v := 0) hx hb dX6_findOn_33 (by decide) ?_
    refine lv_istore (lv' := [(6, .int 0), (5, .int ((wI q4 301 a8))), (0, rv E (some o)), (1, rv E a_1), (2, .int a_2), (3, .int a_3), (4, .int a_4)]) hx hb dX6_findOn_34 hl (by decide) rfl (fun ls hl => ?_)
    refine l_X6_findOn_L36  C ho _ (fun v1_36 v2_36 v3_36 v4_36 v5_36 v6_36 w9 H locs ls hH hl hf => ?_) fu a_1 a_2 a_3 a_4 (wI q4 301 a8) 0 q4 _ _ _ hH (lv_sub hl [3, 4, 5, 6, 1, 0, 2] rfl) hf
    refine lv_iconst (v := 0) hx hb dX6_findOn_102 (by decide) ?_
    exact hw_zret hx hb hret rfl hf hH hlocks dX6_findOn_103
  · replace hf := (if_pos c3).symm.trans hf
    refine lv_iconst (v := 0) hx hb dX6_findOn_8 (by decide) ?_
    exact hw_zret hx hb hret rfl hf hH hlocks dX6_findOn_9

theorem dX8_begin_0 : decode cX8_begin 0 = .ok (.aload_n 0, 1) := by decide +kernel
theorem dX8_begin_1 : decode cX8_begin 1 = .ok (.aload_n 1, 1) := by decide +kernel
theorem dX8_begin_2 : decode cX8_begin 2 = .ok (.putfield 9, 3) := by decide +kernel
theorem dX8_begin_5 : decode cX8_begin 5 = .ok (.aload_n 0, 1) := by decide +kernel
theorem dX8_begin_6 : decode cX8_begin 6 = .ok (.iload_n 2, 1) := by decide +kernel
theorem dX8_begin_7 : decode cX8_begin 7 = .ok (.aload_n 1, 1) := by decide +kernel
theorem dX8_begin_8 : decode cX8_begin 8 = .ok (.arraylength, 1) := by decide +kernel
theorem dX8_begin_9 : decode cX8_begin 9 = .ok (.invokestatic 24, 3) := by decide +kernel
theorem dX8_begin_12 : decode cX8_begin 12 = .ok (.putfield 30, 3) := by decide +kernel
theorem dX8_begin_15 : decode cX8_begin 15 = .ok (.aload_n 0, 1) := by decide +kernel
theorem dX8_begin_16 : decode cX8_begin 16 = .ok (.iconst 0, 1) := by decide +kernel
theorem dX8_begin_17 : decode cX8_begin 17 = .ok (.putfield 34, 3) := by decide +kernel
theorem dX8_begin_20 : decode cX8_begin 20 = .ok (.aload_n 0, 1) := by decide +kernel
theorem dX8_begin_21 : decode cX8_begin 21 = .ok (.invokevirtual 37, 3) := by decide +kernel
theorem dX8_begin_24 : decode cX8_begin 24 = .ok (.return_, 1) := by decide +kernel
theorem hd_X8_begin : yX8_begin.cls = RX8 ∧ yX8_begin.cls ≠ "java/lang/invoke/MethodHandle" ∧ yX8_begin.cls ≠ "java/lang/invoke/VarHandle" ∧ (parseMethodDescriptor yX8_begin.desc).map (fun d => d.parameters.length) = some 2 := by decide +kernel
theorem hs_X8_begin : yX8_begin.cls ≠ "java/lang/invoke/MethodHandle" ∧ yX8_begin.cls ≠ "java/lang/invoke/VarHandle" ∧ (parseMethodDescriptor yX8_begin.desc).map (fun d => d.parameters.length) = some 2 := by decide +kernel
set_option maxHeartbeats 4000000 in
set_option maxRecDepth 100000 in
theorem k_X8_begin (l : Launch) (E : Ev) (K : Kd) (z : Nat) (o : Nat) (a_1 : Option Nat) (a_2 : Int32) (w : Wd) (ho : K o = some (7, 0)) {w' : Wd} (hf : f_X8_begin K o a_1 a_2 w = some w') : Met l yX8_begin (Cond.code yX8_begin cX8_begin 3 (Option.none : Option Jvm.ClassFile.FieldType) :: bt) ({ frames := 2, cells := 0, slots := 0, locals := 42 } : Room) (va_Pc [rv E (some o), rv E a_1, .int a_2] (HB E K w z)) (QV E K z w') 0 0 (hA E) := by
  refine Met.ofW (cc := cX8_begin) (maxL := 3) (ret := (Option.none : Option Jvm.ClassFile.FieldType)) (by decide) rfl ?_
  intro p e s m args below meth c s₁ B hml hv
  obtain ⟨rfl, hz, hP, hKs, hT, hb0⟩ := hv
  have C : CX p l e s m _ meth c cX8_begin 3 RX8 (Option.none : Option Jvm.ClassFile.FieldType) E := ⟨B.exec, B.bytes, hml, findClass_of_methodNamed B.named, fun w h => atoms_spec (ws := Cond.code yX8_begin cX8_begin 3 (Option.none : Option Jvm.ClassFile.FieldType) :: bt) B.pre w (List.mem_cons_of_mem _ h), hKs, hT, by rw [hz]; exact hb0, B.notSynchronized, B.returns⟩
  have hH : HQ E K z w s s.heap [] := ⟨hP, va_S.rf, hz⟩
  obtain ⟨hx, hb, hml, hown, hts, hKs, hT, hb0, hlocks, hret⟩ := id C
  have hl := lv_entry [rv E (some o), rv E a_1, .int a_2] (n := 3) (by simp [lg_len_nil, lg_len_i, lg_len_j, lg_len_q, lg_len_f, lg_len_d, lg_len_r])
  rw [lg_entry_eq]
  generalize (lg_sl [rv E (some o), rv E a_1, .int a_2] ++ List.replicate (3 - (lg_sl [rv E (some o), rv E a_1, .int a_2]).length) Slot.unset).toArray = ls at hl ⊢
  replace hl : lv_has ls 3 [(0, rv E (some o)), (1, rv E a_1), (2, .int a_2)] := by simpa only [lv_args, cat_q, cat_i, cat_j, reduceIte, Nat.reduceEqDiff, Nat.reduceAdd, Nat.zero_add] using hl
  generalize s.heap = H at hH ⊢
  unfold f_X8_begin at hf
  refine hl_aload_n hx hb dX8_begin_0 rfl (lv_at hl 0 rfl) ?_
  refine hl_aload_n hx hb dX8_begin_1 rfl (lv_at hl 1 rfl) ?_
  obtain ⟨w1, hw1, hf⟩ := bnd hf
  replace hw1 := Option.some.inj hw1
  refine p8_0 (v := a_1) hx hb hts hown hKs hH rfl ho m2_1 dX8_begin_2 (fun H locs hH => ?_)
  rw [hw1] at hH
  refine hl_aload_n hx hb dX8_begin_5 rfl (lv_at hl 0 rfl) ?_
  refine lv_iload_n hx hb dX8_begin_6 rfl (lv_at hl 2 rfl) ?_
  refine hl_aload_n hx hb dX8_begin_7 rfl (lv_at hl 1 rfl) ?_
  obtain ⟨a2, ha2, hf⟩ := bnd hf
  replace ha2 := cha_some ha2
  refine hw_alen21 hx hb hKs hH ha2.1 ha2.2 dX8_begin_8 ?_
  obtain ⟨q3, hq3, hf⟩ := bnd hf
  refine hcS_i hx hb hml hown hts hKs hT hb0 hH (As := [.int a_2, .int ((nI a2.2))]) (rest := [rv E (some o)]) (k_J9_min_7cf53 l E K H.size a_2 (nI a2.2) w1 hq3) (gS m3_53 m3_54 m1_5 m3_55) hs_J9_min_7cf53 ⟨Nat.le_of_ble_eq_true rfl, Nat.le_of_ble_eq_true rfl, rfl, rfl⟩ hl.1 rfl (rcV rc0) rfl dX8_begin_9 ⟨Nat.zero_le _, Nat.zero_le _⟩ (fun H locs hH => ?_)
  obtain ⟨w4, hw4, hf⟩ := bnd hf
  replace hw4 := Option.some.inj hw4
  refine p8_1 (v := q3.1) hx hb hts hown hKs hH rfl ho m2_2 dX8_begin_12 (fun H locs hH => ?_)
  rw [hw4] at hH
  refine hl_aload_n hx hb dX8_begin_15 rfl (lv_at hl 0 rfl) ?_
  refine lv_iconst (v := 0) hx hb dX8_begin_16 (by decide) ?_
  obtain ⟨w5, hw5, hf⟩ := bnd hf
  replace hw5 := Option.some.inj hw5
  refine p8_3 (v := 0) hx hb hts hown hKs hH rfl ho m2_5 dX8_begin_17 (fun H locs hH => ?_)
  rw [hw5] at hH
  refine hl_aload_n hx hb dX8_begin_20 rfl (lv_at hl 0 rfl) ?_
  obtain ⟨q6, hq6, hf⟩ := bnd hf
  refine hcV_v hx hb hml hown hts hKs hT hb0 hH (As := []) (rest := []) (k_X8_advance l E K H.size o w5 ho hq6) (gV m3_56 m3_57 m3_58 m1_9 m3_59) hd_X8_advance ⟨Nat.le_of_ble_eq_true rfl, Nat.le_of_ble_eq_true rfl, rfl, rfl⟩ rfl ho rfl rfl rfl hl.1 rfl rc0 rfl dX8_begin_21 ⟨Nat.zero_le _, Nat.zero_le _⟩ (fun H locs hH => ?_)
  exact hw_vret hx hb hret hf hH hlocks dX8_begin_24

theorem dL_find_0 : decode cL_find 0 = .ok (.aload_n 2, 1) := by decide +kernel
theorem dL_find_1 : decode cL_find 1 = .ok (.iconst 0, 1) := by decide +kernel
theorem dL_find_2 : decode cL_find 2 = .ok (.aload_n 0, 1) := by decide +kernel
theorem dL_find_3 : decode cL_find 3 = .ok (.iload_n 1, 1) := by decide +kernel
theorem dL_find_4 : decode cL_find 4 = .ok (.invokevirtual 7, 3) := by decide +kernel
theorem dL_find_7 : decode cL_find 7 = .ok (.i2l, 1) := by decide +kernel
theorem dL_find_8 : decode cL_find 8 = .ok (.lastore, 1) := by decide +kernel
theorem dL_find_9 : decode cL_find 9 = .ok (.goto 6, 3) := by decide +kernel
theorem dL_find_12 : decode cL_find 12 = .ok (.astore_n 3, 1) := by decide +kernel
theorem dL_find_13 : decode cL_find 13 = .ok (.iconst 1, 1) := by decide +kernel
theorem dL_find_14 : decode cL_find 14 = .ok (.ireturn, 1) := by decide +kernel
theorem dL_find_15 : decode cL_find 15 = .ok (.iconst 0, 1) := by decide +kernel
theorem dL_find_16 : decode cL_find 16 = .ok (.ireturn, 1) := by decide +kernel
theorem hs_L_find : yL_find.cls ≠ "java/lang/invoke/MethodHandle" ∧ yL_find.cls ≠ "java/lang/invoke/VarHandle" ∧ (parseMethodDescriptor yL_find.desc).map (fun d => d.parameters.length) = some 3 := by decide +kernel
set_option maxHeartbeats 4000000 in
set_option maxRecDepth 100000 in
theorem k_L_find (l : Launch) (hls : l.stackTraces = false) (E : Ev) (K : Kd) (z : Nat) (a_0 : Option Nat) (a_1 : Int32) (a_2 : Option Nat) (w : Wd) {r : Int32} {w' : Wd} (hf : f_L_find K a_0 a_1 a_2 w = some (r, w')) : Met l yL_find (Cond.codeWith yL_find cL_find 4 (Option.some Jvm.ClassFile.FieldType.int) [(0, 9, 12, 13)] :: bt) ({ frames := 7, cells := 1, slots := 6, locals := 113 } : Room) (va_Pc [rv E a_0, .int a_1, rv E a_2] (HB E K w z)) (QW E K w' r) 1 6 (hA E) := by
  refine MetH_ofW (cc := cL_find) (maxL := 4) (ret := (Option.some Jvm.ClassFile.FieldType.int)) (hh := [(0, 9, 12, 13)]) (by decide) rfl ?_
  intro p e s m args below meth c s₁ B hml htab hv
  obtain ⟨rfl, hz, hP, hKs, hT, hb0⟩ := hv
  have C : CX p l e s m _ meth c cL_find 4 RL (Option.some Jvm.ClassFile.FieldType.int) E := ⟨B.exec, B.bytes, hml, findClass_of_methodNamed B.named, fun w h => atoms_spec (ws := Cond.codeWith yL_find cL_find 4 (Option.some Jvm.ClassFile.FieldType.int) [(0, 9, 12, 13)] :: bt) B.pre w (List.mem_cons_of_mem _ h), hKs, hT, by rw [hz]; exact hb0, B.notSynchronized, B.returns⟩
  have hH : HQ E K z w s s.heap [] := ⟨hP, va_S.rf, hz⟩
  obtain ⟨hx, hb, hml, hown, hts, hKs, hT, hb0, hlocks, hret⟩ := id C
  have hl := lv_entry [rv E a_0, .int a_1, rv E a_2] (n := 4) (by simp [lg_len_nil, lg_len_i, lg_len_j, lg_len_q, lg_len_f, lg_len_d, lg_len_r])
  rw [lg_entry_eq]
  generalize (lg_sl [rv E a_0, .int a_1, rv E a_2] ++ List.replicate (4 - (lg_sl [rv E a_0, .int a_1, rv E a_2]).length) Slot.unset).toArray = ls at hl ⊢
  replace hl : lv_has ls 4 [(0, rv E a_0), (1, .int a_1), (2, rv E a_2)] := by simpa only [lv_args, cat_q, cat_i, cat_j, reduceIte, Nat.reduceEqDiff, Nat.reduceAdd, Nat.zero_add] using hl
  generalize s.heap = H at hH ⊢
  unfold f_L_find at hf
  refine hl_aload_n hx hb dL_find_0 rfl (lv_at hl 2 rfl) ?_
  refine lv_iconst (v := 0) hx hb dL_find_1 (by decide) ?_
  refine hl_aload_n hx hb dL_find_2 rfl (lv_at hl 0 rfl) ?_
  refine lv_iload_n hx hb dL_find_3 rfl (lv_at hl 1 rfl) ?_
  obtain ⟨a1, ha1, hf⟩ := bnd hf
  replace ha1 := chk_some ha1
  obtain ⟨q2, hq2, hf⟩ := bnd hf
  refine hxC_i hx hb hml hown hts hKs hT hb0 hH (As := [.int a_1]) (rest := [.int 0, rv E a_2]) (k_X12_find l hls E K H.size a1 a_1 w ha1.2 hq2) (gV m4_214 m4_215 m4_216 m1_1 m4_217) hd_X12_find ⟨Nat.le_of_ble_eq_true rfl, Nat.le_of_ble_eq_true rfl, rfl, rfl⟩ ha1.1 ha1.2 rfl rfl rfl hl.1 rfl (rcI (rcV rc0)) rfl dL_find_4 ⟨Nat.le_of_ble_eq_true rfl, Nat.le_of_ble_eq_true rfl⟩ (fun c4 hc4 H locs q9 ce9 hH hc9 hv9 hf9 => ?_) (fun v3 hv3 H locs hH => ?_)
  · replace hf := (xh_inr hc4).symm.trans hf
    by_cases h5 : c4 = 2
    · subst h5
      replace hf := (if_pos rfl).symm.trans hf
      refine vx_catch (name := "java/lang/IllegalArgumentException") hown [] ⟨0, 9, 12, 13⟩ [] htab pass0 (by decide) (by decide) (hts _ m4_213) (va_Nw.use rfl (hKs.2.1 _ m4_220)) hc9 hv9 hf9 ?_
      refine lv_astore_n (lv' := [(3, .ref q9), (0, rv E a_0), (1, .int a_1), (2, rv E a_2)]) hx hb dL_find_12 rfl hl (by decide) (by simp [List.filter_cons, cat_q, cat_i, cat_j]) (fun ls hl => ?_)
      refine lv_iconst (v := 1) hx hb dL_find_13 (by decide) ?_
      exact hw_wret hx hb (Nat.le_of_ble_eq_true rfl) (Nat.le_of_ble_eq_true rfl) hret hf hH hlocks dL_find_14
    replace hf := (if_neg h5).symm.trans hf
    cases hf
  · replace hf := (xh_inl hv3).symm.trans hf
    refine lv_i2l (v := (v3.toInt64)) hx hb dL_find_7 rfl ?_
    obtain ⟨a6, ha6, hf⟩ := bnd hf
    replace ha6 := cha_some ha6
    obtain ⟨j7, hj7, hf⟩ := bnd hf
    obtain ⟨w8, hw8, hf⟩ := bnd hf
    replace hw8 := Option.some.inj hw8
    refine hw_last (x := (v3.toInt64)) hx hb hKs hH ha6.1 ha6.2 hj7 dL_find_8 (fun H locs hH => ?_)
    rw [hw8] at hH
    refine lv_goto (tgt := 15) hx hb dL_find_9 (by decide) ?_
    refine lv_iconst (v := 0) hx hb dL_find_15 (by decide) ?_
    exact hw_wret hx hb (Nat.le_of_ble_eq_true rfl) (Nat.le_of_ble_eq_true rfl) hret hf hH hlocks dL_find_16

theorem dL_witness_0 : decode cL_witness 0 = .ok (.aload_n 3, 1) := by decide +kernel
theorem dL_witness_1 : decode cL_witness 1 = .ok (.iconst 0, 1) := by decide +kernel
theorem dL_witness_2 : decode cL_witness 2 = .ok (.aload_n 0, 1) := by decide +kernel
theorem dL_witness_3 : decode cL_witness 3 = .ok (.iload_n 1, 1) := by decide +kernel
theorem dL_witness_4 : decode cL_witness 4 = .ok (.iload_n 2, 1) := by decide +kernel
theorem dL_witness_5 : decode cL_witness 5 = .ok (.invokevirtual 26, 3) := by decide +kernel
theorem dL_witness_8 : decode cL_witness 8 = .ok (.i2l, 1) := by decide +kernel
theorem dL_witness_9 : decode cL_witness 9 = .ok (.lastore, 1) := by decide +kernel
theorem dL_witness_10 : decode cL_witness 10 = .ok (.goto 7, 3) := by decide +kernel
theorem dL_witness_13 : decode cL_witness 13 = .ok (.astore 4, 2) := by decide +kernel
theorem dL_witness_15 : decode cL_witness 15 = .ok (.iconst 1, 1) := by decide +kernel
theorem dL_witness_16 : decode cL_witness 16 = .ok (.ireturn, 1) := by decide +kernel
theorem dL_witness_17 : decode cL_witness 17 = .ok (.iconst 0, 1) := by decide +kernel
theorem dL_witness_18 : decode cL_witness 18 = .ok (.ireturn, 1) := by decide +kernel
theorem hs_L_witness : yL_witness.cls ≠ "java/lang/invoke/MethodHandle" ∧ yL_witness.cls ≠ "java/lang/invoke/VarHandle" ∧ (parseMethodDescriptor yL_witness.desc).map (fun d => d.parameters.length) = some 4 := by decide +kernel
set_option maxHeartbeats 4000000 in
set_option maxRecDepth 100000 in
theorem k_L_witness (l : Launch) (hls : l.stackTraces = false) (E : Ev) (K : Kd) (z : Nat) (a_0 : Option Nat) (a_1 : Int32) (a_2 : Int32) (a_3 : Option Nat) (w : Wd) {r : Int32} {w' : Wd} (hf : f_L_witness K a_0 a_1 a_2 a_3 w = some (r, w')) : Met l yL_witness (Cond.codeWith yL_witness cL_witness 5 (Option.some Jvm.ClassFile.FieldType.int) [(0, 10, 13, 29)] :: bt) ({ frames := 8, cells := 2, slots := 12, locals := 134 } : Room) (va_Pc [rv E a_0, .int a_1, .int a_2, rv E a_3] (HB E K w z)) (QW E K w' r) 2 12 (hA E) := by
  refine MetH_ofW (cc := cL_witness) (maxL := 5) (ret := (Option.some Jvm.ClassFile.FieldType.int)) (hh := [(0, 10, 13, 29)]) (by decide) rfl ?_
  intro p e s m args below meth c s₁ B hml htab hv
  obtain ⟨rfl, hz, hP, hKs, hT, hb0⟩ := hv
  have C : CX p l e s m _ meth c cL_witness 5 RL (Option.some Jvm.ClassFile.FieldType.int) E := ⟨B.exec, B.bytes, hml, findClass_of_methodNamed B.named, fun w h => atoms_spec (ws := Cond.codeWith yL_witness cL_witness 5 (Option.some Jvm.ClassFile.FieldType.int) [(0, 10, 13, 29)] :: bt) B.pre w (List.mem_cons_of_mem _ h), hKs, hT, by rw [hz]; exact hb0, B.notSynchronized, B.returns⟩
  have hH : HQ E K z w s s.heap [] := ⟨hP, va_S.rf, hz⟩
  obtain ⟨hx, hb, hml, hown, hts, hKs, hT, hb0, hlocks, hret⟩ := id C
  have hl := lv_entry [rv E a_0, .int a_1, .int a_2, rv E a_3] (n := 5) (by simp [lg_len_nil, lg_len_i, lg_len_j, lg_len_q, lg_len_f, lg_len_d, lg_len_r])
  rw [lg_entry_eq]
  generalize (lg_sl [rv E a_0, .int a_1, .int a_2, rv E a_3] ++ List.replicate (5 - (lg_sl [rv E a_0, .int a_1, .int a_2, rv E a_3]).length) Slot.unset).toArray = ls at hl ⊢
  replace hl : lv_has ls 5 [(0, rv E a_0), (1, .int a_1), (2, .int a_2), (3, rv E a_3)] := by simpa only [lv_args, cat_q, cat_i, cat_j, reduceIte, Nat.reduceEqDiff, Nat.reduceAdd, Nat.zero_add] using hl
  generalize s.heap = H at hH ⊢
  unfold f_L_witness at hf
  refine hl_aload_n hx hb dL_witness_0 rfl (lv_at hl 3 rfl) ?_
  refine lv_iconst (v := 0) hx hb dL_witness_1 (by decide) ?_
  refine hl_aload_n hx hb dL_witness_2 rfl (lv_at hl 0 rfl) ?_
  refine lv_iload_n hx hb dL_witness_3 rfl (lv_at hl 1 rfl) ?_
  refine lv_iload_n hx hb dL_witness_4 rfl (lv_at hl 2 rfl) ?_
  obtain ⟨a1, ha1, hf⟩ := bnd hf
  replace ha1 := chk_some ha1
  obtain ⟨q2, hq2, hf⟩ := bnd hf
  refine hxC_i hx hb hml hown hts hKs hT hb0 hH (As := [.int a_1, .int a_2]) (rest := [.int 0, rv E a_3]) (k_X12_witness l hls E K H.size a1 a_1 a_2 w ha1.2 hq2) (gV m5_87 m5_88 m5_89 m1_1 m5_90) hd_X12_witness ⟨Nat.le_of_ble_eq_true rfl, Nat.le_of_ble_eq_true rfl, rfl, rfl⟩ ha1.1 ha1.2 rfl rfl rfl hl.1 rfl (rcI (rcV rc0)) rfl dL_witness_5 ⟨Nat.le_of_ble_eq_true rfl, Nat.le_of_ble_eq_true rfl⟩ (fun c4 hc4 H locs q9 ce9 hH hc9 hv9 hf9 => ?_) (fun v3 hv3 H locs hH => ?_)
  · replace hf := (xh_inr hc4).symm.trans hf
    by_cases h5 : c4 = 1
    · subst h5
      replace hf := (if_pos rfl).symm.trans hf
      refine vx_catch (name := "java/lang/IndexOutOfBoundsException") hown [] ⟨0, 10, 13, 29⟩ [] htab pass0 (by decide) (by decide) (hts _ m5_86) (va_Nw.use rfl (hKs.2.1 _ m5_97)) hc9 hv9 hf9 ?_
      refine lv_astore (lv' := [(4, .ref q9), (0, rv E a_0), (1, .int a_1), (2, .int a_2), (3, rv E a_3)]) hx hb dL_witness_13 hl (by decide) (by simp [List.filter_cons, cat_q, cat_i, cat_j]) (fun ls hl => ?_)
      refine lv_iconst (v := 1) hx hb dL_witness_15 (by decide) ?_
      exact hw_wret hx hb (Nat.le_of_ble_eq_true rfl) (Nat.le_of_ble_eq_true rfl) hret hf hH hlocks dL_witness_16
    replace hf := (if_neg h5).symm.trans hf
    cases hf
  · replace hf := (xh_inl hv3).symm.trans hf
    refine lv_i2l (v := (v3.toInt64)) hx hb dL_witness_8 rfl ?_
    obtain ⟨a6, ha6, hf⟩ := bnd hf
    replace ha6 := cha_some ha6
    obtain ⟨j7, hj7, hf⟩ := bnd hf
    obtain ⟨w8, hw8, hf⟩ := bnd hf
    replace hw8 := Option.some.inj hw8
    refine hw_last (x := (v3.toInt64)) hx hb hKs hH ha6.1 ha6.2 hj7 dL_witness_9 (fun H locs hH => ?_)
    rw [hw8] at hH
    refine lv_goto (tgt := 17) hx hb dL_witness_10 (by decide) ?_
    refine lv_iconst (v := 0) hx hb dL_witness_17 (by decide) ?_
    exact hw_wret hx hb (Nat.le_of_ble_eq_true rfl) (Nat.le_of_ble_eq_true rfl) hret hf hH hlocks dL_witness_18

theorem dL_isOff_0 : decode cL_isOff 0 = .ok (.aload_n 3, 1) := by decide +kernel
theorem dL_isOff_1 : decode cL_isOff 1 = .ok (.iconst 0, 1) := by decide +kernel
theorem dL_isOff_2 : decode cL_isOff 2 = .ok (.aload_n 0, 1) := by decide +kernel
theorem dL_isOff_3 : decode cL_isOff 3 = .ok (.iload_n 1, 1) := by decide +kernel
theorem dL_isOff_4 : decode cL_isOff 4 = .ok (.iload_n 2, 1) := by decide +kernel
theorem dL_isOff_5 : decode cL_isOff 5 = .ok (.invokevirtual 31, 3) := by decide +kernel
theorem dL_isOff_8 : decode cL_isOff 8 = .ok (.ifCond .eq 7, 3) := by decide +kernel
theorem dL_isOff_11 : decode cL_isOff 11 = .ok (.lconst 1, 1) := by decide +kernel
theorem dL_isOff_12 : decode cL_isOff 12 = .ok (.goto 4, 3) := by decide +kernel
theorem dL_isOff_15 : decode cL_isOff 15 = .ok (.lconst 0, 1) := by decide +kernel
theorem dL_isOff_16 : decode cL_isOff 16 = .ok (.lastore, 1) := by decide +kernel
theorem dL_isOff_17 : decode cL_isOff 17 = .ok (.goto 11, 3) := by decide +kernel
theorem dL_isOff_20 : decode cL_isOff 20 = .ok (.astore 4, 2) := by decide +kernel
theorem dL_isOff_22 : decode cL_isOff 22 = .ok (.iconst 1, 1) := by decide +kernel
theorem dL_isOff_23 : decode cL_isOff 23 = .ok (.ireturn, 1) := by decide +kernel
theorem dL_isOff_24 : decode cL_isOff 24 = .ok (.astore 4, 2) := by decide +kernel
theorem dL_isOff_26 : decode cL_isOff 26 = .ok (.iconst 2, 1) := by decide +kernel
theorem dL_isOff_27 : decode cL_isOff 27 = .ok (.ireturn, 1) := by decide +kernel
theorem dL_isOff_28 : decode cL_isOff 28 = .ok (.iconst 0, 1) := by decide +kernel
theorem dL_isOff_29 : decode cL_isOff 29 = .ok (.ireturn, 1) := by decide +kernel
theorem hs_L_isOff : yL_isOff.cls ≠ "java/lang/invoke/MethodHandle" ∧ yL_isOff.cls ≠ "java/lang/invoke/VarHandle" ∧ (parseMethodDescriptor yL_isOff.desc).map (fun d => d.parameters.length) = some 4 := by decide +kernel
set_option maxHeartbeats 4000000 in
set_option maxRecDepth 100000 in
theorem k_L_isOff (l : Launch) (hls : l.stackTraces = false) (E : Ev) (K : Kd) (z : Nat) (a_0 : Option Nat) (a_1 : Int32) (a_2 : Int32) (a_3 : Option Nat) (w : Wd) {r : Int32} {w' : Wd} (hf : f_L_isOff K a_0 a_1 a_2 a_3 w = some (r, w')) : Met l yL_isOff (Cond.codeWith yL_isOff cL_isOff 5 (Option.some Jvm.ClassFile.FieldType.int) [(0, 17, 20, 29), (0, 17, 24, 13)] :: bt) ({ frames := 8, cells := 2, slots := 12, locals := 134 } : Room) (va_Pc [rv E a_0, .int a_1, .int a_2, rv E a_3] (HB E K w z)) (QW E K w' r) 2 12 (hA E) := by
  refine MetH_ofW (cc := cL_isOff) (maxL := 5) (ret := (Option.some Jvm.ClassFile.FieldType.int)) (hh := [(0, 17, 20, 29), (0, 17, 24, 13)]) (by decide) rfl ?_
  intro p e s m args below meth c s₁ B hml htab hv
  obtain ⟨rfl, hz, hP, hKs, hT, hb0⟩ := hv
  have C : CX p l e s m _ meth c cL_isOff 5 RL (Option.some Jvm.ClassFile.FieldType.int) E := ⟨B.exec, B.bytes, hml, findClass_of_methodNamed B.named, fun w h => atoms_spec (ws := Cond.codeWith yL_isOff cL_isOff 5 (Option.some Jvm.ClassFile.FieldType.int) [(0, 17, 20, 29), (0, 17, 24, 13)] :: bt) B.pre w (List.mem_cons_of_mem _ h), hKs, hT, by rw [hz]; exact hb0, B.notSynchronized, B.returns⟩
  have hH : HQ E K z w s s.heap [] := ⟨hP, va_S.rf, hz⟩
  obtain ⟨hx, hb, hml, hown, hts, hKs, hT, hb0, hlocks, hret⟩ := id C
  have hl := lv_entry [rv E a_0, .int a_1, .int a_2, rv E a_3] (n := 5) (by simp [lg_len_nil, lg_len_i, lg_len_j, lg_len_q, lg_len_f, lg_len_d, lg_len_r])
  rw [lg_entry_eq]
  generalize (lg_sl [rv E a_0, .int a_1, .int a_2, rv E a_3] ++ List.replicate (5 - (lg_sl [rv E a_0, .int a_1, .int a_2, rv E a_3]).length) Slot.unset).toArray = ls at hl ⊢
  replace hl : lv_has ls 5 [(0, rv E a_0), (1, .int a_1), (2, .int a_2), (3, rv E a_3)] := by simpa only [lv_args, cat_q, cat_i, cat_j, reduceIte, Nat.reduceEqDiff, Nat.reduceAdd, Nat.zero_add] using hl
  generalize s.heap = H at hH ⊢
  unfold f_L_isOff at hf
  refine hl_aload_n hx hb dL_isOff_0 rfl (lv_at hl 3 rfl) ?_
  refine lv_iconst (v := 0) hx hb dL_isOff_1 (by decide) ?_
  refine hl_aload_n hx hb dL_isOff_2 rfl (lv_at hl 0 rfl) ?_
  refine lv_iload_n hx hb dL_isOff_3 rfl (lv_at hl 1 rfl) ?_
  refine lv_iload_n hx hb dL_isOff_4 rfl (lv_at hl 2 rfl) ?_
  obtain ⟨a1, ha1, hf⟩ := bnd hf
  replace ha1 := chk_some ha1
  obtain ⟨q2, hq2, hf⟩ := bnd hf
  refine hxC_z hx hb hml hown hts hKs hT hb0 hH (As := [.int a_1, .int a_2]) (rest := [.int 0, rv E a_3]) (k_X12_isOff l hls E K H.size a1 a_1 a_2 w ha1.2 hq2) (gV m5_117 m5_118 m5_119 m1_1 m5_120) hd_X12_isOff ⟨Nat.le_of_ble_eq_true rfl, Nat.le_of_ble_eq_true rfl, rfl, rfl⟩ ha1.1 ha1.2 rfl rfl rfl hl.1 rfl (rcI (rcV rc0)) rfl dL_isOff_5 ⟨Nat.le_of_ble_eq_true rfl, Nat.le_of_ble_eq_true rfl⟩ (fun c4 hc4 H locs q9 ce9 hH hc9 hv9 hf9 => ?_) (fun v3 hv3 H locs hH => ?_)
  · replace hf := (xh_inr hc4).symm.trans hf
    by_cases h5 : c4 = 1
    · subst h5
      replace hf := (if_pos rfl).symm.trans hf
      refine vx_catch (name := "java/lang/IndexOutOfBoundsException") hown [] ⟨0, 17, 20, 29⟩ [⟨0, 17, 24, 13⟩] htab pass0 (by decide) (by decide) (hts _ m5_86) (va_Nw.use rfl (hKs.2.1 _ m5_97)) hc9 hv9 hf9 ?_
      refine lv_astore (lv' := [(4, .ref q9), (0, rv E a_0), (1, .int a_1), (2, .int a_2), (3, rv E a_3)]) hx hb dL_isOff_20 hl (by decide) (by simp [List.filter_cons, cat_q, cat_i, cat_j]) (fun ls hl => ?_)
      refine lv_iconst (v := 1) hx hb dL_isOff_22 (by decide) ?_
      exact hw_wret hx hb (Nat.le_of_ble_eq_true rfl) (Nat.le_of_ble_eq_true rfl) hret hf hH hlocks dL_isOff_23
    replace hf := (if_neg h5).symm.trans hf
    by_cases h6 : c4 = 2
    · subst h6
      replace hf := (if_pos rfl).symm.trans hf
      refine vx_catch (name := "java/lang/IllegalArgumentException") hown [⟨0, 17, 20, 29⟩] ⟨0, 17, 24, 13⟩ [] htab (pass1 (Or.inr ⟨by decide, "java/lang/IndexOutOfBoundsException", hts _ m5_86, hKs.2.2.2.1 ("java/lang/IllegalArgumentException", "java/lang/IndexOutOfBoundsException") (by decide)⟩) pass0) (by decide) (by decide) (hts _ m4_213) (va_Nw.use rfl (hKs.2.1 _ m4_220)) hc9 hv9 hf9 ?_
      refine lv_astore (lv' := [(4, .ref q9), (0, rv E a_0), (1, .int a_1), (2, .int a_2), (3, rv E a_3)]) hx hb dL_isOff_24 hl (by decide) (by simp [List.filter_cons, cat_q, cat_i, cat_j]) (fun ls hl => ?_)
      refine lv_iconst (v := 2) hx hb dL_isOff_26 (by decide) ?_
      exact hw_wret hx hb (Nat.le_of_ble_eq_true rfl) (Nat.le_of_ble_eq_true rfl) hret hf hH hlocks dL_isOff_27
    replace hf := (if_neg h6).symm.trans hf
    cases hf
  · replace hf := (xh_inl hv3).symm.trans hf
    refine lv_if_eq (tgt := 15) hx hb dL_isOff_8 (by decide) (fun c7 => ?_) (fun c7 => ?_)
    · replace hf := (if_pos c7).symm.trans hf
      refine lv_lconst (v := 0) hx hb dL_isOff_15 rfl ?_
      obtain ⟨a8, ha8, hf⟩ := bnd hf
      replace ha8 := cha_some ha8
      obtain ⟨j9, hj9, hf⟩ := bnd hf
      obtain ⟨w10, hw10, hf⟩ := bnd hf
      replace hw10 := Option.some.inj hw10
      refine hw_last (x := 0) hx hb hKs hH ha8.1 ha8.2 hj9 dL_isOff_16 (fun H locs hH => ?_)
      rw [hw10] at hH
      refine lv_goto (tgt := 28) hx hb dL_isOff_17 (by decide) ?_
      refine lv_iconst (v := 0) hx hb dL_isOff_28 (by decide) ?_
      exact hw_wret hx hb (Nat.le_of_ble_eq_true rfl) (Nat.le_of_ble_eq_true rfl) hret hf hH hlocks dL_isOff_29
    · replace hf := (if_neg c7).symm.trans hf
      refine lv_lconst (v := 1) hx hb dL_isOff_11 rfl ?_
      refine lv_goto (tgt := 16) hx hb dL_isOff_12 (by decide) ?_
      obtain ⟨a11, ha11, hf⟩ := bnd hf
      replace ha11 := cha_some ha11
      obtain ⟨j12, hj12, hf⟩ := bnd hf
      obtain ⟨w13, hw13, hf⟩ := bnd hf
      replace hw13 := Option.some.inj hw13
      refine hw_last (x := 1) hx hb hKs hH ha11.1 ha11.2 hj12 dL_isOff_16 (fun H locs hH => ?_)
      rw [hw13] at hH
      refine lv_goto (tgt := 28) hx hb dL_isOff_17 (by decide) ?_
      refine lv_iconst (v := 0) hx hb dL_isOff_28 (by decide) ?_
      exact hw_wret hx hb (Nat.le_of_ble_eq_true rfl) (Nat.le_of_ble_eq_true rfl) hret hf hH hlocks dL_isOff_29

theorem dL_isBarred_0 : decode cL_isBarred 0 = .ok (.aload_n 3, 1) := by decide +kernel
theorem dL_isBarred_1 : decode cL_isBarred 1 = .ok (.iconst 0, 1) := by decide +kernel
theorem dL_isBarred_2 : decode cL_isBarred 2 = .ok (.aload_n 0, 1) := by decide +kernel
theorem dL_isBarred_3 : decode cL_isBarred 3 = .ok (.iload_n 1, 1) := by decide +kernel
theorem dL_isBarred_4 : decode cL_isBarred 4 = .ok (.iload_n 2, 1) := by decide +kernel
theorem dL_isBarred_5 : decode cL_isBarred 5 = .ok (.invokevirtual 35, 3) := by decide +kernel
theorem dL_isBarred_8 : decode cL_isBarred 8 = .ok (.ifCond .eq 7, 3) := by decide +kernel
theorem dL_isBarred_11 : decode cL_isBarred 11 = .ok (.lconst 1, 1) := by decide +kernel
theorem dL_isBarred_12 : decode cL_isBarred 12 = .ok (.goto 4, 3) := by decide +kernel
theorem dL_isBarred_15 : decode cL_isBarred 15 = .ok (.lconst 0, 1) := by decide +kernel
theorem dL_isBarred_16 : decode cL_isBarred 16 = .ok (.lastore, 1) := by decide +kernel
theorem dL_isBarred_17 : decode cL_isBarred 17 = .ok (.goto 7, 3) := by decide +kernel
theorem dL_isBarred_20 : decode cL_isBarred 20 = .ok (.astore 4, 2) := by decide +kernel
theorem dL_isBarred_22 : decode cL_isBarred 22 = .ok (.iconst 1, 1) := by decide +kernel
theorem dL_isBarred_23 : decode cL_isBarred 23 = .ok (.ireturn, 1) := by decide +kernel
theorem dL_isBarred_24 : decode cL_isBarred 24 = .ok (.iconst 0, 1) := by decide +kernel
theorem dL_isBarred_25 : decode cL_isBarred 25 = .ok (.ireturn, 1) := by decide +kernel
theorem hs_L_isBarred : yL_isBarred.cls ≠ "java/lang/invoke/MethodHandle" ∧ yL_isBarred.cls ≠ "java/lang/invoke/VarHandle" ∧ (parseMethodDescriptor yL_isBarred.desc).map (fun d => d.parameters.length) = some 4 := by decide +kernel
set_option maxHeartbeats 4000000 in
set_option maxRecDepth 100000 in
theorem k_L_isBarred (l : Launch) (hls : l.stackTraces = false) (E : Ev) (K : Kd) (z : Nat) (a_0 : Option Nat) (a_1 : Int32) (a_2 : Int32) (a_3 : Option Nat) (w : Wd) {r : Int32} {w' : Wd} (hf : f_L_isBarred K a_0 a_1 a_2 a_3 w = some (r, w')) : Met l yL_isBarred (Cond.codeWith yL_isBarred cL_isBarred 5 (Option.some Jvm.ClassFile.FieldType.int) [(0, 17, 20, 29)] :: bt) ({ frames := 8, cells := 2, slots := 12, locals := 134 } : Room) (va_Pc [rv E a_0, .int a_1, .int a_2, rv E a_3] (HB E K w z)) (QW E K w' r) 2 12 (hA E) := by
  refine MetH_ofW (cc := cL_isBarred) (maxL := 5) (ret := (Option.some Jvm.ClassFile.FieldType.int)) (hh := [(0, 17, 20, 29)]) (by decide) rfl ?_
  intro p e s m args below meth c s₁ B hml htab hv
  obtain ⟨rfl, hz, hP, hKs, hT, hb0⟩ := hv
  have C : CX p l e s m _ meth c cL_isBarred 5 RL (Option.some Jvm.ClassFile.FieldType.int) E := ⟨B.exec, B.bytes, hml, findClass_of_methodNamed B.named, fun w h => atoms_spec (ws := Cond.codeWith yL_isBarred cL_isBarred 5 (Option.some Jvm.ClassFile.FieldType.int) [(0, 17, 20, 29)] :: bt) B.pre w (List.mem_cons_of_mem _ h), hKs, hT, by rw [hz]; exact hb0, B.notSynchronized, B.returns⟩
  have hH : HQ E K z w s s.heap [] := ⟨hP, va_S.rf, hz⟩
  obtain ⟨hx, hb, hml, hown, hts, hKs, hT, hb0, hlocks, hret⟩ := id C
  have hl := lv_entry [rv E a_0, .int a_1, .int a_2, rv E a_3] (n := 5) (by simp [lg_len_nil, lg_len_i, lg_len_j, lg_len_q, lg_len_f, lg_len_d, lg_len_r])
  rw [lg_entry_eq]
  generalize (lg_sl [rv E a_0, .int a_1, .int a_2, rv E a_3] ++ List.replicate (5 - (lg_sl [rv E a_0, .int a_1, .int a_2, rv E a_3]).length) Slot.unset).toArray = ls at hl ⊢
  replace hl : lv_has ls 5 [(0, rv E a_0), (1, .int a_1), (2, .int a_2), (3, rv E a_3)] := by simpa only [lv_args, cat_q, cat_i, cat_j, reduceIte, Nat.reduceEqDiff, Nat.reduceAdd, Nat.zero_add] using hl
  generalize s.heap = H at hH ⊢
  unfold f_L_isBarred at hf
  refine hl_aload_n hx hb dL_isBarred_0 rfl (lv_at hl 3 rfl) ?_
  refine lv_iconst (v := 0) hx hb dL_isBarred_1 (by decide) ?_
  refine hl_aload_n hx hb dL_isBarred_2 rfl (lv_at hl 0 rfl) ?_
  refine lv_iload_n hx hb dL_isBarred_3 rfl (lv_at hl 1 rfl) ?_
  refine lv_iload_n hx hb dL_isBarred_4 rfl (lv_at hl 2 rfl) ?_
  obtain ⟨a1, ha1, hf⟩ := bnd hf
  replace ha1 := chk_some ha1
  obtain ⟨q2, hq2, hf⟩ := bnd hf
  refine hxC_z hx hb hml hown hts hKs hT hb0 hH (As := [.int a_1, .int a_2]) (rest := [.int 0, rv E a_3]) (k_X12_isBarred l hls E K H.size a1 a_1 a_2 w ha1.2 hq2) (gV m5_125 m5_126 m5_127 m1_1 m5_128) hd_X12_isBarred ⟨Nat.le_of_ble_eq_true rfl, Nat.le_of_ble_eq_true rfl, rfl, rfl⟩ ha1.1 ha1.2 rfl rfl rfl hl.1 rfl (rcI (rcV rc0)) rfl dL_isBarred_5 ⟨Nat.le_of_ble_eq_true rfl, Nat.le_of_ble_eq_true rfl⟩ (fun c4 hc4 H locs q9 ce9 hH hc9 hv9 hf9 => ?_) (fun v3 hv3 H locs hH => ?_)
  · replace hf := (xh_inr hc4).symm.trans hf
    by_cases h5 : c4 = 1
    · subst h5
      replace hf := (if_pos rfl).symm.trans hf
      refine vx_catch (name := "java/lang/IndexOutOfBoundsException") hown [] ⟨0, 17, 20, 29⟩ [] htab pass0 (by decide) (by decide) (hts _ m5_86) (va_Nw.use rfl (hKs.2.1 _ m5_97)) hc9 hv9 hf9 ?_
      refine lv_astore (lv' := [(4, .ref q9), (0, rv E a_0), (1, .int a_1), (2, .int a_2), (3, rv E a_3)]) hx hb dL_isBarred_20 hl (by decide) (by simp [List.filter_cons, cat_q, cat_i, cat_j]) (fun ls hl => ?_)
      refine lv_iconst (v := 1) hx hb dL_isBarred_22 (by decide) ?_
      exact hw_wret hx hb (Nat.le_of_ble_eq_true rfl) (Nat.le_of_ble_eq_true rfl) hret hf hH hlocks dL_isBarred_23
    replace hf := (if_neg h5).symm.trans hf
    cases hf
  · replace hf := (xh_inl hv3).symm.trans hf
    refine lv_if_eq (tgt := 15) hx hb dL_isBarred_8 (by decide) (fun c6 => ?_) (fun c6 => ?_)
    · replace hf := (if_pos c6).symm.trans hf
      refine lv_lconst (v := 0) hx hb dL_isBarred_15 rfl ?_
      obtain ⟨a7, ha7, hf⟩ := bnd hf
      replace ha7 := cha_some ha7
      obtain ⟨j8, hj8, hf⟩ := bnd hf
      obtain ⟨w9, hw9, hf⟩ := bnd hf
      replace hw9 := Option.some.inj hw9
      refine hw_last (x := 0) hx hb hKs hH ha7.1 ha7.2 hj8 dL_isBarred_16 (fun H locs hH => ?_)
      rw [hw9] at hH
      refine lv_goto (tgt := 24) hx hb dL_isBarred_17 (by decide) ?_
      refine lv_iconst (v := 0) hx hb dL_isBarred_24 (by decide) ?_
      exact hw_wret hx hb (Nat.le_of_ble_eq_true rfl) (Nat.le_of_ble_eq_true rfl) hret hf hH hlocks dL_isBarred_25
    · replace hf := (if_neg c6).symm.trans hf
      refine lv_lconst (v := 1) hx hb dL_isBarred_11 rfl ?_
      refine lv_goto (tgt := 16) hx hb dL_isBarred_12 (by decide) ?_
      obtain ⟨a10, ha10, hf⟩ := bnd hf
      replace ha10 := cha_some ha10
      obtain ⟨j11, hj11, hf⟩ := bnd hf
      obtain ⟨w12, hw12, hf⟩ := bnd hf
      replace hw12 := Option.some.inj hw12
      refine hw_last (x := 1) hx hb hKs hH ha10.1 ha10.2 hj11 dL_isBarred_16 (fun H locs hH => ?_)
      rw [hw12] at hH
      refine lv_goto (tgt := 24) hx hb dL_isBarred_17 (by decide) ?_
      refine lv_iconst (v := 0) hx hb dL_isBarred_24 (by decide) ?_
      exact hw_wret hx hb (Nat.le_of_ble_eq_true rfl) (Nat.le_of_ble_eq_true rfl) hret hf hH hlocks dL_isBarred_25

theorem dL_load_0 : decode cL_load 0 = .ok (.aload_n 2, 1) := by decide +kernel
theorem dL_load_1 : decode cL_load 1 = .ok (.iconst 0, 1) := by decide +kernel
theorem dL_load_2 : decode cL_load 2 = .ok (.aload_n 0, 1) := by decide +kernel
theorem dL_load_3 : decode cL_load 3 = .ok (.iload_n 1, 1) := by decide +kernel
theorem dL_load_4 : decode cL_load 4 = .ok (.invokevirtual 38, 3) := by decide +kernel
theorem dL_load_7 : decode cL_load 7 = .ok (.i2l, 1) := by decide +kernel
theorem dL_load_8 : decode cL_load 8 = .ok (.lastore, 1) := by decide +kernel
theorem dL_load_9 : decode cL_load 9 = .ok (.goto 6, 3) := by decide +kernel
theorem dL_load_12 : decode cL_load 12 = .ok (.astore_n 3, 1) := by decide +kernel
theorem dL_load_13 : decode cL_load 13 = .ok (.iconst 1, 1) := by decide +kernel
theorem dL_load_14 : decode cL_load 14 = .ok (.ireturn, 1) := by decide +kernel
theorem dL_load_15 : decode cL_load 15 = .ok (.iconst 0, 1) := by decide +kernel
theorem dL_load_16 : decode cL_load 16 = .ok (.ireturn, 1) := by decide +kernel
theorem hs_L_load : yL_load.cls ≠ "java/lang/invoke/MethodHandle" ∧ yL_load.cls ≠ "java/lang/invoke/VarHandle" ∧ (parseMethodDescriptor yL_load.desc).map (fun d => d.parameters.length) = some 3 := by decide +kernel
set_option maxHeartbeats 4000000 in
set_option maxRecDepth 100000 in
theorem k_L_load (l : Launch) (hls : l.stackTraces = false) (E : Ev) (K : Kd) (z : Nat) (a_0 : Option Nat) (a_1 : Int32) (a_2 : Option Nat) (w : Wd) {r : Int32} {w' : Wd} (hf : f_L_load K a_0 a_1 a_2 w = some (r, w')) : Met l yL_load (Cond.codeWith yL_load cL_load 4 (Option.some Jvm.ClassFile.FieldType.int) [(0, 9, 12, 29)] :: bt) ({ frames := 8, cells := 1, slots := 6, locals := 133 } : Room) (va_Pc [rv E a_0, .int a_1, rv E a_2] (HB E K w z)) (QW E K w' r) 1 6 (hA E) := by
  refine MetH_ofW (cc := cL_load) (maxL := 4) (ret := (Option.some Jvm.ClassFile.FieldType.int)) (hh := [(0, 9, 12, 29)]) (by decide) rfl ?_
  intro p e s m args below meth c s₁ B hml htab hv
  obtain ⟨rfl, hz, hP, hKs, hT, hb0⟩ := hv
  have C : CX p l e s m _ meth c cL_load 4 RL (Option.some Jvm.ClassFile.FieldType.int) E := ⟨B.exec, B.bytes, hml, findClass_of_methodNamed B.named, fun w h => atoms_spec (ws := Cond.codeWith yL_load cL_load 4 (Option.some Jvm.ClassFile.FieldType.int) [(0, 9, 12, 29)] :: bt) B.pre w (List.mem_cons_of_mem _ h), hKs, hT, by rw [hz]; exact hb0, B.notSynchronized, B.returns⟩
  have hH : HQ E K z w s s.heap [] := ⟨hP, va_S.rf, hz⟩
  obtain ⟨hx, hb, hml, hown, hts, hKs, hT, hb0, hlocks, hret⟩ := id C
  have hl := lv_entry [rv E a_0, .int a_1, rv E a_2] (n := 4) (by simp [lg_len_nil, lg_len_i, lg_len_j, lg_len_q, lg_len_f, lg_len_d, lg_len_r])
  rw [lg_entry_eq]
  generalize (lg_sl [rv E a_0, .int a_1, rv E a_2] ++ List.replicate (4 - (lg_sl [rv E a_0, .int a_1, rv E a_2]).length) Slot.unset).toArray = ls at hl ⊢
  replace hl : lv_has ls 4 [(0, rv E a_0), (1, .int a_1), (2, rv E a_2)] := by simpa only [lv_args, cat_q, cat_i, cat_j, reduceIte, Nat.reduceEqDiff, Nat.reduceAdd, Nat.zero_add] using hl
  generalize s.heap = H at hH ⊢
  unfold f_L_load at hf
  refine hl_aload_n hx hb dL_load_0 rfl (lv_at hl 2 rfl) ?_
  refine lv_iconst (v := 0) hx hb dL_load_1 (by decide) ?_
  refine hl_aload_n hx hb dL_load_2 rfl (lv_at hl 0 rfl) ?_
  refine lv_iload_n hx hb dL_load_3 rfl (lv_at hl 1 rfl) ?_
  obtain ⟨a1, ha1, hf⟩ := bnd hf
  replace ha1 := chk_some ha1
  obtain ⟨q2, hq2, hf⟩ := bnd hf
  refine hxC_i hx hb hml hown hts hKs hT hb0 hH (As := [.int a_1]) (rest := [.int 0, rv E a_2]) (k_X12_load l hls E K H.size a1 a_1 w ha1.2 hq2) (gV m5_134 m5_135 m5_136 m1_1 m5_137) hd_X12_load ⟨Nat.le_of_ble_eq_true rfl, Nat.le_of_ble_eq_true rfl, rfl, rfl⟩ ha1.1 ha1.2 rfl rfl rfl hl.1 rfl (rcI (rcV rc0)) rfl dL_load_4 ⟨Nat.le_of_ble_eq_true rfl, Nat.le_of_ble_eq_true rfl⟩ (fun c4 hc4 H locs q9 ce9 hH hc9 hv9 hf9 => ?_) (fun v3 hv3 H locs hH => ?_)
  · replace hf := (xh_inr hc4).symm.trans hf
    by_cases h5 : c4 = 1
    · subst h5
      replace hf := (if_pos rfl).symm.trans hf
      refine vx_catch (name := "java/lang/IndexOutOfBoundsException") hown [] ⟨0, 9, 12, 29⟩ [] htab pass0 (by decide) (by decide) (hts _ m5_86) (va_Nw.use rfl (hKs.2.1 _ m5_97)) hc9 hv9 hf9 ?_
      refine lv_astore_n (lv' := [(3, .ref q9), (0, rv E a_0), (1, .int a_1), (2, rv E a_2)]) hx hb dL_load_12 rfl hl (by decide) (by simp [List.filter_cons, cat_q, cat_i, cat_j]) (fun ls hl => ?_)
      refine lv_iconst (v := 1) hx hb dL_load_13 (by decide) ?_
      exact hw_wret hx hb (Nat.le_of_ble_eq_true rfl) (Nat.le_of_ble_eq_true rfl) hret hf hH hlocks dL_load_14
    replace hf := (if_neg h5).symm.trans hf
    cases hf
  · replace hf := (xh_inl hv3).symm.trans hf
    refine lv_i2l (v := (v3.toInt64)) hx hb dL_load_7 rfl ?_
    obtain ⟨a6, ha6, hf⟩ := bnd hf
    replace ha6 := cha_some ha6
    obtain ⟨j7, hj7, hf⟩ := bnd hf
    obtain ⟨w8, hw8, hf⟩ := bnd hf
    replace hw8 := Option.some.inj hw8
    refine hw_last (x := (v3.toInt64)) hx hb hKs hH ha6.1 ha6.2 hj7 dL_load_8 (fun H locs hH => ?_)
    rw [hw8] at hH
    refine lv_goto (tgt := 15) hx hb dL_load_9 (by decide) ?_
    refine lv_iconst (v := 0) hx hb dL_load_15 (by decide) ?_
    exact hw_wret hx hb (Nat.le_of_ble_eq_true rfl) (Nat.le_of_ble_eq_true rfl) hret hf hH hlocks dL_load_16

theorem dL_matter_0 : decode cL_matter 0 = .ok (.aload_n 3, 1) := by decide +kernel
theorem dL_matter_1 : decode cL_matter 1 = .ok (.iconst 0, 1) := by decide +kernel
theorem dL_matter_2 : decode cL_matter 2 = .ok (.aload_n 0, 1) := by decide +kernel
theorem dL_matter_3 : decode cL_matter 3 = .ok (.iload_n 1, 1) := by decide +kernel
theorem dL_matter_4 : decode cL_matter 4 = .ok (.iload_n 2, 1) := by decide +kernel
theorem dL_matter_5 : decode cL_matter 5 = .ok (.invokevirtual 41, 3) := by decide +kernel
theorem dL_matter_8 : decode cL_matter 8 = .ok (.i2l, 1) := by decide +kernel
theorem dL_matter_9 : decode cL_matter 9 = .ok (.lastore, 1) := by decide +kernel
theorem dL_matter_10 : decode cL_matter 10 = .ok (.goto 7, 3) := by decide +kernel
theorem dL_matter_13 : decode cL_matter 13 = .ok (.astore 4, 2) := by decide +kernel
theorem dL_matter_15 : decode cL_matter 15 = .ok (.iconst 1, 1) := by decide +kernel
theorem dL_matter_16 : decode cL_matter 16 = .ok (.ireturn, 1) := by decide +kernel
theorem dL_matter_17 : decode cL_matter 17 = .ok (.iconst 0, 1) := by decide +kernel
theorem dL_matter_18 : decode cL_matter 18 = .ok (.ireturn, 1) := by decide +kernel
theorem hs_L_matter : yL_matter.cls ≠ "java/lang/invoke/MethodHandle" ∧ yL_matter.cls ≠ "java/lang/invoke/VarHandle" ∧ (parseMethodDescriptor yL_matter.desc).map (fun d => d.parameters.length) = some 4 := by decide +kernel
set_option maxHeartbeats 4000000 in
set_option maxRecDepth 100000 in
theorem k_L_matter (l : Launch) (hls : l.stackTraces = false) (E : Ev) (K : Kd) (z : Nat) (a_0 : Option Nat) (a_1 : Int32) (a_2 : Int32) (a_3 : Option Nat) (w : Wd) {r : Int32} {w' : Wd} (hf : f_L_matter K a_0 a_1 a_2 a_3 w = some (r, w')) : Met l yL_matter (Cond.codeWith yL_matter cL_matter 5 (Option.some Jvm.ClassFile.FieldType.int) [(0, 10, 13, 29)] :: bt) ({ frames := 8, cells := 2, slots := 12, locals := 136 } : Room) (va_Pc [rv E a_0, .int a_1, .int a_2, rv E a_3] (HB E K w z)) (QW E K w' r) 2 12 (hA E) := by
  refine MetH_ofW (cc := cL_matter) (maxL := 5) (ret := (Option.some Jvm.ClassFile.FieldType.int)) (hh := [(0, 10, 13, 29)]) (by decide) rfl ?_
  intro p e s m args below meth c s₁ B hml htab hv
  obtain ⟨rfl, hz, hP, hKs, hT, hb0⟩ := hv
  have C : CX p l e s m _ meth c cL_matter 5 RL (Option.some Jvm.ClassFile.FieldType.int) E := ⟨B.exec, B.bytes, hml, findClass_of_methodNamed B.named, fun w h => atoms_spec (ws := Cond.codeWith yL_matter cL_matter 5 (Option.some Jvm.ClassFile.FieldType.int) [(0, 10, 13, 29)] :: bt) B.pre w (List.mem_cons_of_mem _ h), hKs, hT, by rw [hz]; exact hb0, B.notSynchronized, B.returns⟩
  have hH : HQ E K z w s s.heap [] := ⟨hP, va_S.rf, hz⟩
  obtain ⟨hx, hb, hml, hown, hts, hKs, hT, hb0, hlocks, hret⟩ := id C
  have hl := lv_entry [rv E a_0, .int a_1, .int a_2, rv E a_3] (n := 5) (by simp [lg_len_nil, lg_len_i, lg_len_j, lg_len_q, lg_len_f, lg_len_d, lg_len_r])
  rw [lg_entry_eq]
  generalize (lg_sl [rv E a_0, .int a_1, .int a_2, rv E a_3] ++ List.replicate (5 - (lg_sl [rv E a_0, .int a_1, .int a_2, rv E a_3]).length) Slot.unset).toArray = ls at hl ⊢
  replace hl : lv_has ls 5 [(0, rv E a_0), (1, .int a_1), (2, .int a_2), (3, rv E a_3)] := by simpa only [lv_args, cat_q, cat_i, cat_j, reduceIte, Nat.reduceEqDiff, Nat.reduceAdd, Nat.zero_add] using hl
  generalize s.heap = H at hH ⊢
  unfold f_L_matter at hf
  refine hl_aload_n hx hb dL_matter_0 rfl (lv_at hl 3 rfl) ?_
  refine lv_iconst (v := 0) hx hb dL_matter_1 (by decide) ?_
  refine hl_aload_n hx hb dL_matter_2 rfl (lv_at hl 0 rfl) ?_
  refine lv_iload_n hx hb dL_matter_3 rfl (lv_at hl 1 rfl) ?_
  refine lv_iload_n hx hb dL_matter_4 rfl (lv_at hl 2 rfl) ?_
  obtain ⟨a1, ha1, hf⟩ := bnd hf
  replace ha1 := chk_some ha1
  obtain ⟨q2, hq2, hf⟩ := bnd hf
  refine hxC_i hx hb hml hown hts hKs hT hb0 hH (As := [.int a_1, .int a_2]) (rest := [.int 0, rv E a_3]) (k_X12_matter l hls E K H.size a1 a_1 a_2 w ha1.2 hq2) (gV m5_142 m5_143 m5_144 m1_1 m5_145) hd_X12_matter ⟨Nat.le_of_ble_eq_true rfl, Nat.le_of_ble_eq_true rfl, rfl, rfl⟩ ha1.1 ha1.2 rfl rfl rfl hl.1 rfl (rcI (rcV rc0)) rfl dL_matter_5 ⟨Nat.le_of_ble_eq_true rfl, Nat.le_of_ble_eq_true rfl⟩ (fun c4 hc4 H locs q9 ce9 hH hc9 hv9 hf9 => ?_) (fun v3 hv3 H locs hH => ?_)
  · replace hf := (xh_inr hc4).symm.trans hf
    by_cases h5 : c4 = 1
    · subst h5
      replace hf := (if_pos rfl).symm.trans hf
      refine vx_catch (name := "java/lang/IndexOutOfBoundsException") hown [] ⟨0, 10, 13, 29⟩ [] htab pass0 (by decide) (by decide) (hts _ m5_86) (va_Nw.use rfl (hKs.2.1 _ m5_97)) hc9 hv9 hf9 ?_
      refine lv_astore (lv' := [(4, .ref q9), (0, rv E a_0), (1, .int a_1), (2, .int a_2), (3, rv E a_3)]) hx hb dL_matter_13 hl (by decide) (by simp [List.filter_cons, cat_q, cat_i, cat_j]) (fun ls hl => ?_)
      refine lv_iconst (v := 1) hx hb dL_matter_15 (by decide) ?_
      exact hw_wret hx hb (Nat.le_of_ble_eq_true rfl) (Nat.le_of_ble_eq_true rfl) hret hf hH hlocks dL_matter_16
    replace hf := (if_neg h5).symm.trans hf
    cases hf
  · replace hf := (xh_inl hv3).symm.trans hf
    refine lv_i2l (v := (v3.toInt64)) hx hb dL_matter_8 rfl ?_
    obtain ⟨a6, ha6, hf⟩ := bnd hf
    replace ha6 := cha_some ha6
    obtain ⟨j7, hj7, hf⟩ := bnd hf
    obtain ⟨w8, hw8, hf⟩ := bnd hf
    replace hw8 := Option.some.inj hw8
    refine hw_last (x := (v3.toInt64)) hx hb hKs hH ha6.1 ha6.2 hj7 dL_matter_9 (fun H locs hH => ?_)
    rw [hw8] at hH
    refine lv_goto (tgt := 17) hx hb dL_matter_10 (by decide) ?_
    refine lv_iconst (v := 0) hx hb dL_matter_17 (by decide) ?_
    exact hw_wret hx hb (Nat.le_of_ble_eq_true rfl) (Nat.le_of_ble_eq_true rfl) hret hf hH hlocks dL_matter_18

theorem dL_hearing_0 : decode cL_hearing 0 = .ok (.aload_n 3, 1) := by decide +kernel
theorem dL_hearing_1 : decode cL_hearing 1 = .ok (.iconst 0, 1) := by decide +kernel
theorem dL_hearing_2 : decode cL_hearing 2 = .ok (.aload_n 0, 1) := by decide +kernel
theorem dL_hearing_3 : decode cL_hearing 3 = .ok (.iload_n 1, 1) := by decide +kernel
theorem dL_hearing_4 : decode cL_hearing 4 = .ok (.iload_n 2, 1) := by decide +kernel
theorem dL_hearing_5 : decode cL_hearing 5 = .ok (.invokevirtual 44, 3) := by decide +kernel
theorem dL_hearing_8 : decode cL_hearing 8 = .ok (.i2l, 1) := by decide +kernel
theorem dL_hearing_9 : decode cL_hearing 9 = .ok (.lastore, 1) := by decide +kernel
theorem dL_hearing_10 : decode cL_hearing 10 = .ok (.goto 7, 3) := by decide +kernel
theorem dL_hearing_13 : decode cL_hearing 13 = .ok (.astore 4, 2) := by decide +kernel
theorem dL_hearing_15 : decode cL_hearing 15 = .ok (.iconst 1, 1) := by decide +kernel
theorem dL_hearing_16 : decode cL_hearing 16 = .ok (.ireturn, 1) := by decide +kernel
theorem dL_hearing_17 : decode cL_hearing 17 = .ok (.iconst 0, 1) := by decide +kernel
theorem dL_hearing_18 : decode cL_hearing 18 = .ok (.ireturn, 1) := by decide +kernel
theorem hs_L_hearing : yL_hearing.cls ≠ "java/lang/invoke/MethodHandle" ∧ yL_hearing.cls ≠ "java/lang/invoke/VarHandle" ∧ (parseMethodDescriptor yL_hearing.desc).map (fun d => d.parameters.length) = some 4 := by decide +kernel
set_option maxHeartbeats 4000000 in
set_option maxRecDepth 100000 in
theorem k_L_hearing (l : Launch) (hls : l.stackTraces = false) (E : Ev) (K : Kd) (z : Nat) (a_0 : Option Nat) (a_1 : Int32) (a_2 : Int32) (a_3 : Option Nat) (w : Wd) {r : Int32} {w' : Wd} (hf : f_L_hearing K a_0 a_1 a_2 a_3 w = some (r, w')) : Met l yL_hearing (Cond.codeWith yL_hearing cL_hearing 5 (Option.some Jvm.ClassFile.FieldType.int) [(0, 10, 13, 29)] :: bt) ({ frames := 8, cells := 2, slots := 12, locals := 135 } : Room) (va_Pc [rv E a_0, .int a_1, .int a_2, rv E a_3] (HB E K w z)) (QW E K w' r) 2 12 (hA E) := by
  refine MetH_ofW (cc := cL_hearing) (maxL := 5) (ret := (Option.some Jvm.ClassFile.FieldType.int)) (hh := [(0, 10, 13, 29)]) (by decide) rfl ?_
  intro p e s m args below meth c s₁ B hml htab hv
  obtain ⟨rfl, hz, hP, hKs, hT, hb0⟩ := hv
  have C : CX p l e s m _ meth c cL_hearing 5 RL (Option.some Jvm.ClassFile.FieldType.int) E := ⟨B.exec, B.bytes, hml, findClass_of_methodNamed B.named, fun w h => atoms_spec (ws := Cond.codeWith yL_hearing cL_hearing 5 (Option.some Jvm.ClassFile.FieldType.int) [(0, 10, 13, 29)] :: bt) B.pre w (List.mem_cons_of_mem _ h), hKs, hT, by rw [hz]; exact hb0, B.notSynchronized, B.returns⟩
  have hH : HQ E K z w s s.heap [] := ⟨hP, va_S.rf, hz⟩
  obtain ⟨hx, hb, hml, hown, hts, hKs, hT, hb0, hlocks, hret⟩ := id C
  have hl := lv_entry [rv E a_0, .int a_1, .int a_2, rv E a_3] (n := 5) (by simp [lg_len_nil, lg_len_i, lg_len_j, lg_len_q, lg_len_f, lg_len_d, lg_len_r])
  rw [lg_entry_eq]
  generalize (lg_sl [rv E a_0, .int a_1, .int a_2, rv E a_3] ++ List.replicate (5 - (lg_sl [rv E a_0, .int a_1, .int a_2, rv E a_3]).length) Slot.unset).toArray = ls at hl ⊢
  replace hl : lv_has ls 5 [(0, rv E a_0), (1, .int a_1), (2, .int a_2), (3, rv E a_3)] := by simpa only [lv_args, cat_q, cat_i, cat_j, reduceIte, Nat.reduceEqDiff, Nat.reduceAdd, Nat.zero_add] using hl
  generalize s.heap = H at hH ⊢
  unfold f_L_hearing at hf
  refine hl_aload_n hx hb dL_hearing_0 rfl (lv_at hl 3 rfl) ?_
  refine lv_iconst (v := 0) hx hb dL_hearing_1 (by decide) ?_
  refine hl_aload_n hx hb dL_hearing_2 rfl (lv_at hl 0 rfl) ?_
  refine lv_iload_n hx hb dL_hearing_3 rfl (lv_at hl 1 rfl) ?_
  refine lv_iload_n hx hb dL_hearing_4 rfl (lv_at hl 2 rfl) ?_
  obtain ⟨a1, ha1, hf⟩ := bnd hf
  replace ha1 := chk_some ha1
  obtain ⟨q2, hq2, hf⟩ := bnd hf
  refine hxC_i hx hb hml hown hts hKs hT hb0 hH (As := [.int a_1, .int a_2]) (rest := [.int 0, rv E a_3]) (k_X12_hearing l hls E K H.size a1 a_1 a_2 w ha1.2 hq2) (gV m5_151 m5_152 m5_153 m1_1 m5_154) hd_X12_hearing ⟨Nat.le_of_ble_eq_true rfl, Nat.le_of_ble_eq_true rfl, rfl, rfl⟩ ha1.1 ha1.2 rfl rfl rfl hl.1 rfl (rcI (rcV rc0)) rfl dL_hearing_5 ⟨Nat.le_of_ble_eq_true rfl, Nat.le_of_ble_eq_true rfl⟩ (fun c4 hc4 H locs q9 ce9 hH hc9 hv9 hf9 => ?_) (fun v3 hv3 H locs hH => ?_)
  · replace hf := (xh_inr hc4).symm.trans hf
    by_cases h5 : c4 = 1
    · subst h5
      replace hf := (if_pos rfl).symm.trans hf
      refine vx_catch (name := "java/lang/IndexOutOfBoundsException") hown [] ⟨0, 10, 13, 29⟩ [] htab pass0 (by decide) (by decide) (hts _ m5_86) (va_Nw.use rfl (hKs.2.1 _ m5_97)) hc9 hv9 hf9 ?_
      refine lv_astore (lv' := [(4, .ref q9), (0, rv E a_0), (1, .int a_1), (2, .int a_2), (3, rv E a_3)]) hx hb dL_hearing_13 hl (by decide) (by simp [List.filter_cons, cat_q, cat_i, cat_j]) (fun ls hl => ?_)
      refine lv_iconst (v := 1) hx hb dL_hearing_15 (by decide) ?_
      exact hw_wret hx hb (Nat.le_of_ble_eq_true rfl) (Nat.le_of_ble_eq_true rfl) hret hf hH hlocks dL_hearing_16
    replace hf := (if_neg h5).symm.trans hf
    cases hf
  · replace hf := (xh_inl hv3).symm.trans hf
    refine lv_i2l (v := (v3.toInt64)) hx hb dL_hearing_8 rfl ?_
    obtain ⟨a6, ha6, hf⟩ := bnd hf
    replace ha6 := cha_some ha6
    obtain ⟨j7, hj7, hf⟩ := bnd hf
    obtain ⟨w8, hw8, hf⟩ := bnd hf
    replace hw8 := Option.some.inj hw8
    refine hw_last (x := (v3.toInt64)) hx hb hKs hH ha6.1 ha6.2 hj7 dL_hearing_9 (fun H locs hH => ?_)
    rw [hw8] at hH
    refine lv_goto (tgt := 17) hx hb dL_hearing_10 (by decide) ?_
    refine lv_iconst (v := 0) hx hb dL_hearing_17 (by decide) ?_
    exact hw_wret hx hb (Nat.le_of_ble_eq_true rfl) (Nat.le_of_ble_eq_true rfl) hret hf hH hlocks dL_hearing_18

theorem dL_adjournment_0 : decode cL_adjournment 0 = .ok (.aload 4, 2) := by decide +kernel
theorem dL_adjournment_2 : decode cL_adjournment 2 = .ok (.iconst 0, 1) := by decide +kernel
theorem dL_adjournment_3 : decode cL_adjournment 3 = .ok (.aload_n 0, 1) := by decide +kernel
theorem dL_adjournment_4 : decode cL_adjournment 4 = .ok (.iload_n 1, 1) := by decide +kernel
theorem dL_adjournment_5 : decode cL_adjournment 5 = .ok (.iload_n 2, 1) := by decide +kernel
theorem dL_adjournment_6 : decode cL_adjournment 6 = .ok (.iload_n 3, 1) := by decide +kernel
theorem dL_adjournment_7 : decode cL_adjournment 7 = .ok (.invokevirtual 47, 3) := by decide +kernel
theorem dL_adjournment_10 : decode cL_adjournment 10 = .ok (.i2l, 1) := by decide +kernel
theorem dL_adjournment_11 : decode cL_adjournment 11 = .ok (.lastore, 1) := by decide +kernel
theorem dL_adjournment_12 : decode cL_adjournment 12 = .ok (.goto 7, 3) := by decide +kernel
theorem dL_adjournment_15 : decode cL_adjournment 15 = .ok (.astore 5, 2) := by decide +kernel
theorem dL_adjournment_17 : decode cL_adjournment 17 = .ok (.iconst 1, 1) := by decide +kernel
theorem dL_adjournment_18 : decode cL_adjournment 18 = .ok (.ireturn, 1) := by decide +kernel
theorem dL_adjournment_19 : decode cL_adjournment 19 = .ok (.iconst 0, 1) := by decide +kernel
theorem dL_adjournment_20 : decode cL_adjournment 20 = .ok (.ireturn, 1) := by decide +kernel
theorem hs_L_adjournment : yL_adjournment.cls ≠ "java/lang/invoke/MethodHandle" ∧ yL_adjournment.cls ≠ "java/lang/invoke/VarHandle" ∧ (parseMethodDescriptor yL_adjournment.desc).map (fun d => d.parameters.length) = some 5 := by decide +kernel
set_option maxHeartbeats 4000000 in
set_option maxRecDepth 100000 in
theorem k_L_adjournment (l : Launch) (hls : l.stackTraces = false) (E : Ev) (K : Kd) (z : Nat) (a_0 : Option Nat) (a_1 : Int32) (a_2 : Int32) (a_3 : Int32) (a_4 : Option Nat) (w : Wd) {r : Int32} {w' : Wd} (hf : f_L_adjournment K a_0 a_1 a_2 a_3 a_4 w = some (r, w')) : Met l yL_adjournment (Cond.codeWith yL_adjournment cL_adjournment 6 (Option.some Jvm.ClassFile.FieldType.int) [(0, 12, 15, 29)] :: bt) ({ frames := 8, cells := 2, slots := 12, locals := 136 } : Room) (va_Pc [rv E a_0, .int a_1, .int a_2, .int a_3, rv E a_4] (HB E K w z)) (QW E K w' r) 2 12 (hA E) := by
  refine MetH_ofW (cc := cL_adjournment) (maxL := 6) (ret := (Option.some Jvm.ClassFile.FieldType.int)) (hh := [(0, 12, 15, 29)]) (by decide) rfl ?_
  intro p e s m args below meth c s₁ B hml htab hv
  obtain ⟨rfl, hz, hP, hKs, hT, hb0⟩ := hv
  have C : CX p l e s m _ meth c cL_adjournment 6 RL (Option.some Jvm.ClassFile.FieldType.int) E := ⟨B.exec, B.bytes, hml, findClass_of_methodNamed B.named, fun w h => atoms_spec (ws := Cond.codeWith yL_adjournment cL_adjournment 6 (Option.some Jvm.ClassFile.FieldType.int) [(0, 12, 15, 29)] :: bt) B.pre w (List.mem_cons_of_mem _ h), hKs, hT, by rw [hz]; exact hb0, B.notSynchronized, B.returns⟩
  have hH : HQ E K z w s s.heap [] := ⟨hP, va_S.rf, hz⟩
  obtain ⟨hx, hb, hml, hown, hts, hKs, hT, hb0, hlocks, hret⟩ := id C
  have hl := lv_entry [rv E a_0, .int a_1, .int a_2, .int a_3, rv E a_4] (n := 6) (by simp [lg_len_nil, lg_len_i, lg_len_j, lg_len_q, lg_len_f, lg_len_d, lg_len_r])
  rw [lg_entry_eq]
  generalize (lg_sl [rv E a_0, .int a_1, .int a_2, .int a_3, rv E a_4] ++ List.replicate (6 - (lg_sl [rv E a_0, .int a_1, .int a_2, .int a_3, rv E a_4]).length) Slot.unset).toArray = ls at hl ⊢
  replace hl : lv_has ls 6 [(0, rv E a_0), (1, .int a_1), (2, .int a_2), (3, .int a_3), (4, rv E a_4)] := by simpa only [lv_args, cat_q, cat_i, cat_j, reduceIte, Nat.reduceEqDiff, Nat.reduceAdd, Nat.zero_add] using hl
  generalize s.heap = H at hH ⊢
  unfold f_L_adjournment at hf
  refine hl_aload hx hb dL_adjournment_0 (lv_at hl 4 rfl) ?_
  refine lv_iconst (v := 0) hx hb dL_adjournment_2 (by decide) ?_
  refine hl_aload_n hx hb dL_adjournment_3 rfl (lv_at hl 0 rfl) ?_
  refine lv_iload_n hx hb dL_adjournment_4 rfl (lv_at hl 1 rfl) ?_
  refine lv_iload_n hx hb dL_adjournment_5 rfl (lv_at hl 2 rfl) ?_
  refine lv_iload_n hx hb dL_adjournment_6 rfl (lv_at hl 3 rfl) ?_
  obtain ⟨a1, ha1, hf⟩ := bnd hf
  replace ha1 := chk_some ha1
  obtain ⟨q2, hq2, hf⟩ := bnd hf
  refine hxC_i hx hb hml hown hts hKs hT hb0 hH (As := [.int a_1, .int a_2, .int a_3]) (rest := [.int 0, rv E a_4]) (k_X12_adjournment l hls E K H.size a1 a_1 a_2 a_3 w ha1.2 hq2) (gV m5_158 m5_159 m5_160 m1_1 m5_161) hd_X12_adjournment ⟨Nat.le_of_ble_eq_true rfl, Nat.le_of_ble_eq_true rfl, rfl, rfl⟩ ha1.1 ha1.2 rfl rfl rfl hl.1 rfl (rcI (rcV rc0)) rfl dL_adjournment_7 ⟨Nat.le_of_ble_eq_true rfl, Nat.le_of_ble_eq_true rfl⟩ (fun c4 hc4 H locs q9 ce9 hH hc9 hv9 hf9 => ?_) (fun v3 hv3 H locs hH => ?_)
  · replace hf := (xh_inr hc4).symm.trans hf
    by_cases h5 : c4 = 1
    · subst h5
      replace hf := (if_pos rfl).symm.trans hf
      refine vx_catch (name := "java/lang/IndexOutOfBoundsException") hown [] ⟨0, 12, 15, 29⟩ [] htab pass0 (by decide) (by decide) (hts _ m5_86) (va_Nw.use rfl (hKs.2.1 _ m5_97)) hc9 hv9 hf9 ?_
      refine lv_astore (lv' := [(5, .ref q9), (0, rv E a_0), (1, .int a_1), (2, .int a_2), (3, .int a_3), (4, rv E a_4)]) hx hb dL_adjournment_15 hl (by decide) (by simp [List.filter_cons, cat_q, cat_i, cat_j]) (fun ls hl => ?_)
      refine lv_iconst (v := 1) hx hb dL_adjournment_17 (by decide) ?_
      exact hw_wret hx hb (Nat.le_of_ble_eq_true rfl) (Nat.le_of_ble_eq_true rfl) hret hf hH hlocks dL_adjournment_18
    replace hf := (if_neg h5).symm.trans hf
    cases hf
  · replace hf := (xh_inl hv3).symm.trans hf
    refine lv_i2l (v := (v3.toInt64)) hx hb dL_adjournment_10 rfl ?_
    obtain ⟨a6, ha6, hf⟩ := bnd hf
    replace ha6 := cha_some ha6
    obtain ⟨j7, hj7, hf⟩ := bnd hf
    obtain ⟨w8, hw8, hf⟩ := bnd hf
    replace hw8 := Option.some.inj hw8
    refine hw_last (x := (v3.toInt64)) hx hb hKs hH ha6.1 ha6.2 hj7 dL_adjournment_11 (fun H locs hH => ?_)
    rw [hw8] at hH
    refine lv_goto (tgt := 19) hx hb dL_adjournment_12 (by decide) ?_
    refine lv_iconst (v := 0) hx hb dL_adjournment_19 (by decide) ?_
    exact hw_wret hx hb (Nat.le_of_ble_eq_true rfl) (Nat.le_of_ble_eq_true rfl) hret hf hH hlocks dL_adjournment_20

theorem dL_caseAt_0 : decode cL_caseAt 0 = .ok (.aload 4, 2) := by decide +kernel
theorem dL_caseAt_2 : decode cL_caseAt 2 = .ok (.iconst 0, 1) := by decide +kernel
theorem dL_caseAt_3 : decode cL_caseAt 3 = .ok (.aload_n 0, 1) := by decide +kernel
theorem dL_caseAt_4 : decode cL_caseAt 4 = .ok (.iload_n 1, 1) := by decide +kernel
theorem dL_caseAt_5 : decode cL_caseAt 5 = .ok (.iload_n 2, 1) := by decide +kernel
theorem dL_caseAt_6 : decode cL_caseAt 6 = .ok (.iload_n 3, 1) := by decide +kernel
theorem dL_caseAt_7 : decode cL_caseAt 7 = .ok (.invokevirtual 51, 3) := by decide +kernel
theorem dL_caseAt_10 : decode cL_caseAt 10 = .ok (.i2l, 1) := by decide +kernel
theorem dL_caseAt_11 : decode cL_caseAt 11 = .ok (.lastore, 1) := by decide +kernel
theorem dL_caseAt_12 : decode cL_caseAt 12 = .ok (.goto 11, 3) := by decide +kernel
theorem dL_caseAt_15 : decode cL_caseAt 15 = .ok (.astore 5, 2) := by decide +kernel
theorem dL_caseAt_17 : decode cL_caseAt 17 = .ok (.iconst 1, 1) := by decide +kernel
theorem dL_caseAt_18 : decode cL_caseAt 18 = .ok (.ireturn, 1) := by decide +kernel
theorem dL_caseAt_19 : decode cL_caseAt 19 = .ok (.astore 5, 2) := by decide +kernel
theorem dL_caseAt_21 : decode cL_caseAt 21 = .ok (.iconst 2, 1) := by decide +kernel
theorem dL_caseAt_22 : decode cL_caseAt 22 = .ok (.ireturn, 1) := by decide +kernel
theorem dL_caseAt_23 : decode cL_caseAt 23 = .ok (.iconst 0, 1) := by decide +kernel
theorem dL_caseAt_24 : decode cL_caseAt 24 = .ok (.ireturn, 1) := by decide +kernel
theorem hs_L_caseAt : yL_caseAt.cls ≠ "java/lang/invoke/MethodHandle" ∧ yL_caseAt.cls ≠ "java/lang/invoke/VarHandle" ∧ (parseMethodDescriptor yL_caseAt.desc).map (fun d => d.parameters.length) = some 5 := by decide +kernel
set_option maxHeartbeats 4000000 in
set_option maxRecDepth 100000 in
theorem k_L_caseAt (l : Launch) (hls : l.stackTraces = false) (E : Ev) (K : Kd) (z : Nat) (a_0 : Option Nat) (a_1 : Int32) (a_2 : Int32) (a_3 : Int32) (a_4 : Option Nat) (w : Wd) {r : Int32} {w' : Wd} (hf : f_L_caseAt K a_0 a_1 a_2 a_3 a_4 w = some (r, w')) : Met l yL_caseAt (Cond.codeWith yL_caseAt cL_caseAt 6 (Option.some Jvm.ClassFile.FieldType.int) [(0, 12, 15, 29), (0, 12, 19, 13)] :: bt) ({ frames := 8, cells := 3, slots := 18, locals := 135 } : Room) (va_Pc [rv E a_0, .int a_1, .int a_2, .int a_3, rv E a_4] (HB E K w z)) (QW E K w' r) 3 18 (hA E) := by
  refine MetH_ofW (cc := cL_caseAt) (maxL := 6) (ret := (Option.some Jvm.ClassFile.FieldType.int)) (hh := [(0, 12, 15, 29), (0, 12, 19, 13)]) (by decide) rfl ?_
  intro p e s m args below meth c s₁ B hml htab hv
  obtain ⟨rfl, hz, hP, hKs, hT, hb0⟩ := hv
  have C : CX p l e s m _ meth c cL_caseAt 6 RL (Option.some Jvm.ClassFile.FieldType.int) E := ⟨B.exec, B.bytes, hml, findClass_of_methodNamed B.named, fun w h => atoms_spec (ws := Cond.codeWith yL_caseAt cL_caseAt 6 (Option.some Jvm.ClassFile.FieldType.int) [(0, 12, 15, 29), (0, 12, 19, 13)] :: bt) B.pre w (List.mem_cons_of_mem _ h), hKs, hT, by rw [hz]; exact hb0, B.notSynchronized, B.returns⟩
  have hH : HQ E K z w s s.heap [] := ⟨hP, va_S.rf, hz⟩
  obtain ⟨hx, hb, hml, hown, hts, hKs, hT, hb0, hlocks, hret⟩ := id C
  have hl := lv_entry [rv E a_0, .int a_1, .int a_2, .int a_3, rv E a_4] (n := 6) (by simp [lg_len_nil, lg_len_i, lg_len_j, lg_len_q, lg_len_f, lg_len_d, lg_len_r])
  rw [lg_entry_eq]
  generalize (lg_sl [rv E a_0, .int a_1, .int a_2, .int a_3, rv E a_4] ++ List.replicate (6 - (lg_sl [rv E a_0, .int a_1, .int a_2, .int a_3, rv E a_4]).length) Slot.unset).toArray = ls at hl ⊢
  replace hl : lv_has ls 6 [(0, rv E a_0), (1, .int a_1), (2, .int a_2), (3, .int a_3), (4, rv E a_4)] := by simpa only [lv_args, cat_q, cat_i, cat_j, reduceIte, Nat.reduceEqDiff, Nat.reduceAdd, Nat.zero_add] using hl
  generalize s.heap = H at hH ⊢
  unfold f_L_caseAt at hf
  refine hl_aload hx hb dL_caseAt_0 (lv_at hl 4 rfl) ?_
  refine lv_iconst (v := 0) hx hb dL_caseAt_2 (by decide) ?_
  refine hl_aload_n hx hb dL_caseAt_3 rfl (lv_at hl 0 rfl) ?_
  refine lv_iload_n hx hb dL_caseAt_4 rfl (lv_at hl 1 rfl) ?_
  refine lv_iload_n hx hb dL_caseAt_5 rfl (lv_at hl 2 rfl) ?_
  refine lv_iload_n hx hb dL_caseAt_6 rfl (lv_at hl 3 rfl) ?_
  obtain ⟨a1, ha1, hf⟩ := bnd hf
  replace ha1 := chk_some ha1
  obtain ⟨q2, hq2, hf⟩ := bnd hf
  refine hxC_i hx hb hml hown hts hKs hT hb0 hH (As := [.int a_1, .int a_2, .int a_3]) (rest := [.int 0, rv E a_4]) (k_X12_caseAt l hls E K H.size a1 a_1 a_2 a_3 w ha1.2 hq2) (gV m5_165 m5_166 m5_167 m1_1 m5_168) hd_X12_caseAt ⟨Nat.le_of_ble_eq_true rfl, Nat.le_of_ble_eq_true rfl, rfl, rfl⟩ ha1.1 ha1.2 rfl rfl rfl hl.1 rfl (rcI (rcV rc0)) rfl dL_caseAt_7 ⟨Nat.le_of_ble_eq_true rfl, Nat.le_of_ble_eq_true rfl⟩ (fun c4 hc4 H locs q9 ce9 hH hc9 hv9 hf9 => ?_) (fun v3 hv3 H locs hH => ?_)
  · replace hf := (xh_inr hc4).symm.trans hf
    by_cases h5 : c4 = 1
    · subst h5
      replace hf := (if_pos rfl).symm.trans hf
      refine vx_catch (name := "java/lang/IndexOutOfBoundsException") hown [] ⟨0, 12, 15, 29⟩ [⟨0, 12, 19, 13⟩] htab pass0 (by decide) (by decide) (hts _ m5_86) (va_Nw.use rfl (hKs.2.1 _ m5_97)) hc9 hv9 hf9 ?_
      refine lv_astore (lv' := [(5, .ref q9), (0, rv E a_0), (1, .int a_1), (2, .int a_2), (3, .int a_3), (4, rv E a_4)]) hx hb dL_caseAt_15 hl (by decide) (by simp [List.filter_cons, cat_q, cat_i, cat_j]) (fun ls hl => ?_)
      refine lv_iconst (v := 1) hx hb dL_caseAt_17 (by decide) ?_
      exact hw_wret hx hb (Nat.le_of_ble_eq_true rfl) (Nat.le_of_ble_eq_true rfl) hret hf hH hlocks dL_caseAt_18
    replace hf := (if_neg h5).symm.trans hf
    by_cases h6 : c4 = 2
    · subst h6
      replace hf := (if_pos rfl).symm.trans hf
      refine vx_catch (name := "java/lang/IllegalArgumentException") hown [⟨0, 12, 15, 29⟩] ⟨0, 12, 19, 13⟩ [] htab (pass1 (Or.inr ⟨by decide, "java/lang/IndexOutOfBoundsException", hts _ m5_86, hKs.2.2.2.1 ("java/lang/IllegalArgumentException", "java/lang/IndexOutOfBoundsException") (by decide)⟩) pass0) (by decide) (by decide) (hts _ m4_213) (va_Nw.use rfl (hKs.2.1 _ m4_220)) hc9 hv9 hf9 ?_
      refine lv_astore (lv' := [(5, .ref q9), (0, rv E a_0), (1, .int a_1), (2, .int a_2), (3, .int a_3), (4, rv E a_4)]) hx hb dL_caseAt_19 hl (by decide) (by simp [List.filter_cons, cat_q, cat_i, cat_j]) (fun ls hl => ?_)
      refine lv_iconst (v := 2) hx hb dL_caseAt_21 (by decide) ?_
      exact hw_wret hx hb (Nat.le_of_ble_eq_true rfl) (Nat.le_of_ble_eq_true rfl) hret hf hH hlocks dL_caseAt_22
    replace hf := (if_neg h6).symm.trans hf
    cases hf
  · replace hf := (xh_inl hv3).symm.trans hf
    refine lv_i2l (v := (v3.toInt64)) hx hb dL_caseAt_10 rfl ?_
    obtain ⟨a7, ha7, hf⟩ := bnd hf
    replace ha7 := cha_some ha7
    obtain ⟨j8, hj8, hf⟩ := bnd hf
    obtain ⟨w9, hw9, hf⟩ := bnd hf
    replace hw9 := Option.some.inj hw9
    refine hw_last (x := (v3.toInt64)) hx hb hKs hH ha7.1 ha7.2 hj8 dL_caseAt_11 (fun H locs hH => ?_)
    rw [hw9] at hH
    refine lv_goto (tgt := 23) hx hb dL_caseAt_12 (by decide) ?_
    refine lv_iconst (v := 0) hx hb dL_caseAt_23 (by decide) ?_
    exact hw_wret hx hb (Nat.le_of_ble_eq_true rfl) (Nat.le_of_ble_eq_true rfl) hret hf hH hlocks dL_caseAt_24

theorem dL_urgent_0 : decode cL_urgent 0 = .ok (.aload_n 2, 1) := by decide +kernel
theorem dL_urgent_1 : decode cL_urgent 1 = .ok (.iconst 0, 1) := by decide +kernel
theorem dL_urgent_2 : decode cL_urgent 2 = .ok (.aload_n 0, 1) := by decide +kernel
theorem dL_urgent_3 : decode cL_urgent 3 = .ok (.iload_n 1, 1) := by decide +kernel
theorem dL_urgent_4 : decode cL_urgent 4 = .ok (.invokevirtual 66, 3) := by decide +kernel
theorem dL_urgent_7 : decode cL_urgent 7 = .ok (.i2l, 1) := by decide +kernel
theorem dL_urgent_8 : decode cL_urgent 8 = .ok (.lastore, 1) := by decide +kernel
theorem dL_urgent_9 : decode cL_urgent 9 = .ok (.goto 6, 3) := by decide +kernel
theorem dL_urgent_12 : decode cL_urgent 12 = .ok (.astore_n 3, 1) := by decide +kernel
theorem dL_urgent_13 : decode cL_urgent 13 = .ok (.iconst 1, 1) := by decide +kernel
theorem dL_urgent_14 : decode cL_urgent 14 = .ok (.ireturn, 1) := by decide +kernel
theorem dL_urgent_15 : decode cL_urgent 15 = .ok (.iconst 0, 1) := by decide +kernel
theorem dL_urgent_16 : decode cL_urgent 16 = .ok (.ireturn, 1) := by decide +kernel
theorem hs_L_urgent : yL_urgent.cls ≠ "java/lang/invoke/MethodHandle" ∧ yL_urgent.cls ≠ "java/lang/invoke/VarHandle" ∧ (parseMethodDescriptor yL_urgent.desc).map (fun d => d.parameters.length) = some 3 := by decide +kernel
set_option maxHeartbeats 4000000 in
set_option maxRecDepth 100000 in
theorem k_L_urgent (l : Launch) (hls : l.stackTraces = false) (E : Ev) (K : Kd) (z : Nat) (a_0 : Option Nat) (a_1 : Int32) (a_2 : Option Nat) (w : Wd) {r : Int32} {w' : Wd} (hf : f_L_urgent K a_0 a_1 a_2 w = some (r, w')) : Met l yL_urgent (Cond.codeWith yL_urgent cL_urgent 4 (Option.some Jvm.ClassFile.FieldType.int) [(0, 9, 12, 69)] :: bt) ({ frames := 7, cells := 1, slots := 6, locals := 133 } : Room) (va_Pc [rv E a_0, .int a_1, rv E a_2] (HB E K w z)) (QW E K w' r) 1 6 (hA E) := by
  refine MetH_ofW (cc := cL_urgent) (maxL := 4) (ret := (Option.some Jvm.ClassFile.FieldType.int)) (hh := [(0, 9, 12, 69)]) (by decide) rfl ?_
  intro p e s m args below meth c s₁ B hml htab hv
  obtain ⟨rfl, hz, hP, hKs, hT, hb0⟩ := hv
  have C : CX p l e s m _ meth c cL_urgent 4 RL (Option.some Jvm.ClassFile.FieldType.int) E := ⟨B.exec, B.bytes, hml, findClass_of_methodNamed B.named, fun w h => atoms_spec (ws := Cond.codeWith yL_urgent cL_urgent 4 (Option.some Jvm.ClassFile.FieldType.int) [(0, 9, 12, 69)] :: bt) B.pre w (List.mem_cons_of_mem _ h), hKs, hT, by rw [hz]; exact hb0, B.notSynchronized, B.returns⟩
  have hH : HQ E K z w s s.heap [] := ⟨hP, va_S.rf, hz⟩
  obtain ⟨hx, hb, hml, hown, hts, hKs, hT, hb0, hlocks, hret⟩ := id C
  have hl := lv_entry [rv E a_0, .int a_1, rv E a_2] (n := 4) (by simp [lg_len_nil, lg_len_i, lg_len_j, lg_len_q, lg_len_f, lg_len_d, lg_len_r])
  rw [lg_entry_eq]
  generalize (lg_sl [rv E a_0, .int a_1, rv E a_2] ++ List.replicate (4 - (lg_sl [rv E a_0, .int a_1, rv E a_2]).length) Slot.unset).toArray = ls at hl ⊢
  replace hl : lv_has ls 4 [(0, rv E a_0), (1, .int a_1), (2, rv E a_2)] := by simpa only [lv_args, cat_q, cat_i, cat_j, reduceIte, Nat.reduceEqDiff, Nat.reduceAdd, Nat.zero_add] using hl
  generalize s.heap = H at hH ⊢
  unfold f_L_urgent at hf
  refine hl_aload_n hx hb dL_urgent_0 rfl (lv_at hl 2 rfl) ?_
  refine lv_iconst (v := 0) hx hb dL_urgent_1 (by decide) ?_
  refine hl_aload_n hx hb dL_urgent_2 rfl (lv_at hl 0 rfl) ?_
  refine lv_iload_n hx hb dL_urgent_3 rfl (lv_at hl 1 rfl) ?_
  obtain ⟨a1, ha1, hf⟩ := bnd hf
  replace ha1 := chk_some ha1
  obtain ⟨q2, hq2, hf⟩ := bnd hf
  refine hxC_i hx hb hml hown hts hKs hT hb0 hH (As := [.int a_1]) (rest := [.int 0, rv E a_2]) (k_X12_urgent l hls E K H.size a1 a_1 w ha1.2 hq2) (gV m5_237 m5_238 m5_239 m1_1 m6_0) hd_X12_urgent ⟨Nat.le_of_ble_eq_true rfl, Nat.le_of_ble_eq_true rfl, rfl, rfl⟩ ha1.1 ha1.2 rfl rfl rfl hl.1 rfl (rcI (rcV rc0)) rfl dL_urgent_4 ⟨Nat.le_of_ble_eq_true rfl, Nat.le_of_ble_eq_true rfl⟩ (fun c4 hc4 H locs q9 ce9 hH hc9 hv9 hf9 => ?_) (fun v3 hv3 H locs hH => ?_)
  · replace hf := (xh_inr hc4).symm.trans hf
    by_cases h5 : c4 = 4
    · subst h5
      replace hf := (if_pos rfl).symm.trans hf
      refine vx_catch (name := "java/util/NoSuchElementException") hown [] ⟨0, 9, 12, 69⟩ [] htab pass0 (by decide) (by decide) (hts _ m5_236) (va_Nw.use rfl (hKs.2.1 _ m6_4)) hc9 hv9 hf9 ?_
      refine lv_astore_n (lv' := [(3, .ref q9), (0, rv E a_0), (1, .int a_1), (2, rv E a_2)]) hx hb dL_urgent_12 rfl hl (by decide) (by simp [List.filter_cons, cat_q, cat_i, cat_j]) (fun ls hl => ?_)
      refine lv_iconst (v := 1) hx hb dL_urgent_13 (by decide) ?_
      exact hw_wret hx hb (Nat.le_of_ble_eq_true rfl) (Nat.le_of_ble_eq_true rfl) hret hf hH hlocks dL_urgent_14
    replace hf := (if_neg h5).symm.trans hf
    cases hf
  · replace hf := (xh_inl hv3).symm.trans hf
    refine lv_i2l (v := (v3.toInt64)) hx hb dL_urgent_7 rfl ?_
    obtain ⟨a6, ha6, hf⟩ := bnd hf
    replace ha6 := cha_some ha6
    obtain ⟨j7, hj7, hf⟩ := bnd hf
    obtain ⟨w8, hw8, hf⟩ := bnd hf
    replace hw8 := Option.some.inj hw8
    refine hw_last (x := (v3.toInt64)) hx hb hKs hH ha6.1 ha6.2 hj7 dL_urgent_8 (fun H locs hH => ?_)
    rw [hw8] at hH
    refine lv_goto (tgt := 15) hx hb dL_urgent_9 (by decide) ?_
    refine lv_iconst (v := 0) hx hb dL_urgent_15 (by decide) ?_
    exact hw_wret hx hb (Nat.le_of_ble_eq_true rfl) (Nat.le_of_ble_eq_true rfl) hret hf hH hlocks dL_urgent_16

theorem dL_slack_0 : decode cL_slack 0 = .ok (.aload_n 2, 1) := by decide +kernel
theorem dL_slack_1 : decode cL_slack 1 = .ok (.iconst 0, 1) := by decide +kernel
theorem dL_slack_2 : decode cL_slack 2 = .ok (.aload_n 0, 1) := by decide +kernel
theorem dL_slack_3 : decode cL_slack 3 = .ok (.iload_n 1, 1) := by decide +kernel
theorem dL_slack_4 : decode cL_slack 4 = .ok (.invokevirtual 71, 3) := by decide +kernel
theorem dL_slack_7 : decode cL_slack 7 = .ok (.i2l, 1) := by decide +kernel
theorem dL_slack_8 : decode cL_slack 8 = .ok (.lastore, 1) := by decide +kernel
theorem dL_slack_9 : decode cL_slack 9 = .ok (.goto 6, 3) := by decide +kernel
theorem dL_slack_12 : decode cL_slack 12 = .ok (.astore_n 3, 1) := by decide +kernel
theorem dL_slack_13 : decode cL_slack 13 = .ok (.iconst 1, 1) := by decide +kernel
theorem dL_slack_14 : decode cL_slack 14 = .ok (.ireturn, 1) := by decide +kernel
theorem dL_slack_15 : decode cL_slack 15 = .ok (.iconst 0, 1) := by decide +kernel
theorem dL_slack_16 : decode cL_slack 16 = .ok (.ireturn, 1) := by decide +kernel
theorem hs_L_slack : yL_slack.cls ≠ "java/lang/invoke/MethodHandle" ∧ yL_slack.cls ≠ "java/lang/invoke/VarHandle" ∧ (parseMethodDescriptor yL_slack.desc).map (fun d => d.parameters.length) = some 3 := by decide +kernel
set_option maxHeartbeats 4000000 in
set_option maxRecDepth 100000 in
theorem k_L_slack (l : Launch) (hls : l.stackTraces = false) (E : Ev) (K : Kd) (z : Nat) (a_0 : Option Nat) (a_1 : Int32) (a_2 : Option Nat) (w : Wd) {r : Int32} {w' : Wd} (hf : f_L_slack K a_0 a_1 a_2 w = some (r, w')) : Met l yL_slack (Cond.codeWith yL_slack cL_slack 4 (Option.some Jvm.ClassFile.FieldType.int) [(0, 9, 12, 29)] :: bt) ({ frames := 8, cells := 1, slots := 6, locals := 133 } : Room) (va_Pc [rv E a_0, .int a_1, rv E a_2] (HB E K w z)) (QW E K w' r) 1 6 (hA E) := by
  refine MetH_ofW (cc := cL_slack) (maxL := 4) (ret := (Option.some Jvm.ClassFile.FieldType.int)) (hh := [(0, 9, 12, 29)]) (by decide) rfl ?_
  intro p e s m args below meth c s₁ B hml htab hv
  obtain ⟨rfl, hz, hP, hKs, hT, hb0⟩ := hv
  have C : CX p l e s m _ meth c cL_slack 4 RL (Option.some Jvm.ClassFile.FieldType.int) E := ⟨B.exec, B.bytes, hml, findClass_of_methodNamed B.named, fun w h => atoms_spec (ws := Cond.codeWith yL_slack cL_slack 4 (Option.some Jvm.ClassFile.FieldType.int) [(0, 9, 12, 29)] :: bt) B.pre w (List.mem_cons_of_mem _ h), hKs, hT, by rw [hz]; exact hb0, B.notSynchronized, B.returns⟩
  have hH : HQ E K z w s s.heap [] := ⟨hP, va_S.rf, hz⟩
  obtain ⟨hx, hb, hml, hown, hts, hKs, hT, hb0, hlocks, hret⟩ := id C
  have hl := lv_entry [rv E a_0, .int a_1, rv E a_2] (n := 4) (by simp [lg_len_nil, lg_len_i, lg_len_j, lg_len_q, lg_len_f, lg_len_d, lg_len_r])
  rw [lg_entry_eq]
  generalize (lg_sl [rv E a_0, .int a_1, rv E a_2] ++ List.replicate (4 - (lg_sl [rv E a_0, .int a_1, rv E a_2]).length) Slot.unset).toArray = ls at hl ⊢
  replace hl : lv_has ls 4 [(0, rv E a_0), (1, .int a_1), (2, rv E a_2)] := by simpa only [lv_args, cat_q, cat_i, cat_j, reduceIte, Nat.reduceEqDiff, Nat.reduceAdd, Nat.zero_add] using hl
  generalize s.heap = H at hH ⊢
  unfold f_L_slack at hf
  refine hl_aload_n hx hb dL_slack_0 rfl (lv_at hl 2 rfl) ?_
  refine lv_iconst (v := 0) hx hb dL_slack_1 (by decide) ?_
  refine hl_aload_n hx hb dL_slack_2 rfl (lv_at hl 0 rfl) ?_
  refine lv_iload_n hx hb dL_slack_3 rfl (lv_at hl 1 rfl) ?_
  obtain ⟨a1, ha1, hf⟩ := bnd hf
  replace ha1 := chk_some ha1
  obtain ⟨q2, hq2, hf⟩ := bnd hf
  refine hxC_i hx hb hml hown hts hKs hT hb0 hH (As := [.int a_1]) (rest := [.int 0, rv E a_2]) (k_X12_slack l hls E K H.size a1 a_1 w ha1.2 hq2) (gV m6_20 m6_21 m6_22 m1_1 m6_23) hd_X12_slack ⟨Nat.le_of_ble_eq_true rfl, Nat.le_of_ble_eq_true rfl, rfl, rfl⟩ ha1.1 ha1.2 rfl rfl rfl hl.1 rfl (rcI (rcV rc0)) rfl dL_slack_4 ⟨Nat.le_of_ble_eq_true rfl, Nat.le_of_ble_eq_true rfl⟩ (fun c4 hc4 H locs q9 ce9 hH hc9 hv9 hf9 => ?_) (fun v3 hv3 H locs hH => ?_)
  · replace hf := (xh_inr hc4).symm.trans hf
    by_cases h5 : c4 = 1
    · subst h5
      replace hf := (if_pos rfl).symm.trans hf
      refine vx_catch (name := "java/lang/IndexOutOfBoundsException") hown [] ⟨0, 9, 12, 29⟩ [] htab pass0 (by decide) (by decide) (hts _ m5_86) (va_Nw.use rfl (hKs.2.1 _ m5_97)) hc9 hv9 hf9 ?_
      refine lv_astore_n (lv' := [(3, .ref q9), (0, rv E a_0), (1, .int a_1), (2, rv E a_2)]) hx hb dL_slack_12 rfl hl (by decide) (by simp [List.filter_cons, cat_q, cat_i, cat_j]) (fun ls hl => ?_)
      refine lv_iconst (v := 1) hx hb dL_slack_13 (by decide) ?_
      exact hw_wret hx hb (Nat.le_of_ble_eq_true rfl) (Nat.le_of_ble_eq_true rfl) hret hf hH hlocks dL_slack_14
    replace hf := (if_neg h5).symm.trans hf
    cases hf
  · replace hf := (xh_inl hv3).symm.trans hf
    refine lv_i2l (v := (v3.toInt64)) hx hb dL_slack_7 rfl ?_
    obtain ⟨a6, ha6, hf⟩ := bnd hf
    replace ha6 := cha_some ha6
    obtain ⟨j7, hj7, hf⟩ := bnd hf
    obtain ⟨w8, hw8, hf⟩ := bnd hf
    replace hw8 := Option.some.inj hw8
    refine hw_last (x := (v3.toInt64)) hx hb hKs hH ha6.1 ha6.2 hj7 dL_slack_8 (fun H locs hH => ?_)
    rw [hw8] at hH
    refine lv_goto (tgt := 15) hx hb dL_slack_9 (by decide) ?_
    refine lv_iconst (v := 0) hx hb dL_slack_15 (by decide) ?_
    exact hw_wret hx hb (Nat.le_of_ble_eq_true rfl) (Nat.le_of_ble_eq_true rfl) hret hf hH hlocks dL_slack_16

theorem dL_eligible_0 : decode cL_eligible 0 = .ok (.aload_n 2, 1) := by decide +kernel
theorem dL_eligible_1 : decode cL_eligible 1 = .ok (.iconst 0, 1) := by decide +kernel
theorem dL_eligible_2 : decode cL_eligible 2 = .ok (.aload_n 0, 1) := by decide +kernel
theorem dL_eligible_3 : decode cL_eligible 3 = .ok (.iload_n 1, 1) := by decide +kernel
theorem dL_eligible_4 : decode cL_eligible 4 = .ok (.invokevirtual 74, 3) := by decide +kernel
theorem dL_eligible_7 : decode cL_eligible 7 = .ok (.i2l, 1) := by decide +kernel
theorem dL_eligible_8 : decode cL_eligible 8 = .ok (.lastore, 1) := by decide +kernel
theorem dL_eligible_9 : decode cL_eligible 9 = .ok (.goto 6, 3) := by decide +kernel
theorem dL_eligible_12 : decode cL_eligible 12 = .ok (.astore_n 3, 1) := by decide +kernel
theorem dL_eligible_13 : decode cL_eligible 13 = .ok (.iconst 1, 1) := by decide +kernel
theorem dL_eligible_14 : decode cL_eligible 14 = .ok (.ireturn, 1) := by decide +kernel
theorem dL_eligible_15 : decode cL_eligible 15 = .ok (.iconst 0, 1) := by decide +kernel
theorem dL_eligible_16 : decode cL_eligible 16 = .ok (.ireturn, 1) := by decide +kernel
theorem hs_L_eligible : yL_eligible.cls ≠ "java/lang/invoke/MethodHandle" ∧ yL_eligible.cls ≠ "java/lang/invoke/VarHandle" ∧ (parseMethodDescriptor yL_eligible.desc).map (fun d => d.parameters.length) = some 3 := by decide +kernel
set_option maxHeartbeats 4000000 in
set_option maxRecDepth 100000 in
theorem k_L_eligible (l : Launch) (hls : l.stackTraces = false) (E : Ev) (K : Kd) (z : Nat) (a_0 : Option Nat) (a_1 : Int32) (a_2 : Option Nat) (w : Wd) {r : Int32} {w' : Wd} (hf : f_L_eligible K a_0 a_1 a_2 w = some (r, w')) : Met l yL_eligible (Cond.codeWith yL_eligible cL_eligible 4 (Option.some Jvm.ClassFile.FieldType.int) [(0, 9, 12, 29)] :: bt) ({ frames := 8, cells := 1, slots := 6, locals := 133 } : Room) (va_Pc [rv E a_0, .int a_1, rv E a_2] (HB E K w z)) (QW E K w' r) 1 6 (hA E) := by
  refine MetH_ofW (cc := cL_eligible) (maxL := 4) (ret := (Option.some Jvm.ClassFile.FieldType.int)) (hh := [(0, 9, 12, 29)]) (by decide) rfl ?_
  intro p e s m args below meth c s₁ B hml htab hv
  obtain ⟨rfl, hz, hP, hKs, hT, hb0⟩ := hv
  have C : CX p l e s m _ meth c cL_eligible 4 RL (Option.some Jvm.ClassFile.FieldType.int) E := ⟨B.exec, B.bytes, hml, findClass_of_methodNamed B.named, fun w h => atoms_spec (ws := Cond.codeWith yL_eligible cL_eligible 4 (Option.some Jvm.ClassFile.FieldType.int) [(0, 9, 12, 29)] :: bt) B.pre w (List.mem_cons_of_mem _ h), hKs, hT, by rw [hz]; exact hb0, B.notSynchronized, B.returns⟩
  have hH : HQ E K z w s s.heap [] := ⟨hP, va_S.rf, hz⟩
  obtain ⟨hx, hb, hml, hown, hts, hKs, hT, hb0, hlocks, hret⟩ := id C
  have hl := lv_entry [rv E a_0, .int a_1, rv E a_2] (n := 4) (by simp [lg_len_nil, lg_len_i, lg_len_j, lg_len_q, lg_len_f, lg_len_d, lg_len_r])
  rw [lg_entry_eq]
  generalize (lg_sl [rv E a_0, .int a_1, rv E a_2] ++ List.replicate (4 - (lg_sl [rv E a_0, .int a_1, rv E a_2]).length) Slot.unset).toArray = ls at hl ⊢
  replace hl : lv_has ls 4 [(0, rv E a_0), (1, .int a_1), (2, rv E a_2)] := by simpa only [lv_args, cat_q, cat_i, cat_j, reduceIte, Nat.reduceEqDiff, Nat.reduceAdd, Nat.zero_add] using hl
  generalize s.heap = H at hH ⊢
  unfold f_L_eligible at hf
  refine hl_aload_n hx hb dL_eligible_0 rfl (lv_at hl 2 rfl) ?_
  refine lv_iconst (v := 0) hx hb dL_eligible_1 (by decide) ?_
  refine hl_aload_n hx hb dL_eligible_2 rfl (lv_at hl 0 rfl) ?_
  refine lv_iload_n hx hb dL_eligible_3 rfl (lv_at hl 1 rfl) ?_
  obtain ⟨a1, ha1, hf⟩ := bnd hf
  replace ha1 := chk_some ha1
  obtain ⟨q2, hq2, hf⟩ := bnd hf
  refine hxC_i hx hb hml hown hts hKs hT hb0 hH (As := [.int a_1]) (rest := [.int 0, rv E a_2]) (k_X12_eligible l hls E K H.size a1 a_1 w ha1.2 hq2) (gV m6_27 m6_28 m6_29 m1_1 m6_30) hd_X12_eligible ⟨Nat.le_of_ble_eq_true rfl, Nat.le_of_ble_eq_true rfl, rfl, rfl⟩ ha1.1 ha1.2 rfl rfl rfl hl.1 rfl (rcI (rcV rc0)) rfl dL_eligible_4 ⟨Nat.le_of_ble_eq_true rfl, Nat.le_of_ble_eq_true rfl⟩ (fun c4 hc4 H locs q9 ce9 hH hc9 hv9 hf9 => ?_) (fun v3 hv3 H locs hH => ?_)
  · replace hf := (xh_inr hc4).symm.trans hf
    by_cases h5 : c4 = 1
    · subst h5
      replace hf := (if_pos rfl).symm.trans hf
      refine vx_catch (name := "java/lang/IndexOutOfBoundsException") hown [] ⟨0, 9, 12, 29⟩ [] htab pass0 (by decide) (by decide) (hts _ m5_86) (va_Nw.use rfl (hKs.2.1 _ m5_97)) hc9 hv9 hf9 ?_
      refine lv_astore_n (lv' := [(3, .ref q9), (0, rv E a_0), (1, .int a_1), (2, rv E a_2)]) hx hb dL_eligible_12 rfl hl (by decide) (by simp [List.filter_cons, cat_q, cat_i, cat_j]) (fun ls hl => ?_)
      refine lv_iconst (v := 1) hx hb dL_eligible_13 (by decide) ?_
      exact hw_wret hx hb (Nat.le_of_ble_eq_true rfl) (Nat.le_of_ble_eq_true rfl) hret hf hH hlocks dL_eligible_14
    replace hf := (if_neg h5).symm.trans hf
    cases hf
  · replace hf := (xh_inl hv3).symm.trans hf
    refine lv_i2l (v := (v3.toInt64)) hx hb dL_eligible_7 rfl ?_
    obtain ⟨a6, ha6, hf⟩ := bnd hf
    replace ha6 := cha_some ha6
    obtain ⟨j7, hj7, hf⟩ := bnd hf
    obtain ⟨w8, hw8, hf⟩ := bnd hf
    replace hw8 := Option.some.inj hw8
    refine hw_last (x := (v3.toInt64)) hx hb hKs hH ha6.1 ha6.2 hj7 dL_eligible_8 (fun H locs hH => ?_)
    rw [hw8] at hH
    refine lv_goto (tgt := 15) hx hb dL_eligible_9 (by decide) ?_
    refine lv_iconst (v := 0) hx hb dL_eligible_15 (by decide) ?_
    exact hw_wret hx hb (Nat.le_of_ble_eq_true rfl) (Nat.le_of_ble_eq_true rfl) hret hf hH hlocks dL_eligible_16

theorem dL_usage_0 : decode cL_usage 0 = .ok (.aload 4, 2) := by decide +kernel
theorem dL_usage_2 : decode cL_usage 2 = .ok (.iconst 0, 1) := by decide +kernel
theorem dL_usage_3 : decode cL_usage 3 = .ok (.aload_n 0, 1) := by decide +kernel
theorem dL_usage_4 : decode cL_usage 4 = .ok (.iload_n 1, 1) := by decide +kernel
theorem dL_usage_5 : decode cL_usage 5 = .ok (.iload_n 2, 1) := by decide +kernel
theorem dL_usage_6 : decode cL_usage 6 = .ok (.iload_n 3, 1) := by decide +kernel
theorem dL_usage_7 : decode cL_usage 7 = .ok (.invokevirtual 77, 3) := by decide +kernel
theorem dL_usage_10 : decode cL_usage 10 = .ok (.f2d, 1) := by decide +kernel
theorem dL_usage_11 : decode cL_usage 11 = .ok (.dastore, 1) := by decide +kernel
theorem dL_usage_12 : decode cL_usage 12 = .ok (.goto 11, 3) := by decide +kernel
theorem dL_usage_15 : decode cL_usage 15 = .ok (.astore 5, 2) := by decide +kernel
theorem dL_usage_17 : decode cL_usage 17 = .ok (.iconst 1, 1) := by decide +kernel
theorem dL_usage_18 : decode cL_usage 18 = .ok (.ireturn, 1) := by decide +kernel
theorem dL_usage_19 : decode cL_usage 19 = .ok (.astore 5, 2) := by decide +kernel
theorem dL_usage_21 : decode cL_usage 21 = .ok (.iconst 2, 1) := by decide +kernel
theorem dL_usage_22 : decode cL_usage 22 = .ok (.ireturn, 1) := by decide +kernel
theorem dL_usage_23 : decode cL_usage 23 = .ok (.iconst 0, 1) := by decide +kernel
theorem dL_usage_24 : decode cL_usage 24 = .ok (.ireturn, 1) := by decide +kernel
theorem hs_L_usage : yL_usage.cls ≠ "java/lang/invoke/MethodHandle" ∧ yL_usage.cls ≠ "java/lang/invoke/VarHandle" ∧ (parseMethodDescriptor yL_usage.desc).map (fun d => d.parameters.length) = some 5 := by decide +kernel
set_option maxHeartbeats 4000000 in
set_option maxRecDepth 100000 in
theorem k_L_usage (l : Launch) (hls : l.stackTraces = false) (E : Ev) (K : Kd) (z : Nat) (a_0 : Option Nat) (a_1 : Int32) (a_2 : Int32) (a_3 : Int32) (a_4 : Option Nat) (w : Wd) {r : Int32} {w' : Wd} (hf : f_L_usage K a_0 a_1 a_2 a_3 a_4 w = some (r, w')) : Met l yL_usage (Cond.codeWith yL_usage cL_usage 6 (Option.some Jvm.ClassFile.FieldType.int) [(0, 12, 15, 29), (0, 12, 19, 13)] :: bt) ({ frames := 8, cells := 2, slots := 12, locals := 136 } : Room) (va_Pc [rv E a_0, .int a_1, .int a_2, .int a_3, rv E a_4] (HB E K w z)) (QW E K w' r) 2 12 (hA E) := by
  refine MetH_ofW (cc := cL_usage) (maxL := 6) (ret := (Option.some Jvm.ClassFile.FieldType.int)) (hh := [(0, 12, 15, 29), (0, 12, 19, 13)]) (by decide) rfl ?_
  intro p e s m args below meth c s₁ B hml htab hv
  obtain ⟨rfl, hz, hP, hKs, hT, hb0⟩ := hv
  have C : CX p l e s m _ meth c cL_usage 6 RL (Option.some Jvm.ClassFile.FieldType.int) E := ⟨B.exec, B.bytes, hml, findClass_of_methodNamed B.named, fun w h => atoms_spec (ws := Cond.codeWith yL_usage cL_usage 6 (Option.some Jvm.ClassFile.FieldType.int) [(0, 12, 15, 29), (0, 12, 19, 13)] :: bt) B.pre w (List.mem_cons_of_mem _ h), hKs, hT, by rw [hz]; exact hb0, B.notSynchronized, B.returns⟩
  have hH : HQ E K z w s s.heap [] := ⟨hP, va_S.rf, hz⟩
  obtain ⟨hx, hb, hml, hown, hts, hKs, hT, hb0, hlocks, hret⟩ := id C
  have hl := lv_entry [rv E a_0, .int a_1, .int a_2, .int a_3, rv E a_4] (n := 6) (by simp [lg_len_nil, lg_len_i, lg_len_j, lg_len_q, lg_len_f, lg_len_d, lg_len_r])
  rw [lg_entry_eq]
  generalize (lg_sl [rv E a_0, .int a_1, .int a_2, .int a_3, rv E a_4] ++ List.replicate (6 - (lg_sl [rv E a_0, .int a_1, .int a_2, .int a_3, rv E a_4]).length) Slot.unset).toArray = ls at hl ⊢
  replace hl : lv_has ls 6 [(0, rv E a_0), (1, .int a_1), (2, .int a_2), (3, .int a_3), (4, rv E a_4)] := by simpa only [lv_args, cat_q, cat_i, cat_j, reduceIte, Nat.reduceEqDiff, Nat.reduceAdd, Nat.zero_add] using hl
  generalize s.heap = H at hH ⊢
  unfold f_L_usage at hf
  refine hl_aload hx hb dL_usage_0 (lv_at hl 4 rfl) ?_
  refine lv_iconst (v := 0) hx hb dL_usage_2 (by decide) ?_
  refine hl_aload_n hx hb dL_usage_3 rfl (lv_at hl 0 rfl) ?_
  refine lv_iload_n hx hb dL_usage_4 rfl (lv_at hl 1 rfl) ?_
  refine lv_iload_n hx hb dL_usage_5 rfl (lv_at hl 2 rfl) ?_
  refine lv_iload_n hx hb dL_usage_6 rfl (lv_at hl 3 rfl) ?_
  obtain ⟨a1, ha1, hf⟩ := bnd hf
  replace ha1 := chk_some ha1
  obtain ⟨q2, hq2, hf⟩ := bnd hf
  refine hxC_f hx hb hml hown hts hKs hT hb0 hH (As := [.int a_1, .int a_2, .int a_3]) (rest := [.int 0, rv E a_4]) (k_X12_usage l hls E K H.size a1 a_1 a_2 a_3 w ha1.2 hq2) (gV m6_35 m6_36 m6_37 m1_1 m6_38) hd_X12_usage ⟨Nat.le_of_ble_eq_true rfl, Nat.le_of_ble_eq_true rfl, rfl, rfl⟩ ha1.1 ha1.2 rfl rfl rfl hl.1 rfl (rcI (rcV rc0)) rfl dL_usage_7 ⟨Nat.le_of_ble_eq_true rfl, Nat.le_of_ble_eq_true rfl⟩ (fun c4 hc4 H locs q9 ce9 hH hc9 hv9 hf9 => ?_) (fun v3 hv3 H locs hH => ?_)
  · replace hf := (xh_inr hc4).symm.trans hf
    by_cases h5 : c4 = 1
    · subst h5
      replace hf := (if_pos rfl).symm.trans hf
      refine vx_catch (name := "java/lang/IndexOutOfBoundsException") hown [] ⟨0, 12, 15, 29⟩ [⟨0, 12, 19, 13⟩] htab pass0 (by decide) (by decide) (hts _ m5_86) (va_Nw.use rfl (hKs.2.1 _ m5_97)) hc9 hv9 hf9 ?_
      refine lv_astore (lv' := [(5, .ref q9), (0, rv E a_0), (1, .int a_1), (2, .int a_2), (3, .int a_3), (4, rv E a_4)]) hx hb dL_usage_15 hl (by decide) (by simp [List.filter_cons, cat_q, cat_i, cat_j]) (fun ls hl => ?_)
      refine lv_iconst (v := 1) hx hb dL_usage_17 (by decide) ?_
      exact hw_wret hx hb (Nat.le_of_ble_eq_true rfl) (Nat.le_of_ble_eq_true rfl) hret hf hH hlocks dL_usage_18
    replace hf := (if_neg h5).symm.trans hf
    by_cases h6 : c4 = 2
    · subst h6
      replace hf := (if_pos rfl).symm.trans hf
      refine vx_catch (name := "java/lang/IllegalArgumentException") hown [⟨0, 12, 15, 29⟩] ⟨0, 12, 19, 13⟩ [] htab (pass1 (Or.inr ⟨by decide, "java/lang/IndexOutOfBoundsException", hts _ m5_86, hKs.2.2.2.1 ("java/lang/IllegalArgumentException", "java/lang/IndexOutOfBoundsException") (by decide)⟩) pass0) (by decide) (by decide) (hts _ m4_213) (va_Nw.use rfl (hKs.2.1 _ m4_220)) hc9 hv9 hf9 ?_
      refine lv_astore (lv' := [(5, .ref q9), (0, rv E a_0), (1, .int a_1), (2, .int a_2), (3, .int a_3), (4, rv E a_4)]) hx hb dL_usage_19 hl (by decide) (by simp [List.filter_cons, cat_q, cat_i, cat_j]) (fun ls hl => ?_)
      refine lv_iconst (v := 2) hx hb dL_usage_21 (by decide) ?_
      exact hw_wret hx hb (Nat.le_of_ble_eq_true rfl) (Nat.le_of_ble_eq_true rfl) hret hf hH hlocks dL_usage_22
    replace hf := (if_neg h6).symm.trans hf
    cases hf
  · replace hf := (xh_inl hv3).symm.trans hf
    obtain ⟨_, hg7, hf⟩ := bnd hf
    refine lv_f2d hx hb dL_usage_10 (n64_ok (grd_some hg7)) ?_
    obtain ⟨a8, ha8, hf⟩ := bnd hf
    replace ha8 := cha_some ha8
    obtain ⟨j9, hj9, hf⟩ := bnd hf
    obtain ⟨w10, hw10, hf⟩ := bnd hf
    replace hw10 := Option.some.inj hw10
    refine hw_dast (x := (FP.f2d v3)) hx hb hKs hH ha8.1 ha8.2 hj9 dL_usage_11 (fun H locs hH => ?_)
    rw [hw10] at hH
    refine lv_goto (tgt := 23) hx hb dL_usage_12 (by decide) ?_
    refine lv_iconst (v := 0) hx hb dL_usage_23 (by decide) ?_
    exact hw_wret hx hb (Nat.le_of_ble_eq_true rfl) (Nat.le_of_ble_eq_true rfl) hret hf hH hlocks dL_usage_24

theorem dL_pass_0 : decode cL_pass 0 = .ok (.aload_n 2, 1) := by decide +kernel
theorem dL_pass_1 : decode cL_pass 1 = .ok (.iconst 0, 1) := by decide +kernel
theorem dL_pass_2 : decode cL_pass 2 = .ok (.aload_n 0, 1) := by decide +kernel
theorem dL_pass_3 : decode cL_pass 3 = .ok (.iload_n 1, 1) := by decide +kernel
theorem dL_pass_4 : decode cL_pass 4 = .ok (.invokevirtual 81, 3) := by decide +kernel
theorem dL_pass_7 : decode cL_pass 7 = .ok (.i2l, 1) := by decide +kernel
theorem dL_pass_8 : decode cL_pass 8 = .ok (.lastore, 1) := by decide +kernel
theorem dL_pass_9 : decode cL_pass 9 = .ok (.goto 6, 3) := by decide +kernel
theorem dL_pass_12 : decode cL_pass 12 = .ok (.astore_n 3, 1) := by decide +kernel
theorem dL_pass_13 : decode cL_pass 13 = .ok (.iconst 1, 1) := by decide +kernel
theorem dL_pass_14 : decode cL_pass 14 = .ok (.ireturn, 1) := by decide +kernel
theorem dL_pass_15 : decode cL_pass 15 = .ok (.iconst 0, 1) := by decide +kernel
theorem dL_pass_16 : decode cL_pass 16 = .ok (.ireturn, 1) := by decide +kernel
theorem hs_L_pass : yL_pass.cls ≠ "java/lang/invoke/MethodHandle" ∧ yL_pass.cls ≠ "java/lang/invoke/VarHandle" ∧ (parseMethodDescriptor yL_pass.desc).map (fun d => d.parameters.length) = some 3 := by decide +kernel
set_option maxHeartbeats 4000000 in
set_option maxRecDepth 100000 in
theorem k_L_pass (l : Launch) (hls : l.stackTraces = false) (E : Ev) (K : Kd) (z : Nat) (a_0 : Option Nat) (a_1 : Int32) (a_2 : Option Nat) (w : Wd) {r : Int32} {w' : Wd} (hf : f_L_pass K a_0 a_1 a_2 w = some (r, w')) : Met l yL_pass (Cond.codeWith yL_pass cL_pass 4 (Option.some Jvm.ClassFile.FieldType.int) [(0, 9, 12, 13)] :: bt) ({ frames := 8, cells := 1, slots := 6, locals := 146 } : Room) (va_Pc [rv E a_0, .int a_1, rv E a_2] (HB E K w z)) (QW E K w' r) 1 6 (hA E) := by
  refine MetH_ofW (cc := cL_pass) (maxL := 4) (ret := (Option.some Jvm.ClassFile.FieldType.int)) (hh := [(0, 9, 12, 13)]) (by decide) rfl ?_
  intro p e s m args below meth c s₁ B hml htab hv
  obtain ⟨rfl, hz, hP, hKs, hT, hb0⟩ := hv
  have C : CX p l e s m _ meth c cL_pass 4 RL (Option.some Jvm.ClassFile.FieldType.int) E := ⟨B.exec, B.bytes, hml, findClass_of_methodNamed B.named, fun w h => atoms_spec (ws := Cond.codeWith yL_pass cL_pass 4 (Option.some Jvm.ClassFile.FieldType.int) [(0, 9, 12, 13)] :: bt) B.pre w (List.mem_cons_of_mem _ h), hKs, hT, by rw [hz]; exact hb0, B.notSynchronized, B.returns⟩
  have hH : HQ E K z w s s.heap [] := ⟨hP, va_S.rf, hz⟩
  obtain ⟨hx, hb, hml, hown, hts, hKs, hT, hb0, hlocks, hret⟩ := id C
  have hl := lv_entry [rv E a_0, .int a_1, rv E a_2] (n := 4) (by simp [lg_len_nil, lg_len_i, lg_len_j, lg_len_q, lg_len_f, lg_len_d, lg_len_r])
  rw [lg_entry_eq]
  generalize (lg_sl [rv E a_0, .int a_1, rv E a_2] ++ List.replicate (4 - (lg_sl [rv E a_0, .int a_1, rv E a_2]).length) Slot.unset).toArray = ls at hl ⊢
  replace hl : lv_has ls 4 [(0, rv E a_0), (1, .int a_1), (2, rv E a_2)] := by simpa only [lv_args, cat_q, cat_i, cat_j, reduceIte, Nat.reduceEqDiff, Nat.reduceAdd, Nat.zero_add] using hl
  generalize s.heap = H at hH ⊢
  unfold f_L_pass at hf
  refine hl_aload_n hx hb dL_pass_0 rfl (lv_at hl 2 rfl) ?_
  refine lv_iconst (v := 0) hx hb dL_pass_1 (by decide) ?_
  refine hl_aload_n hx hb dL_pass_2 rfl (lv_at hl 0 rfl) ?_
  refine lv_iload_n hx hb dL_pass_3 rfl (lv_at hl 1 rfl) ?_
  obtain ⟨a1, ha1, hf⟩ := bnd hf
  replace ha1 := chk_some ha1
  obtain ⟨q2, hq2, hf⟩ := bnd hf
  refine hxC_i hx hb hml hown hts hKs hT hb0 hH (As := [.int a_1]) (rest := [.int 0, rv E a_2]) (k_X12_pass l hls E K H.size a1 a_1 w ha1.2 hq2) (gV m6_46 m6_47 m6_48 m1_1 m6_49) hd_X12_pass ⟨Nat.le_of_ble_eq_true rfl, Nat.le_of_ble_eq_true rfl, rfl, rfl⟩ ha1.1 ha1.2 rfl rfl rfl hl.1 rfl (rcI (rcV rc0)) rfl dL_pass_4 ⟨Nat.le_of_ble_eq_true rfl, Nat.le_of_ble_eq_true rfl⟩ (fun c4 hc4 H locs q9 ce9 hH hc9 hv9 hf9 => ?_) (fun v3 hv3 H locs hH => ?_)
  · replace hf := (xh_inr hc4).symm.trans hf
    by_cases h5 : c4 = 2
    · subst h5
      replace hf := (if_pos rfl).symm.trans hf
      refine vx_catch (name := "java/lang/IllegalArgumentException") hown [] ⟨0, 9, 12, 13⟩ [] htab pass0 (by decide) (by decide) (hts _ m4_213) (va_Nw.use rfl (hKs.2.1 _ m4_220)) hc9 hv9 hf9 ?_
      refine lv_astore_n (lv' := [(3, .ref q9), (0, rv E a_0), (1, .int a_1), (2, rv E a_2)]) hx hb dL_pass_12 rfl hl (by decide) (by simp [List.filter_cons, cat_q, cat_i, cat_j]) (fun ls hl => ?_)
      refine lv_iconst (v := 1) hx hb dL_pass_13 (by decide) ?_
      exact hw_wret hx hb (Nat.le_of_ble_eq_true rfl) (Nat.le_of_ble_eq_true rfl) hret hf hH hlocks dL_pass_14
    replace hf := (if_neg h5).symm.trans hf
    cases hf
  · replace hf := (xh_inl hv3).symm.trans hf
    refine lv_i2l (v := (v3.toInt64)) hx hb dL_pass_7 rfl ?_
    obtain ⟨a6, ha6, hf⟩ := bnd hf
    replace ha6 := cha_some ha6
    obtain ⟨j7, hj7, hf⟩ := bnd hf
    obtain ⟨w8, hw8, hf⟩ := bnd hf
    replace hw8 := Option.some.inj hw8
    refine hw_last (x := (v3.toInt64)) hx hb hKs hH ha6.1 ha6.2 hj7 dL_pass_8 (fun H locs hH => ?_)
    rw [hw8] at hH
    refine lv_goto (tgt := 15) hx hb dL_pass_9 (by decide) ?_
    refine lv_iconst (v := 0) hx hb dL_pass_15 (by decide) ?_
    exact hw_wret hx hb (Nat.le_of_ble_eq_true rfl) (Nat.le_of_ble_eq_true rfl) hret hf hH hlocks dL_pass_16

theorem dL_adjourn_0 : decode cL_adjourn 0 = .ok (.aload_n 3, 1) := by decide +kernel
theorem dL_adjourn_1 : decode cL_adjourn 1 = .ok (.iconst 0, 1) := by decide +kernel
theorem dL_adjourn_2 : decode cL_adjourn 2 = .ok (.aload_n 0, 1) := by decide +kernel
theorem dL_adjourn_3 : decode cL_adjourn 3 = .ok (.iload_n 1, 1) := by decide +kernel
theorem dL_adjourn_4 : decode cL_adjourn 4 = .ok (.iload_n 2, 1) := by decide +kernel
theorem dL_adjourn_5 : decode cL_adjourn 5 = .ok (.invokevirtual 90, 3) := by decide +kernel
theorem dL_adjourn_8 : decode cL_adjourn 8 = .ok (.i2l, 1) := by decide +kernel
theorem dL_adjourn_9 : decode cL_adjourn 9 = .ok (.lastore, 1) := by decide +kernel
theorem dL_adjourn_10 : decode cL_adjourn 10 = .ok (.goto 15, 3) := by decide +kernel
theorem dL_adjourn_13 : decode cL_adjourn 13 = .ok (.astore 4, 2) := by decide +kernel
theorem dL_adjourn_15 : decode cL_adjourn 15 = .ok (.iconst 1, 1) := by decide +kernel
theorem dL_adjourn_16 : decode cL_adjourn 16 = .ok (.ireturn, 1) := by decide +kernel
theorem dL_adjourn_17 : decode cL_adjourn 17 = .ok (.astore 4, 2) := by decide +kernel
theorem dL_adjourn_19 : decode cL_adjourn 19 = .ok (.iconst 2, 1) := by decide +kernel
theorem dL_adjourn_20 : decode cL_adjourn 20 = .ok (.ireturn, 1) := by decide +kernel
theorem dL_adjourn_21 : decode cL_adjourn 21 = .ok (.astore 4, 2) := by decide +kernel
theorem dL_adjourn_23 : decode cL_adjourn 23 = .ok (.iconst 3, 1) := by decide +kernel
theorem dL_adjourn_24 : decode cL_adjourn 24 = .ok (.ireturn, 1) := by decide +kernel
theorem dL_adjourn_25 : decode cL_adjourn 25 = .ok (.iconst 0, 1) := by decide +kernel
theorem dL_adjourn_26 : decode cL_adjourn 26 = .ok (.ireturn, 1) := by decide +kernel
theorem hs_L_adjourn : yL_adjourn.cls ≠ "java/lang/invoke/MethodHandle" ∧ yL_adjourn.cls ≠ "java/lang/invoke/VarHandle" ∧ (parseMethodDescriptor yL_adjourn.desc).map (fun d => d.parameters.length) = some 4 := by decide +kernel
set_option maxHeartbeats 4000000 in
set_option maxRecDepth 100000 in
theorem k_L_adjourn (l : Launch) (hls : l.stackTraces = false) (E : Ev) (K : Kd) (z : Nat) (a_0 : Option Nat) (a_1 : Int32) (a_2 : Int32) (a_3 : Option Nat) (w : Wd) {r : Int32} {w' : Wd} (hf : f_L_adjourn K a_0 a_1 a_2 a_3 w = some (r, w')) : Met l yL_adjourn (Cond.codeWith yL_adjourn cL_adjourn 5 (Option.some Jvm.ClassFile.FieldType.int) [(0, 10, 13, 29), (0, 10, 17, 13), (0, 10, 21, 58)] :: bt) ({ frames := 8, cells := 3, slots := 18, locals := 148 } : Room) (va_Pc [rv E a_0, .int a_1, .int a_2, rv E a_3] (HB E K w z)) (QW E K w' r) 3 18 (hA E) := by
  refine MetH_ofW (cc := cL_adjourn) (maxL := 5) (ret := (Option.some Jvm.ClassFile.FieldType.int)) (hh := [(0, 10, 13, 29), (0, 10, 17, 13), (0, 10, 21, 58)]) (by decide) rfl ?_
  intro p e s m args below meth c s₁ B hml htab hv
  obtain ⟨rfl, hz, hP, hKs, hT, hb0⟩ := hv
  have C : CX p l e s m _ meth c cL_adjourn 5 RL (Option.some Jvm.ClassFile.FieldType.int) E := ⟨B.exec, B.bytes, hml, findClass_of_methodNamed B.named, fun w h => atoms_spec (ws := Cond.codeWith yL_adjourn cL_adjourn 5 (Option.some Jvm.ClassFile.FieldType.int) [(0, 10, 13, 29), (0, 10, 17, 13), (0, 10, 21, 58)] :: bt) B.pre w (List.mem_cons_of_mem _ h), hKs, hT, by rw [hz]; exact hb0, B.notSynchronized, B.returns⟩
  have hH : HQ E K z w s s.heap [] := ⟨hP, va_S.rf, hz⟩
  obtain ⟨hx, hb, hml, hown, hts, hKs, hT, hb0, hlocks, hret⟩ := id C
  have hl := lv_entry [rv E a_0, .int a_1, .int a_2, rv E a_3] (n := 5) (by simp [lg_len_nil, lg_len_i, lg_len_j, lg_len_q, lg_len_f, lg_len_d, lg_len_r])
  rw [lg_entry_eq]
  generalize (lg_sl [rv E a_0, .int a_1, .int a_2, rv E a_3] ++ List.replicate (5 - (lg_sl [rv E a_0, .int a_1, .int a_2, rv E a_3]).length) Slot.unset).toArray = ls at hl ⊢
  replace hl : lv_has ls 5 [(0, rv E a_0), (1, .int a_1), (2, .int a_2), (3, rv E a_3)] := by simpa only [lv_args, cat_q, cat_i, cat_j, reduceIte, Nat.reduceEqDiff, Nat.reduceAdd, Nat.zero_add] using hl
  generalize s.heap = H at hH ⊢
  unfold f_L_adjourn at hf
  refine hl_aload_n hx hb dL_adjourn_0 rfl (lv_at hl 3 rfl) ?_
  refine lv_iconst (v := 0) hx hb dL_adjourn_1 (by decide) ?_
  refine hl_aload_n hx hb dL_adjourn_2 rfl (lv_at hl 0 rfl) ?_
  refine lv_iload_n hx hb dL_adjourn_3 rfl (lv_at hl 1 rfl) ?_
  refine lv_iload_n hx hb dL_adjourn_4 rfl (lv_at hl 2 rfl) ?_
  obtain ⟨a1, ha1, hf⟩ := bnd hf
  replace ha1 := chk_some ha1
  obtain ⟨q2, hq2, hf⟩ := bnd hf
  refine hxC_i hx hb hml hown hts hKs hT hb0 hH (As := [.int a_1, .int a_2]) (rest := [.int 0, rv E a_3]) (k_X12_adjourn l hls E K H.size a1 a_1 a_2 w ha1.2 hq2) (gV m6_77 m6_78 m6_79 m1_1 m6_80) hd_X12_adjourn ⟨Nat.le_of_ble_eq_true rfl, Nat.le_of_ble_eq_true rfl, rfl, rfl⟩ ha1.1 ha1.2 rfl rfl rfl hl.1 rfl (rcI (rcV rc0)) rfl dL_adjourn_5 ⟨Nat.le_of_ble_eq_true rfl, Nat.le_of_ble_eq_true rfl⟩ (fun c4 hc4 H locs q9 ce9 hH hc9 hv9 hf9 => ?_) (fun v3 hv3 H locs hH => ?_)
  · replace hf := (xh_inr hc4).symm.trans hf
    by_cases h5 : c4 = 1
    · subst h5
      replace hf := (if_pos rfl).symm.trans hf
      refine vx_catch (name := "java/lang/IndexOutOfBoundsException") hown [] ⟨0, 10, 13, 29⟩ [⟨0, 10, 17, 13⟩, ⟨0, 10, 21, 58⟩] htab pass0 (by decide) (by decide) (hts _ m5_86) (va_Nw.use rfl (hKs.2.1 _ m5_97)) hc9 hv9 hf9 ?_
      refine lv_astore (lv' := [(4, .ref q9), (0, rv E a_0), (1, .int a_1), (2, .int a_2), (3, rv E a_3)]) hx hb dL_adjourn_13 hl (by decide) (by simp [List.filter_cons, cat_q, cat_i, cat_j]) (fun ls hl => ?_)
      refine lv_iconst (v := 1) hx hb dL_adjourn_15 (by decide) ?_
      exact hw_wret hx hb (Nat.le_of_ble_eq_true rfl) (Nat.le_of_ble_eq_true rfl) hret hf hH hlocks dL_adjourn_16
    replace hf := (if_neg h5).symm.trans hf
    by_cases h6 : c4 = 2
    · subst h6
      replace hf := (if_pos rfl).symm.trans hf
      refine vx_catch (name := "java/lang/IllegalArgumentException") hown [⟨0, 10, 13, 29⟩] ⟨0, 10, 17, 13⟩ [⟨0, 10, 21, 58⟩] htab (pass1 (Or.inr ⟨by decide, "java/lang/IndexOutOfBoundsException", hts _ m5_86, hKs.2.2.2.1 ("java/lang/IllegalArgumentException", "java/lang/IndexOutOfBoundsException") (by decide)⟩) pass0) (by decide) (by decide) (hts _ m4_213) (va_Nw.use rfl (hKs.2.1 _ m4_220)) hc9 hv9 hf9 ?_
      refine lv_astore (lv' := [(4, .ref q9), (0, rv E a_0), (1, .int a_1), (2, .int a_2), (3, rv E a_3)]) hx hb dL_adjourn_17 hl (by decide) (by simp [List.filter_cons, cat_q, cat_i, cat_j]) (fun ls hl => ?_)
      refine lv_iconst (v := 2) hx hb dL_adjourn_19 (by decide) ?_
      exact hw_wret hx hb (Nat.le_of_ble_eq_true rfl) (Nat.le_of_ble_eq_true rfl) hret hf hH hlocks dL_adjourn_20
    replace hf := (if_neg h6).symm.trans hf
    by_cases h7 : c4 = 3
    · subst h7
      replace hf := (if_pos rfl).symm.trans hf
      refine vx_catch (name := "java/lang/IllegalStateException") hown [⟨0, 10, 13, 29⟩, ⟨0, 10, 17, 13⟩] ⟨0, 10, 21, 58⟩ [] htab (pass1 (Or.inr ⟨by decide, "java/lang/IndexOutOfBoundsException", hts _ m5_86, hKs.2.2.2.1 ("java/lang/IllegalStateException", "java/lang/IndexOutOfBoundsException") (by decide)⟩) (pass1 (Or.inr ⟨by decide, "java/lang/IllegalArgumentException", hts _ m4_213, hKs.2.2.2.1 ("java/lang/IllegalStateException", "java/lang/IllegalArgumentException") (by decide)⟩) pass0)) (by decide) (by decide) (hts _ m5_182) (va_Nw.use rfl (hKs.2.1 _ m5_197)) hc9 hv9 hf9 ?_
      refine lv_astore (lv' := [(4, .ref q9), (0, rv E a_0), (1, .int a_1), (2, .int a_2), (3, rv E a_3)]) hx hb dL_adjourn_21 hl (by decide) (by simp [List.filter_cons, cat_q, cat_i, cat_j]) (fun ls hl => ?_)
      refine lv_iconst (v := 3) hx hb dL_adjourn_23 (by decide) ?_
      exact hw_wret hx hb (Nat.le_of_ble_eq_true rfl) (Nat.le_of_ble_eq_true rfl) hret hf hH hlocks dL_adjourn_24
    replace hf := (if_neg h7).symm.trans hf
    cases hf
  · replace hf := (xh_inl hv3).symm.trans hf
    refine lv_i2l (v := (v3.toInt64)) hx hb dL_adjourn_8 rfl ?_
    obtain ⟨a8, ha8, hf⟩ := bnd hf
    replace ha8 := cha_some ha8
    obtain ⟨j9, hj9, hf⟩ := bnd hf
    obtain ⟨w10, hw10, hf⟩ := bnd hf
    replace hw10 := Option.some.inj hw10
    refine hw_last (x := (v3.toInt64)) hx hb hKs hH ha8.1 ha8.2 hj9 dL_adjourn_9 (fun H locs hH => ?_)
    rw [hw10] at hH
    refine lv_goto (tgt := 25) hx hb dL_adjourn_10 (by decide) ?_
    refine lv_iconst (v := 0) hx hb dL_adjourn_25 (by decide) ?_
    exact hw_wret hx hb (Nat.le_of_ble_eq_true rfl) (Nat.le_of_ble_eq_true rfl) hret hf hH hlocks dL_adjourn_26

theorem dL_withdraw_0 : decode cL_withdraw 0 = .ok (.aload_n 3, 1) := by decide +kernel
theorem dL_withdraw_1 : decode cL_withdraw 1 = .ok (.iconst 0, 1) := by decide +kernel
theorem dL_withdraw_2 : decode cL_withdraw 2 = .ok (.aload_n 0, 1) := by decide +kernel
theorem dL_withdraw_3 : decode cL_withdraw 3 = .ok (.iload_n 1, 1) := by decide +kernel
theorem dL_withdraw_4 : decode cL_withdraw 4 = .ok (.iload_n 2, 1) := by decide +kernel
theorem dL_withdraw_5 : decode cL_withdraw 5 = .ok (.invokevirtual 93, 3) := by decide +kernel
theorem dL_withdraw_8 : decode cL_withdraw 8 = .ok (.i2l, 1) := by decide +kernel
theorem dL_withdraw_9 : decode cL_withdraw 9 = .ok (.lastore, 1) := by decide +kernel
theorem dL_withdraw_10 : decode cL_withdraw 10 = .ok (.goto 11, 3) := by decide +kernel
theorem dL_withdraw_13 : decode cL_withdraw 13 = .ok (.astore 4, 2) := by decide +kernel
theorem dL_withdraw_15 : decode cL_withdraw 15 = .ok (.iconst 1, 1) := by decide +kernel
theorem dL_withdraw_16 : decode cL_withdraw 16 = .ok (.ireturn, 1) := by decide +kernel
theorem dL_withdraw_17 : decode cL_withdraw 17 = .ok (.astore 4, 2) := by decide +kernel
theorem dL_withdraw_19 : decode cL_withdraw 19 = .ok (.iconst 2, 1) := by decide +kernel
theorem dL_withdraw_20 : decode cL_withdraw 20 = .ok (.ireturn, 1) := by decide +kernel
theorem dL_withdraw_21 : decode cL_withdraw 21 = .ok (.iconst 0, 1) := by decide +kernel
theorem dL_withdraw_22 : decode cL_withdraw 22 = .ok (.ireturn, 1) := by decide +kernel
theorem hs_L_withdraw : yL_withdraw.cls ≠ "java/lang/invoke/MethodHandle" ∧ yL_withdraw.cls ≠ "java/lang/invoke/VarHandle" ∧ (parseMethodDescriptor yL_withdraw.desc).map (fun d => d.parameters.length) = some 4 := by decide +kernel
set_option maxHeartbeats 4000000 in
set_option maxRecDepth 100000 in
theorem k_L_withdraw (l : Launch) (hls : l.stackTraces = false) (E : Ev) (K : Kd) (z : Nat) (a_0 : Option Nat) (a_1 : Int32) (a_2 : Int32) (a_3 : Option Nat) (w : Wd) {r : Int32} {w' : Wd} (hf : f_L_withdraw K a_0 a_1 a_2 a_3 w = some (r, w')) : Met l yL_withdraw (Cond.codeWith yL_withdraw cL_withdraw 5 (Option.some Jvm.ClassFile.FieldType.int) [(0, 10, 13, 29), (0, 10, 17, 13)] :: bt) ({ frames := 8, cells := 2, slots := 12, locals := 151 } : Room) (va_Pc [rv E a_0, .int a_1, .int a_2, rv E a_3] (HB E K w z)) (QW E K w' r) 2 12 (hA E) := by
  refine MetH_ofW (cc := cL_withdraw) (maxL := 5) (ret := (Option.some Jvm.ClassFile.FieldType.int)) (hh := [(0, 10, 13, 29), (0, 10, 17, 13)]) (by decide) rfl ?_
  intro p e s m args below meth c s₁ B hml htab hv
  obtain ⟨rfl, hz, hP, hKs, hT, hb0⟩ := hv
  have C : CX p l e s m _ meth c cL_withdraw 5 RL (Option.some Jvm.ClassFile.FieldType.int) E := ⟨B.exec, B.bytes, hml, findClass_of_methodNamed B.named, fun w h => atoms_spec (ws := Cond.codeWith yL_withdraw cL_withdraw 5 (Option.some Jvm.ClassFile.FieldType.int) [(0, 10, 13, 29), (0, 10, 17, 13)] :: bt) B.pre w (List.mem_cons_of_mem _ h), hKs, hT, by rw [hz]; exact hb0, B.notSynchronized, B.returns⟩
  have hH : HQ E K z w s s.heap [] := ⟨hP, va_S.rf, hz⟩
  obtain ⟨hx, hb, hml, hown, hts, hKs, hT, hb0, hlocks, hret⟩ := id C
  have hl := lv_entry [rv E a_0, .int a_1, .int a_2, rv E a_3] (n := 5) (by simp [lg_len_nil, lg_len_i, lg_len_j, lg_len_q, lg_len_f, lg_len_d, lg_len_r])
  rw [lg_entry_eq]
  generalize (lg_sl [rv E a_0, .int a_1, .int a_2, rv E a_3] ++ List.replicate (5 - (lg_sl [rv E a_0, .int a_1, .int a_2, rv E a_3]).length) Slot.unset).toArray = ls at hl ⊢
  replace hl : lv_has ls 5 [(0, rv E a_0), (1, .int a_1), (2, .int a_2), (3, rv E a_3)] := by simpa only [lv_args, cat_q, cat_i, cat_j, reduceIte, Nat.reduceEqDiff, Nat.reduceAdd, Nat.zero_add] using hl
  generalize s.heap = H at hH ⊢
  unfold f_L_withdraw at hf
  refine hl_aload_n hx hb dL_withdraw_0 rfl (lv_at hl 3 rfl) ?_
  refine lv_iconst (v := 0) hx hb dL_withdraw_1 (by decide) ?_
  refine hl_aload_n hx hb dL_withdraw_2 rfl (lv_at hl 0 rfl) ?_
  refine lv_iload_n hx hb dL_withdraw_3 rfl (lv_at hl 1 rfl) ?_
  refine lv_iload_n hx hb dL_withdraw_4 rfl (lv_at hl 2 rfl) ?_
  obtain ⟨a1, ha1, hf⟩ := bnd hf
  replace ha1 := chk_some ha1
  obtain ⟨q2, hq2, hf⟩ := bnd hf
  refine hxC_i hx hb hml hown hts hKs hT hb0 hH (As := [.int a_1, .int a_2]) (rest := [.int 0, rv E a_3]) (k_X12_withdraw l hls E K H.size a1 a_1 a_2 w ha1.2 hq2) (gV m6_94 m6_95 m6_96 m1_1 m6_97) hd_X12_withdraw ⟨Nat.le_of_ble_eq_true rfl, Nat.le_of_ble_eq_true rfl, rfl, rfl⟩ ha1.1 ha1.2 rfl rfl rfl hl.1 rfl (rcI (rcV rc0)) rfl dL_withdraw_5 ⟨Nat.le_of_ble_eq_true rfl, Nat.le_of_ble_eq_true rfl⟩ (fun c4 hc4 H locs q9 ce9 hH hc9 hv9 hf9 => ?_) (fun v3 hv3 H locs hH => ?_)
  · replace hf := (xh_inr hc4).symm.trans hf
    by_cases h5 : c4 = 1
    · subst h5
      replace hf := (if_pos rfl).symm.trans hf
      refine vx_catch (name := "java/lang/IndexOutOfBoundsException") hown [] ⟨0, 10, 13, 29⟩ [⟨0, 10, 17, 13⟩] htab pass0 (by decide) (by decide) (hts _ m5_86) (va_Nw.use rfl (hKs.2.1 _ m5_97)) hc9 hv9 hf9 ?_
      refine lv_astore (lv' := [(4, .ref q9), (0, rv E a_0), (1, .int a_1), (2, .int a_2), (3, rv E a_3)]) hx hb dL_withdraw_13 hl (by decide) (by simp [List.filter_cons, cat_q, cat_i, cat_j]) (fun ls hl => ?_)
      refine lv_iconst (v := 1) hx hb dL_withdraw_15 (by decide) ?_
      exact hw_wret hx hb (Nat.le_of_ble_eq_true rfl) (Nat.le_of_ble_eq_true rfl) hret hf hH hlocks dL_withdraw_16
    replace hf := (if_neg h5).symm.trans hf
    by_cases h6 : c4 = 2
    · subst h6
      replace hf := (if_pos rfl).symm.trans hf
      refine vx_catch (name := "java/lang/IllegalArgumentException") hown [⟨0, 10, 13, 29⟩] ⟨0, 10, 17, 13⟩ [] htab (pass1 (Or.inr ⟨by decide, "java/lang/IndexOutOfBoundsException", hts _ m5_86, hKs.2.2.2.1 ("java/lang/IllegalArgumentException", "java/lang/IndexOutOfBoundsException") (by decide)⟩) pass0) (by decide) (by decide) (hts _ m4_213) (va_Nw.use rfl (hKs.2.1 _ m4_220)) hc9 hv9 hf9 ?_
      refine lv_astore (lv' := [(4, .ref q9), (0, rv E a_0), (1, .int a_1), (2, .int a_2), (3, rv E a_3)]) hx hb dL_withdraw_17 hl (by decide) (by simp [List.filter_cons, cat_q, cat_i, cat_j]) (fun ls hl => ?_)
      refine lv_iconst (v := 2) hx hb dL_withdraw_19 (by decide) ?_
      exact hw_wret hx hb (Nat.le_of_ble_eq_true rfl) (Nat.le_of_ble_eq_true rfl) hret hf hH hlocks dL_withdraw_20
    replace hf := (if_neg h6).symm.trans hf
    cases hf
  · replace hf := (xh_inl hv3).symm.trans hf
    refine lv_i2l (v := (v3.toInt64)) hx hb dL_withdraw_8 rfl ?_
    obtain ⟨a7, ha7, hf⟩ := bnd hf
    replace ha7 := cha_some ha7
    obtain ⟨j8, hj8, hf⟩ := bnd hf
    obtain ⟨w9, hw9, hf⟩ := bnd hf
    replace hw9 := Option.some.inj hw9
    refine hw_last (x := (v3.toInt64)) hx hb hKs hH ha7.1 ha7.2 hj8 dL_withdraw_9 (fun H locs hH => ?_)
    rw [hw9] at hH
    refine lv_goto (tgt := 21) hx hb dL_withdraw_10 (by decide) ?_
    refine lv_iconst (v := 0) hx hb dL_withdraw_21 (by decide) ?_
    exact hw_wret hx hb (Nat.le_of_ble_eq_true rfl) (Nat.le_of_ble_eq_true rfl) hret hf hH hlocks dL_withdraw_22

theorem dL_addHoliday_0 : decode cL_addHoliday 0 = .ok (.aload_n 2, 1) := by decide +kernel
theorem dL_addHoliday_1 : decode cL_addHoliday 1 = .ok (.iconst 0, 1) := by decide +kernel
theorem dL_addHoliday_2 : decode cL_addHoliday 2 = .ok (.aload_n 0, 1) := by decide +kernel
theorem dL_addHoliday_3 : decode cL_addHoliday 3 = .ok (.iload_n 1, 1) := by decide +kernel
theorem dL_addHoliday_4 : decode cL_addHoliday 4 = .ok (.invokevirtual 96, 3) := by decide +kernel
theorem dL_addHoliday_7 : decode cL_addHoliday 7 = .ok (.i2l, 1) := by decide +kernel
theorem dL_addHoliday_8 : decode cL_addHoliday 8 = .ok (.lastore, 1) := by decide +kernel
theorem dL_addHoliday_9 : decode cL_addHoliday 9 = .ok (.goto 9, 3) := by decide +kernel
theorem dL_addHoliday_12 : decode cL_addHoliday 12 = .ok (.astore_n 3, 1) := by decide +kernel
theorem dL_addHoliday_13 : decode cL_addHoliday 13 = .ok (.iconst 1, 1) := by decide +kernel
theorem dL_addHoliday_14 : decode cL_addHoliday 14 = .ok (.ireturn, 1) := by decide +kernel
theorem dL_addHoliday_15 : decode cL_addHoliday 15 = .ok (.astore_n 3, 1) := by decide +kernel
theorem dL_addHoliday_16 : decode cL_addHoliday 16 = .ok (.iconst 2, 1) := by decide +kernel
theorem dL_addHoliday_17 : decode cL_addHoliday 17 = .ok (.ireturn, 1) := by decide +kernel
theorem dL_addHoliday_18 : decode cL_addHoliday 18 = .ok (.iconst 0, 1) := by decide +kernel
theorem dL_addHoliday_19 : decode cL_addHoliday 19 = .ok (.ireturn, 1) := by decide +kernel
theorem hs_L_addHoliday : yL_addHoliday.cls ≠ "java/lang/invoke/MethodHandle" ∧ yL_addHoliday.cls ≠ "java/lang/invoke/VarHandle" ∧ (parseMethodDescriptor yL_addHoliday.desc).map (fun d => d.parameters.length) = some 3 := by decide +kernel
set_option maxHeartbeats 4000000 in
set_option maxRecDepth 100000 in
theorem k_L_addHoliday (l : Launch) (hls : l.stackTraces = false) (E : Ev) (K : Kd) (z : Nat) (a_0 : Option Nat) (a_1 : Int32) (a_2 : Option Nat) (w : Wd) {r : Int32} {w' : Wd} (hf : f_L_addHoliday K a_0 a_1 a_2 w = some (r, w')) : Met l yL_addHoliday (Cond.codeWith yL_addHoliday cL_addHoliday 4 (Option.some Jvm.ClassFile.FieldType.int) [(0, 9, 12, 13), (0, 9, 15, 58)] :: bt) ({ frames := 8, cells := 2, slots := 12, locals := 149 } : Room) (va_Pc [rv E a_0, .int a_1, rv E a_2] (HB E K w z)) (QW E K w' r) 2 12 (hA E) := by
  refine MetH_ofW (cc := cL_addHoliday) (maxL := 4) (ret := (Option.some Jvm.ClassFile.FieldType.int)) (hh := [(0, 9, 12, 13), (0, 9, 15, 58)]) (by decide) rfl ?_
  intro p e s m args below meth c s₁ B hml htab hv
  obtain ⟨rfl, hz, hP, hKs, hT, hb0⟩ := hv
  have C : CX p l e s m _ meth c cL_addHoliday 4 RL (Option.some Jvm.ClassFile.FieldType.int) E := ⟨B.exec, B.bytes, hml, findClass_of_methodNamed B.named, fun w h => atoms_spec (ws := Cond.codeWith yL_addHoliday cL_addHoliday 4 (Option.some Jvm.ClassFile.FieldType.int) [(0, 9, 12, 13), (0, 9, 15, 58)] :: bt) B.pre w (List.mem_cons_of_mem _ h), hKs, hT, by rw [hz]; exact hb0, B.notSynchronized, B.returns⟩
  have hH : HQ E K z w s s.heap [] := ⟨hP, va_S.rf, hz⟩
  obtain ⟨hx, hb, hml, hown, hts, hKs, hT, hb0, hlocks, hret⟩ := id C
  have hl := lv_entry [rv E a_0, .int a_1, rv E a_2] (n := 4) (by simp [lg_len_nil, lg_len_i, lg_len_j, lg_len_q, lg_len_f, lg_len_d, lg_len_r])
  rw [lg_entry_eq]
  generalize (lg_sl [rv E a_0, .int a_1, rv E a_2] ++ List.replicate (4 - (lg_sl [rv E a_0, .int a_1, rv E a_2]).length) Slot.unset).toArray = ls at hl ⊢
  replace hl : lv_has ls 4 [(0, rv E a_0), (1, .int a_1), (2, rv E a_2)] := by simpa only [lv_args, cat_q, cat_i, cat_j, reduceIte, Nat.reduceEqDiff, Nat.reduceAdd, Nat.zero_add] using hl
  generalize s.heap = H at hH ⊢
  unfold f_L_addHoliday at hf
  refine hl_aload_n hx hb dL_addHoliday_0 rfl (lv_at hl 2 rfl) ?_
  refine lv_iconst (v := 0) hx hb dL_addHoliday_1 (by decide) ?_
  refine hl_aload_n hx hb dL_addHoliday_2 rfl (lv_at hl 0 rfl) ?_
  refine lv_iload_n hx hb dL_addHoliday_3 rfl (lv_at hl 1 rfl) ?_
  obtain ⟨a1, ha1, hf⟩ := bnd hf
  replace ha1 := chk_some ha1
  obtain ⟨q2, hq2, hf⟩ := bnd hf
  refine hxC_i hx hb hml hown hts hKs hT hb0 hH (As := [.int a_1]) (rest := [.int 0, rv E a_2]) (k_X12_addHoliday l hls E K H.size a1 a_1 w ha1.2 hq2) (gV m6_106 m6_107 m6_108 m1_1 m6_109) hd_X12_addHoliday ⟨Nat.le_of_ble_eq_true rfl, Nat.le_of_ble_eq_true rfl, rfl, rfl⟩ ha1.1 ha1.2 rfl rfl rfl hl.1 rfl (rcI (rcV rc0)) rfl dL_addHoliday_4 ⟨Nat.le_of_ble_eq_true rfl, Nat.le_of_ble_eq_true rfl⟩ (fun c4 hc4 H locs q9 ce9 hH hc9 hv9 hf9 => ?_) (fun v3 hv3 H locs hH => ?_)
  · replace hf := (xh_inr hc4).symm.trans hf
    by_cases h5 : c4 = 2
    · subst h5
      replace hf := (if_pos rfl).symm.trans hf
      refine vx_catch (name := "java/lang/IllegalArgumentException") hown [] ⟨0, 9, 12, 13⟩ [⟨0, 9, 15, 58⟩] htab pass0 (by decide) (by decide) (hts _ m4_213) (va_Nw.use rfl (hKs.2.1 _ m4_220)) hc9 hv9 hf9 ?_
      refine lv_astore_n (lv' := [(3, .ref q9), (0, rv E a_0), (1, .int a_1), (2, rv E a_2)]) hx hb dL_addHoliday_12 rfl hl (by decide) (by simp [List.filter_cons, cat_q, cat_i, cat_j]) (fun ls hl => ?_)
      refine lv_iconst (v := 1) hx hb dL_addHoliday_13 (by decide) ?_
      exact hw_wret hx hb (Nat.le_of_ble_eq_true rfl) (Nat.le_of_ble_eq_true rfl) hret hf hH hlocks dL_addHoliday_14
    replace hf := (if_neg h5).symm.trans hf
    by_cases h6 : c4 = 3
    · subst h6
      replace hf := (if_pos rfl).symm.trans hf
      refine vx_catch (name := "java/lang/IllegalStateException") hown [⟨0, 9, 12, 13⟩] ⟨0, 9, 15, 58⟩ [] htab (pass1 (Or.inr ⟨by decide, "java/lang/IllegalArgumentException", hts _ m4_213, hKs.2.2.2.1 ("java/lang/IllegalStateException", "java/lang/IllegalArgumentException") (by decide)⟩) pass0) (by decide) (by decide) (hts _ m5_182) (va_Nw.use rfl (hKs.2.1 _ m5_197)) hc9 hv9 hf9 ?_
      refine lv_astore_n (lv' := [(3, .ref q9), (0, rv E a_0), (1, .int a_1), (2, rv E a_2)]) hx hb dL_addHoliday_15 rfl hl (by decide) (by simp [List.filter_cons, cat_q, cat_i, cat_j]) (fun ls hl => ?_)
      refine lv_iconst (v := 2) hx hb dL_addHoliday_16 (by decide) ?_
      exact hw_wret hx hb (Nat.le_of_ble_eq_true rfl) (Nat.le_of_ble_eq_true rfl) hret hf hH hlocks dL_addHoliday_17
    replace hf := (if_neg h6).symm.trans hf
    cases hf
  · replace hf := (xh_inl hv3).symm.trans hf
    refine lv_i2l (v := (v3.toInt64)) hx hb dL_addHoliday_7 rfl ?_
    obtain ⟨a7, ha7, hf⟩ := bnd hf
    replace ha7 := cha_some ha7
    obtain ⟨j8, hj8, hf⟩ := bnd hf
    obtain ⟨w9, hw9, hf⟩ := bnd hf
    replace hw9 := Option.some.inj hw9
    refine hw_last (x := (v3.toInt64)) hx hb hKs hH ha7.1 ha7.2 hj8 dL_addHoliday_8 (fun H locs hH => ?_)
    rw [hw9] at hH
    refine lv_goto (tgt := 18) hx hb dL_addHoliday_9 (by decide) ?_
    refine lv_iconst (v := 0) hx hb dL_addHoliday_18 (by decide) ?_
    exact hw_wret hx hb (Nat.le_of_ble_eq_true rfl) (Nat.le_of_ble_eq_true rfl) hret hf hH hlocks dL_addHoliday_19

theorem dL_addBar_0 : decode cL_addBar 0 = .ok (.aload_n 3, 1) := by decide +kernel
theorem dL_addBar_1 : decode cL_addBar 1 = .ok (.iconst 0, 1) := by decide +kernel
theorem dL_addBar_2 : decode cL_addBar 2 = .ok (.aload_n 0, 1) := by decide +kernel
theorem dL_addBar_3 : decode cL_addBar 3 = .ok (.iload_n 1, 1) := by decide +kernel
theorem dL_addBar_4 : decode cL_addBar 4 = .ok (.iload_n 2, 1) := by decide +kernel
theorem dL_addBar_5 : decode cL_addBar 5 = .ok (.invokevirtual 99, 3) := by decide +kernel
theorem dL_addBar_8 : decode cL_addBar 8 = .ok (.ifCond .eq 7, 3) := by decide +kernel
theorem dL_addBar_11 : decode cL_addBar 11 = .ok (.lconst 1, 1) := by decide +kernel
theorem dL_addBar_12 : decode cL_addBar 12 = .ok (.goto 4, 3) := by decide +kernel
theorem dL_addBar_15 : decode cL_addBar 15 = .ok (.lconst 0, 1) := by decide +kernel
theorem dL_addBar_16 : decode cL_addBar 16 = .ok (.lastore, 1) := by decide +kernel
theorem dL_addBar_17 : decode cL_addBar 17 = .ok (.goto 11, 3) := by decide +kernel
theorem dL_addBar_20 : decode cL_addBar 20 = .ok (.astore 4, 2) := by decide +kernel
theorem dL_addBar_22 : decode cL_addBar 22 = .ok (.iconst 1, 1) := by decide +kernel
theorem dL_addBar_23 : decode cL_addBar 23 = .ok (.ireturn, 1) := by decide +kernel
theorem dL_addBar_24 : decode cL_addBar 24 = .ok (.astore 4, 2) := by decide +kernel
theorem dL_addBar_26 : decode cL_addBar 26 = .ok (.iconst 2, 1) := by decide +kernel
theorem dL_addBar_27 : decode cL_addBar 27 = .ok (.ireturn, 1) := by decide +kernel
theorem dL_addBar_28 : decode cL_addBar 28 = .ok (.iconst 0, 1) := by decide +kernel
theorem dL_addBar_29 : decode cL_addBar 29 = .ok (.ireturn, 1) := by decide +kernel
theorem hs_L_addBar : yL_addBar.cls ≠ "java/lang/invoke/MethodHandle" ∧ yL_addBar.cls ≠ "java/lang/invoke/VarHandle" ∧ (parseMethodDescriptor yL_addBar.desc).map (fun d => d.parameters.length) = some 4 := by decide +kernel
set_option maxHeartbeats 4000000 in
set_option maxRecDepth 100000 in
theorem k_L_addBar (l : Launch) (hls : l.stackTraces = false) (E : Ev) (K : Kd) (z : Nat) (a_0 : Option Nat) (a_1 : Int32) (a_2 : Int32) (a_3 : Option Nat) (w : Wd) {r : Int32} {w' : Wd} (hf : f_L_addBar K a_0 a_1 a_2 a_3 w = some (r, w')) : Met l yL_addBar (Cond.codeWith yL_addBar cL_addBar 5 (Option.some Jvm.ClassFile.FieldType.int) [(0, 17, 20, 29), (0, 17, 24, 58)] :: bt) ({ frames := 8, cells := 3, slots := 18, locals := 149 } : Room) (va_Pc [rv E a_0, .int a_1, .int a_2, rv E a_3] (HB E K w z)) (QW E K w' r) 3 18 (hA E) := by
  refine MetH_ofW (cc := cL_addBar) (maxL := 5) (ret := (Option.some Jvm.ClassFile.FieldType.int)) (hh := [(0, 17, 20, 29), (0, 17, 24, 58)]) (by decide) rfl ?_
  intro p e s m args below meth c s₁ B hml htab hv
  obtain ⟨rfl, hz, hP, hKs, hT, hb0⟩ := hv
  have C : CX p l e s m _ meth c cL_addBar 5 RL (Option.some Jvm.ClassFile.FieldType.int) E := ⟨B.exec, B.bytes, hml, findClass_of_methodNamed B.named, fun w h => atoms_spec (ws := Cond.codeWith yL_addBar cL_addBar 5 (Option.some Jvm.ClassFile.FieldType.int) [(0, 17, 20, 29), (0, 17, 24, 58)] :: bt) B.pre w (List.mem_cons_of_mem _ h), hKs, hT, by rw [hz]; exact hb0, B.notSynchronized, B.returns⟩
  have hH : HQ E K z w s s.heap [] := ⟨hP, va_S.rf, hz⟩
  obtain ⟨hx, hb, hml, hown, hts, hKs, hT, hb0, hlocks, hret⟩ := id C
  have hl := lv_entry [rv E a_0, .int a_1, .int a_2, rv E a_3] (n := 5) (by simp [lg_len_nil, lg_len_i, lg_len_j, lg_len_q, lg_len_f, lg_len_d, lg_len_r])
  rw [lg_entry_eq]
  generalize (lg_sl [rv E a_0, .int a_1, .int a_2, rv E a_3] ++ List.replicate (5 - (lg_sl [rv E a_0, .int a_1, .int a_2, rv E a_3]).length) Slot.unset).toArray = ls at hl ⊢
  replace hl : lv_has ls 5 [(0, rv E a_0), (1, .int a_1), (2, .int a_2), (3, rv E a_3)] := by simpa only [lv_args, cat_q, cat_i, cat_j, reduceIte, Nat.reduceEqDiff, Nat.reduceAdd, Nat.zero_add] using hl
  generalize s.heap = H at hH ⊢
  unfold f_L_addBar at hf
  refine hl_aload_n hx hb dL_addBar_0 rfl (lv_at hl 3 rfl) ?_
  refine lv_iconst (v := 0) hx hb dL_addBar_1 (by decide) ?_
  refine hl_aload_n hx hb dL_addBar_2 rfl (lv_at hl 0 rfl) ?_
  refine lv_iload_n hx hb dL_addBar_3 rfl (lv_at hl 1 rfl) ?_
  refine lv_iload_n hx hb dL_addBar_4 rfl (lv_at hl 2 rfl) ?_
  obtain ⟨a1, ha1, hf⟩ := bnd hf
  replace ha1 := chk_some ha1
  obtain ⟨q2, hq2, hf⟩ := bnd hf
  refine hxC_z hx hb hml hown hts hKs hT hb0 hH (As := [.int a_1, .int a_2]) (rest := [.int 0, rv E a_3]) (k_X12_addBar l hls E K H.size a1 a_1 a_2 w ha1.2 hq2) (gV m6_114 m6_115 m6_116 m1_1 m6_117) hd_X12_addBar ⟨Nat.le_of_ble_eq_true rfl, Nat.le_of_ble_eq_true rfl, rfl, rfl⟩ ha1.1 ha1.2 rfl rfl rfl hl.1 rfl (rcI (rcV rc0)) rfl dL_addBar_5 ⟨Nat.le_of_ble_eq_true rfl, Nat.le_of_ble_eq_true rfl⟩ (fun c4 hc4 H locs q9 ce9 hH hc9 hv9 hf9 => ?_) (fun v3 hv3 H locs hH => ?_)
  · replace hf := (xh_inr hc4).symm.trans hf
    by_cases h5 : c4 = 1
    · subst h5
      replace hf := (if_pos rfl).symm.trans hf
      refine vx_catch (name := "java/lang/IndexOutOfBoundsException") hown [] ⟨0, 17, 20, 29⟩ [⟨0, 17, 24, 58⟩] htab pass0 (by decide) (by decide) (hts _ m5_86) (va_Nw.use rfl (hKs.2.1 _ m5_97)) hc9 hv9 hf9 ?_
      refine lv_astore (lv' := [(4, .ref q9), (0, rv E a_0), (1, .int a_1), (2, .int a_2), (3, rv E a_3)]) hx hb dL_addBar_20 hl (by decide) (by simp [List.filter_cons, cat_q, cat_i, cat_j]) (fun ls hl => ?_)
      refine lv_iconst (v := 1) hx hb dL_addBar_22 (by decide) ?_
      exact hw_wret hx hb (Nat.le_of_ble_eq_true rfl) (Nat.le_of_ble_eq_true rfl) hret hf hH hlocks dL_addBar_23
    replace hf := (if_neg h5).symm.trans hf
    by_cases h6 : c4 = 3
    · subst h6
      replace hf := (if_pos rfl).symm.trans hf
      refine vx_catch (name := "java/lang/IllegalStateException") hown [⟨0, 17, 20, 29⟩] ⟨0, 17, 24, 58⟩ [] htab (pass1 (Or.inr ⟨by decide, "java/lang/IndexOutOfBoundsException", hts _ m5_86, hKs.2.2.2.1 ("java/lang/IllegalStateException", "java/lang/IndexOutOfBoundsException") (by decide)⟩) pass0) (by decide) (by decide) (hts _ m5_182) (va_Nw.use rfl (hKs.2.1 _ m5_197)) hc9 hv9 hf9 ?_
      refine lv_astore (lv' := [(4, .ref q9), (0, rv E a_0), (1, .int a_1), (2, .int a_2), (3, rv E a_3)]) hx hb dL_addBar_24 hl (by decide) (by simp [List.filter_cons, cat_q, cat_i, cat_j]) (fun ls hl => ?_)
      refine lv_iconst (v := 2) hx hb dL_addBar_26 (by decide) ?_
      exact hw_wret hx hb (Nat.le_of_ble_eq_true rfl) (Nat.le_of_ble_eq_true rfl) hret hf hH hlocks dL_addBar_27
    replace hf := (if_neg h6).symm.trans hf
    cases hf
  · replace hf := (xh_inl hv3).symm.trans hf
    refine lv_if_eq (tgt := 15) hx hb dL_addBar_8 (by decide) (fun c7 => ?_) (fun c7 => ?_)
    · replace hf := (if_pos c7).symm.trans hf
      refine lv_lconst (v := 0) hx hb dL_addBar_15 rfl ?_
      obtain ⟨a8, ha8, hf⟩ := bnd hf
      replace ha8 := cha_some ha8
      obtain ⟨j9, hj9, hf⟩ := bnd hf
      obtain ⟨w10, hw10, hf⟩ := bnd hf
      replace hw10 := Option.some.inj hw10
      refine hw_last (x := 0) hx hb hKs hH ha8.1 ha8.2 hj9 dL_addBar_16 (fun H locs hH => ?_)
      rw [hw10] at hH
      refine lv_goto (tgt := 28) hx hb dL_addBar_17 (by decide) ?_
      refine lv_iconst (v := 0) hx hb dL_addBar_28 (by decide) ?_
      exact hw_wret hx hb (Nat.le_of_ble_eq_true rfl) (Nat.le_of_ble_eq_true rfl) hret hf hH hlocks dL_addBar_29
    · replace hf := (if_neg c7).symm.trans hf
      refine lv_lconst (v := 1) hx hb dL_addBar_11 rfl ?_
      refine lv_goto (tgt := 16) hx hb dL_addBar_12 (by decide) ?_
      obtain ⟨a11, ha11, hf⟩ := bnd hf
      replace ha11 := cha_some ha11
      obtain ⟨j12, hj12, hf⟩ := bnd hf
      obtain ⟨w13, hw13, hf⟩ := bnd hf
      replace hw13 := Option.some.inj hw13
      refine hw_last (x := 1) hx hb hKs hH ha11.1 ha11.2 hj12 dL_addBar_16 (fun H locs hH => ?_)
      rw [hw13] at hH
      refine lv_goto (tgt := 28) hx hb dL_addBar_17 (by decide) ?_
      refine lv_iconst (v := 0) hx hb dL_addBar_28 (by decide) ?_
      exact hw_wret hx hb (Nat.le_of_ble_eq_true rfl) (Nat.le_of_ble_eq_true rfl) hret hf hH hlocks dL_addBar_29

theorem dJ0_charAt_5068e_0 : decode cJ0_charAt_5068e 0 = .ok (.aload_n 0, 1) := by decide +kernel
theorem dJ0_charAt_5068e_1 : decode cJ0_charAt_5068e 1 = .ok (.invokevirtual 492, 3) := by decide +kernel
theorem dJ0_charAt_5068e_4 : decode cJ0_charAt_5068e 4 = .ok (.ifCond .eq 12, 3) := by decide +kernel
theorem dJ0_charAt_5068e_7 : decode cJ0_charAt_5068e 7 = .ok (.aload_n 0, 1) := by decide +kernel
theorem dJ0_charAt_5068e_8 : decode cJ0_charAt_5068e 8 = .ok (.getfield 9, 3) := by decide +kernel
theorem dJ0_charAt_5068e_11 : decode cJ0_charAt_5068e 11 = .ok (.iload_n 1, 1) := by decide +kernel
theorem dJ0_charAt_5068e_12 : decode cJ0_charAt_5068e 12 = .ok (.invokestatic 495, 3) := by decide +kernel
theorem dJ0_charAt_5068e_15 : decode cJ0_charAt_5068e 15 = .ok (.ireturn, 1) := by decide +kernel
theorem hd_J0_charAt_5068e : yJ0_charAt_5068e.cls = RJ0 ∧ yJ0_charAt_5068e.cls ≠ "java/lang/invoke/MethodHandle" ∧ yJ0_charAt_5068e.cls ≠ "java/lang/invoke/VarHandle" ∧ (parseMethodDescriptor yJ0_charAt_5068e.desc).map (fun d => d.parameters.length) = some 1 := by decide +kernel
theorem hs_J0_charAt_5068e : yJ0_charAt_5068e.cls ≠ "java/lang/invoke/MethodHandle" ∧ yJ0_charAt_5068e.cls ≠ "java/lang/invoke/VarHandle" ∧ (parseMethodDescriptor yJ0_charAt_5068e.desc).map (fun d => d.parameters.length) = some 1 := by decide +kernel
set_option maxHeartbeats 4000000 in
set_option maxRecDepth 100000 in
theorem k_J0_charAt_5068e (l : Launch) (E : Ev) (K : Kd) (z : Nat) (a_1 : Int32) (w : Wd) {r : Int32} {w' : Wd} (hf : f_J0_charAt_5068e K a_1 w = some (r, w')) : Met l yJ0_charAt_5068e (Cond.code yJ0_charAt_5068e cJ0_charAt_5068e 2 (Option.some Jvm.ClassFile.FieldType.char) :: bt) ({ frames := 3, cells := 0, slots := 0, locals := 64 } : Room) (va_Pc [.ref (E.2.2.2 102), .int a_1] (HB E K w z)) (QI E K z w' r) 0 0 (hA E) := by
  refine Met.ofW (cc := cJ0_charAt_5068e) (maxL := 2) (ret := (Option.some Jvm.ClassFile.FieldType.char)) (by decide) rfl ?_
  intro p e s m args below meth c s₁ B hml hv
  obtain ⟨rfl, hz, hP, hKs, hT, hb0⟩ := hv
  have C : CX p l e s m _ meth c cJ0_charAt_5068e 2 RJ0 (Option.some Jvm.ClassFile.FieldType.char) E := ⟨B.exec, B.bytes, hml, findClass_of_methodNamed B.named, fun w h => atoms_spec (ws := Cond.code yJ0_charAt_5068e cJ0_charAt_5068e 2 (Option.some Jvm.ClassFile.FieldType.char) :: bt) B.pre w (List.mem_cons_of_mem _ h), hKs, hT, by rw [hz]; exact hb0, B.notSynchronized, B.returns⟩
  have hH : HQ E K z w s s.heap [] := ⟨hP, va_S.rf, hz⟩
  obtain ⟨hx, hb, hml, hown, hts, hKs, hT, hb0, hlocks, hret⟩ := id C
  have hl := lv_entry [.ref (E.2.2.2 102), .int a_1] (n := 2) (by simp [lg_len_nil, lg_len_i, lg_len_j, lg_len_q, lg_len_f, lg_len_d, lg_len_r])
  rw [lg_entry_eq]
  generalize (lg_sl [.ref (E.2.2.2 102), .int a_1] ++ List.replicate (2 - (lg_sl [.ref (E.2.2.2 102), .int a_1]).length) Slot.unset).toArray = ls at hl ⊢
  replace hl : lv_has ls 2 [(0, .ref (E.2.2.2 102)), (1, .int a_1)] := by simpa only [lv_args, cat_q, cat_i, cat_j, reduceIte, Nat.reduceEqDiff, Nat.reduceAdd, Nat.zero_add] using hl
  generalize s.heap = H at hH ⊢
  unfold f_J0_charAt_5068e at hf
  refine lv_aload_n hx hb dJ0_charAt_5068e_0 rfl (lv_at hl 0 rfl) ?_
  refine hcG_i hH (va_runV (As := []) (rest := []) ⟨hx, hb, hml, hown, hts⟩ (k_J0_isLatin1_aae02 l E K H.size w rfl) (cwV _ hts (gV m9_11 m9_12 m9_13 m1_19 m9_14) rfl rfl rfl hd_J0_isLatin1_aae02 ⟨Nat.le_of_ble_eq_true rfl, Nat.le_of_ble_eq_true rfl⟩) ⟨HB.blind, strRecv hT hH, HB.pre hKs hT hb0 hH⟩ rfl rfl hl.1 rfl (lv_room rc0) dJ0_charAt_5068e_1 ⟨Nat.zero_le _, Nat.zero_le _⟩) (fun H locs hH => ?_)
  refine lv_if_eq (tgt := 16) hx hb dJ0_charAt_5068e_4 (by decide) (fun c1 => ?_) (fun c1 => ?_)
  · exact (by revert c1; decide : False).elim
  · skip
    refine lv_aload_n hx hb dJ0_charAt_5068e_7 rfl (lv_at hl 0 rfl) ?_
    refine hw_value hx hb hts hown hT hH m9_211 dJ0_charAt_5068e_8 ?_
    refine lv_iload_n hx hb dJ0_charAt_5068e_11 rfl (lv_at hl 1 rfl) ?_
    obtain ⟨q2, hq2, hf⟩ := bnd hf
    refine hcS_i hx hb hml hown hts hKs hT hb0 hH (As := [.ref (E.2.2.2 202), .int a_1]) (rest := []) (k_J1_charAt_3b067 l E K H.size a_1 w hq2) (gS m9_15 m9_16 m1_20 m9_17) hs_J1_charAt_3b067 ⟨Nat.le_of_ble_eq_true rfl, Nat.le_of_ble_eq_true rfl, rfl, rfl⟩ hl.1 rfl rc0 rfl dJ0_charAt_5068e_12 ⟨Nat.zero_le _, Nat.zero_le _⟩ (fun H locs hH => ?_)
    obtain ⟨_, hg3, hf⟩ := bnd hf
    exact hw_nret hx hb hret (i2c_n (grd_some hg3)) hf hH hlocks dJ0_charAt_5068e_15

theorem dX12_problem_0 : decode cX12_problem 0 = .ok (.aload_n 0, 1) := by decide +kernel
theorem dX12_problem_1 : decode cX12_problem 1 = .ok (.iload_n 1, 1) := by decide +kernel
theorem dX12_problem_2 : decode cX12_problem 2 = .ok (.iload_n 2, 1) := by decide +kernel
theorem dX12_problem_3 : decode cX12_problem 3 = .ok (.iload_n 3, 1) := by decide +kernel
theorem dX12_problem_4 : decode cX12_problem 4 = .ok (.iload 4, 2) := by decide +kernel
theorem dX12_problem_6 : decode cX12_problem 6 = .ok (.iload 5, 2) := by decide +kernel
theorem dX12_problem_8 : decode cX12_problem 8 = .ok (.invokevirtual 276, 3) := by decide +kernel
theorem dX12_problem_11 : decode cX12_problem 11 = .ok (.aload_n 0, 1) := by decide +kernel
theorem dX12_problem_12 : decode cX12_problem 12 = .ok (.iload_n 1, 1) := by decide +kernel
theorem dX12_problem_13 : decode cX12_problem 13 = .ok (.invokevirtual 280, 3) := by decide +kernel
theorem dX12_problem_16 : decode cX12_problem 16 = .ok (.aload_n 0, 1) := by decide +kernel
theorem dX12_problem_17 : decode cX12_problem 17 = .ok (.getfield 52, 3) := by decide +kernel
theorem dX12_problem_20 : decode cX12_problem 20 = .ok (.aload_n 0, 1) := by decide +kernel
theorem dX12_problem_21 : decode cX12_problem 21 = .ok (.getfield 35, 3) := by decide +kernel
theorem dX12_problem_24 : decode cX12_problem 24 = .ok (.iload_n 1, 1) := by decide +kernel
theorem dX12_problem_25 : decode cX12_problem 25 = .ok (.iload_n 2, 1) := by decide +kernel
theorem dX12_problem_26 : decode cX12_problem 26 = .ok (.iload_n 3, 1) := by decide +kernel
theorem dX12_problem_27 : decode cX12_problem 27 = .ok (.iload 4, 2) := by decide +kernel
theorem dX12_problem_29 : decode cX12_problem 29 = .ok (.iload 5, 2) := by decide +kernel
theorem dX12_problem_31 : decode cX12_problem 31 = .ok (.invokevirtual 283, 3) := by decide +kernel
theorem dX12_problem_34 : decode cX12_problem 34 = .ok (.ireturn, 1) := by decide +kernel
theorem hd_X12_problem : yX12_problem.cls = RX12 ∧ yX12_problem.cls ≠ "java/lang/invoke/MethodHandle" ∧ yX12_problem.cls ≠ "java/lang/invoke/VarHandle" ∧ (parseMethodDescriptor yX12_problem.desc).map (fun d => d.parameters.length) = some 5 := by decide +kernel
theorem hs_X12_problem : yX12_problem.cls ≠ "java/lang/invoke/MethodHandle" ∧ yX12_problem.cls ≠ "java/lang/invoke/VarHandle" ∧ (parseMethodDescriptor yX12_problem.desc).map (fun d => d.parameters.length) = some 5 := by decide +kernel
set_option maxHeartbeats 4000000 in
set_option maxRecDepth 100000 in
theorem k_X12_problem (l : Launch) (hls : l.stackTraces = false) (E : Ev) (K : Kd) (z : Nat) (o : Nat) (a_1 : Int32) (a_2 : Int32) (a_3 : Int32) (a_4 : Int32) (a_5 : Int32) (w : Wd) (ho : K o = some (10, 0)) {r : Int32 ⊕ Nat} {w' : Wd} (hf : f_X12_problem K o a_1 a_2 a_3 a_4 a_5 w = some (r, w')) : vx_Met l yX12_problem (Cond.code yX12_problem cX12_problem 6 (Option.some Jvm.ClassFile.FieldType.int) :: bt) ({ frames := 8, cells := 6, slots := 36, locals := 137 } : Room) (va_Pc [rv E (some o), .int a_1, .int a_2, .int a_3, .int a_4, .int a_5] (HB E K w z)) (XI E K z w' r) (XX E K w' r) 6 36 (hA E) := by
  refine vx_ofW (cc := cX12_problem) (maxL := 6) (ret := (Option.some Jvm.ClassFile.FieldType.int)) (by decide) rfl ?_
  intro p e s m args below meth c s₁ B hml hout hv
  obtain ⟨rfl, hz, hP, hKs, hT, hb0⟩ := hv
  have C : CX p l e s m _ meth c cX12_problem 6 RX12 (Option.some Jvm.ClassFile.FieldType.int) E := ⟨B.exec, B.bytes, hml, findClass_of_methodNamed B.named, fun w h => atoms_spec (ws := Cond.code yX12_problem cX12_problem 6 (Option.some Jvm.ClassFile.FieldType.int) :: bt) B.pre w (List.mem_cons_of_mem _ h), hKs, hT, by rw [hz]; exact hb0, B.notSynchronized, B.returns⟩
  have hH : HQ E K z w s s.heap [] := ⟨hP, va_S.rf, hz⟩
  obtain ⟨hx, hb, hml, hown, hts, hKs, hT, hb0, hlocks, hret⟩ := id C
  have hl := lv_entry [rv E (some o), .int a_1, .int a_2, .int a_3, .int a_4, .int a_5] (n := 6) (by simp [lg_len_nil, lg_len_i, lg_len_j, lg_len_q, lg_len_f, lg_len_d, lg_len_r])
  rw [lg_entry_eq]
  generalize (lg_sl [rv E (some o), .int a_1, .int a_2, .int a_3, .int a_4, .int a_5] ++ List.replicate (6 - (lg_sl [rv E (some o), .int a_1, .int a_2, .int a_3, .int a_4, .int a_5]).length) Slot.unset).toArray = ls at hl ⊢
  replace hl : lv_has ls 6 [(0, rv E (some o)), (1, .int a_1), (2, .int a_2), (3, .int a_3), (4, .int a_4), (5, .int a_5)] := by simpa only [lv_args, cat_q, cat_i, cat_j, reduceIte, Nat.reduceEqDiff, Nat.reduceAdd, Nat.zero_add] using hl
  generalize s.heap = H at hH ⊢
  unfold f_X12_problem at hf
  refine hl_aload_n hx hb dX12_problem_0 rfl (lv_at hl 0 rfl) ?_
  refine lv_iload_n hx hb dX12_problem_1 rfl (lv_at hl 1 rfl) ?_
  refine lv_iload_n hx hb dX12_problem_2 rfl (lv_at hl 2 rfl) ?_
  refine lv_iload_n hx hb dX12_problem_3 rfl (lv_at hl 3 rfl) ?_
  refine lv_iload hx hb dX12_problem_4 (lv_at hl 4 rfl) ?_
  refine lv_iload hx hb dX12_problem_6 (lv_at hl 5 rfl) ?_
  obtain ⟨q1, hq1, hf⟩ := bnd hf
  refine hxV_v hx hb hml hown hts hKs hT hb0 hH (As := [.int a_1, .int a_2, .int a_3, .int a_4, .int a_5]) (rest := []) (k_X12_requireHearing l hls E K H.size o a_1 a_2 a_3 a_4 a_5 w ho hq1) (gV m5_187 m5_189 ms_39 m1_1 m5_190) hd_X12_requireHearing ⟨Nat.le_of_ble_eq_true rfl, Nat.le_of_ble_eq_true rfl, rfl, rfl⟩ rfl ho rfl rfl rfl hl.1 rfl rc0 rfl dX12_problem_8 ⟨Nat.le_of_ble_eq_true rfl, Nat.le_of_ble_eq_true rfl⟩ ⟨Nat.le_of_ble_eq_true rfl, Nat.le_of_ble_eq_true rfl⟩ hout hlocks (fun x hx9 => (fun h9 => ⟨(congrArg Prod.fst h9).symm, (congrArg Prod.snd h9).symm⟩) (Option.some.inj ((xk_inr hx9).symm.trans hf))) (fun v2 hv2 H locs hH => ?_)
  replace hf := (xk_inl hv2).symm.trans hf
  refine hl_aload_n hx hb dX12_problem_11 rfl (lv_at hl 0 rfl) ?_
  refine lv_iload_n hx hb dX12_problem_12 rfl (lv_at hl 1 rfl) ?_
  obtain ⟨q3, hq3, hf⟩ := bnd hf
  refine hxV_v hx hb hml hown hts hKs hT hb0 hH (As := [.int a_1]) (rest := []) (k_X12_requireUnfinished l hls E K H.size o a_1 q1.2 ho hq3) (gV m5_191 m5_193 ms_40 m1_1 m5_194) hd_X12_requireUnfinished ⟨Nat.le_of_ble_eq_true rfl, Nat.le_of_ble_eq_true rfl, rfl, rfl⟩ rfl ho rfl rfl rfl hl.1 rfl rc0 rfl dX12_problem_13 ⟨Nat.le_of_ble_eq_true rfl, Nat.le_of_ble_eq_true rfl⟩ ⟨Nat.le_of_ble_eq_true rfl, Nat.le_of_ble_eq_true rfl⟩ hout hlocks (fun x hx9 => (fun h9 => ⟨(congrArg Prod.fst h9).symm, (congrArg Prod.snd h9).symm⟩) (Option.some.inj ((xk_inr hx9).symm.trans hf))) (fun v4 hv4 H locs hH => ?_)
  replace hf := (xk_inl hv4).symm.trans hf
  refine hl_aload_n hx hb dX12_problem_16 rfl (lv_at hl 0 rfl) ?_
  refine g12_11 hx hb hts hown hKs hH rfl ho m2_230 dX12_problem_17 ?_
  refine hl_aload_n hx hb dX12_problem_20 rfl (lv_at hl 0 rfl) ?_
  refine g12_5 hx hb hts hown hKs hH rfl ho m2_224 dX12_problem_21 ?_
  refine lv_iload_n hx hb dX12_problem_24 rfl (lv_at hl 1 rfl) ?_
  refine lv_iload_n hx hb dX12_problem_25 rfl (lv_at hl 2 rfl) ?_
  refine lv_iload_n hx hb dX12_problem_26 rfl (lv_at hl 3 rfl) ?_
  refine lv_iload hx hb dX12_problem_27 (lv_at hl 4 rfl) ?_
  refine lv_iload hx hb dX12_problem_29 (lv_at hl 5 rfl) ?_
  obtain ⟨a5, ha5, hf⟩ := bnd hf
  replace ha5 := chk_some ha5
  obtain ⟨q6, hq6, hf⟩ := bnd hf
  refine hcV_i hx hb hml hown hts hKs hT hb0 hH (As := [rv E (wR q3.2 1205 o), .int a_1, .int a_2, .int a_3, .int a_4, .int a_5]) (rest := []) (k_X6_faultOf l E K H.size a5 (wR q3.2 1205 o) a_1 a_2 a_3 a_4 a_5 q3.2 ha5.2 hq6) (gV m5_210 m5_211 m5_212 m1_14 m5_213) hd_X6_faultOf ⟨Nat.le_of_ble_eq_true rfl, Nat.le_of_ble_eq_true rfl, rfl, rfl⟩ ha5.1 ha5.2 rfl rfl rfl hl.1 rfl rc0 rfl dX12_problem_31 ⟨Nat.le_of_ble_eq_true rfl, Nat.le_of_ble_eq_true rfl⟩ (fun H locs hH => ?_)
  exact hx_iret hx hb (Nat.le_of_ble_eq_true rfl) (Nat.le_of_ble_eq_true rfl) hret hf hH hlocks dX12_problem_34

theorem dX12_plan_0 : decode cX12_plan 0 = .ok (.aload_n 0, 1) := by decide +kernel
theorem dX12_plan_1 : decode cX12_plan 1 = .ok (.iload_n 1, 1) := by decide +kernel
theorem dX12_plan_2 : decode cX12_plan 2 = .ok (.iload_n 2, 1) := by decide +kernel
theorem dX12_plan_3 : decode cX12_plan 3 = .ok (.iload_n 3, 1) := by decide +kernel
theorem dX12_plan_4 : decode cX12_plan 4 = .ok (.iload 4, 2) := by decide +kernel
theorem dX12_plan_6 : decode cX12_plan 6 = .ok (.iload 5, 2) := by decide +kernel
theorem dX12_plan_8 : decode cX12_plan 8 = .ok (.invokevirtual 276, 3) := by decide +kernel
theorem dX12_plan_11 : decode cX12_plan 11 = .ok (.aload_n 0, 1) := by decide +kernel
theorem dX12_plan_12 : decode cX12_plan 12 = .ok (.iload_n 1, 1) := by decide +kernel
theorem dX12_plan_13 : decode cX12_plan 13 = .ok (.invokevirtual 280, 3) := by decide +kernel
theorem dX12_plan_16 : decode cX12_plan 16 = .ok (.aload_n 0, 1) := by decide +kernel
theorem dX12_plan_17 : decode cX12_plan 17 = .ok (.getfield 52, 3) := by decide +kernel
theorem dX12_plan_20 : decode cX12_plan 20 = .ok (.aload_n 0, 1) := by decide +kernel
theorem dX12_plan_21 : decode cX12_plan 21 = .ok (.getfield 35, 3) := by decide +kernel
theorem dX12_plan_24 : decode cX12_plan 24 = .ok (.iload_n 1, 1) := by decide +kernel
theorem dX12_plan_25 : decode cX12_plan 25 = .ok (.iload_n 2, 1) := by decide +kernel
theorem dX12_plan_26 : decode cX12_plan 26 = .ok (.iload_n 3, 1) := by decide +kernel
theorem dX12_plan_27 : decode cX12_plan 27 = .ok (.iload 4, 2) := by decide +kernel
theorem dX12_plan_29 : decode cX12_plan 29 = .ok (.iload 5, 2) := by decide +kernel
theorem dX12_plan_31 : decode cX12_plan 31 = .ok (.invokevirtual 283, 3) := by decide +kernel
theorem dX12_plan_34 : decode cX12_plan 34 = .ok (.ifCond .eq 11, 3) := by decide +kernel
theorem dX12_plan_37 : decode cX12_plan 37 = .ok (.new 331, 3) := by decide +kernel
theorem dX12_plan_40 : decode cX12_plan 40 = .ok (.dup, 1) := by decide +kernel
theorem dX12_plan_41 : decode cX12_plan 41 = .ok (.invokespecial 333, 3) := by decide +kernel
theorem dX12_plan_44 : decode cX12_plan 44 = .ok (.athrow, 1) := by decide +kernel
theorem dX12_plan_45 : decode cX12_plan 45 = .ok (.aload_n 0, 1) := by decide +kernel
theorem dX12_plan_46 : decode cX12_plan 46 = .ok (.invokevirtual 325, 3) := by decide +kernel
theorem dX12_plan_49 : decode cX12_plan 49 = .ok (.aload_n 0, 1) := by decide +kernel
theorem dX12_plan_50 : decode cX12_plan 50 = .ok (.getfield 35, 3) := by decide +kernel
theorem dX12_plan_53 : decode cX12_plan 53 = .ok (.getfield 213, 3) := by decide +kernel
theorem dX12_plan_56 : decode cX12_plan 56 = .ok (.iload_n 1, 1) := by decide +kernel
theorem dX12_plan_57 : decode cX12_plan 57 = .ok (.aaload, 1) := by decide +kernel
theorem dX12_plan_58 : decode cX12_plan 58 = .ok (.iload_n 2, 1) := by decide +kernel
theorem dX12_plan_59 : decode cX12_plan 59 = .ok (.iload_n 3, 1) := by decide +kernel
theorem dX12_plan_60 : decode cX12_plan 60 = .ok (.iload 4, 2) := by decide +kernel
theorem dX12_plan_62 : decode cX12_plan 62 = .ok (.iload 5, 2) := by decide +kernel
theorem dX12_plan_64 : decode cX12_plan 64 = .ok (.invokevirtual 334, 3) := by decide +kernel
theorem dX12_plan_67 : decode cX12_plan 67 = .ok (.aload_n 0, 1) := by decide +kernel
theorem dX12_plan_68 : decode cX12_plan 68 = .ok (.getfield 35, 3) := by decide +kernel
theorem dX12_plan_71 : decode cX12_plan 71 = .ok (.iload_n 2, 1) := by decide +kernel
theorem dX12_plan_72 : decode cX12_plan 72 = .ok (.iconst 1, 1) := by decide +kernel
theorem dX12_plan_73 : decode cX12_plan 73 = .ok (.iadd, 1) := by decide +kernel
theorem dX12_plan_74 : decode cX12_plan 74 = .ok (.aload_n 0, 1) := by decide +kernel
theorem dX12_plan_75 : decode cX12_plan 75 = .ok (.getfield 35, 3) := by decide +kernel
theorem dX12_plan_78 : decode cX12_plan 78 = .ok (.iload_n 1, 1) := by decide +kernel
theorem dX12_plan_79 : decode cX12_plan 79 = .ok (.invokevirtual 233, 3) := by decide +kernel
theorem dX12_plan_82 : decode cX12_plan 82 = .ok (.invokevirtual 165, 3) := by decide +kernel
theorem dX12_plan_85 : decode cX12_plan 85 = .ok (.ireturn, 1) := by decide +kernel
theorem hd_X12_plan : yX12_plan.cls = RX12 ∧ yX12_plan.cls ≠ "java/lang/invoke/MethodHandle" ∧ yX12_plan.cls ≠ "java/lang/invoke/VarHandle" ∧ (parseMethodDescriptor yX12_plan.desc).map (fun d => d.parameters.length) = some 5 := by decide +kernel
theorem hs_X12_plan : yX12_plan.cls ≠ "java/lang/invoke/MethodHandle" ∧ yX12_plan.cls ≠ "java/lang/invoke/VarHandle" ∧ (parseMethodDescriptor yX12_plan.desc).map (fun d => d.parameters.length) = some 5 := by decide +kernel
set_option maxHeartbeats 4000000 in
set_option maxRecDepth 100000 in
theorem k_X12_plan (l : Launch) (hls : l.stackTraces = false) (E : Ev) (K : Kd) (z : Nat) (o : Nat) (a_1 : Int32) (a_2 : Int32) (a_3 : Int32) (a_4 : Int32) (a_5 : Int32) (w : Wd) (ho : K o = some (10, 0)) {r : Int32 ⊕ Nat} {w' : Wd} (hf : f_X12_plan K o a_1 a_2 a_3 a_4 a_5 w = some (r, w')) : vx_Met l yX12_plan (Cond.code yX12_plan cX12_plan 6 (Option.some Jvm.ClassFile.FieldType.int) :: bt) ({ frames := 8, cells := 7, slots := 42, locals := 137 } : Room) (va_Pc [rv E (some o), .int a_1, .int a_2, .int a_3, .int a_4, .int a_5] (HB E K w z)) (XI E K z w' r) (XX E K w' r) 7 42 (hA E) := by
  refine vx_ofW (cc := cX12_plan) (maxL := 6) (ret := (Option.some Jvm.ClassFile.FieldType.int)) (by decide) rfl ?_
  intro p e s m args below meth c s₁ B hml hout hv
  obtain ⟨rfl, hz, hP, hKs, hT, hb0⟩ := hv
  have C : CX p l e s m _ meth c cX12_plan 6 RX12 (Option.some Jvm.ClassFile.FieldType.int) E := ⟨B.exec, B.bytes, hml, findClass_of_methodNamed B.named, fun w h => atoms_spec (ws := Cond.code yX12_plan cX12_plan 6 (Option.some Jvm.ClassFile.FieldType.int) :: bt) B.pre w (List.mem_cons_of_mem _ h), hKs, hT, by rw [hz]; exact hb0, B.notSynchronized, B.returns⟩
  have hH : HQ E K z w s s.heap [] := ⟨hP, va_S.rf, hz⟩
  obtain ⟨hx, hb, hml, hown, hts, hKs, hT, hb0, hlocks, hret⟩ := id C
  have hl := lv_entry [rv E (some o), .int a_1, .int a_2, .int a_3, .int a_4, .int a_5] (n := 6) (by simp [lg_len_nil, lg_len_i, lg_len_j, lg_len_q, lg_len_f, lg_len_d, lg_len_r])
  rw [lg_entry_eq]
  generalize (lg_sl [rv E (some o), .int a_1, .int a_2, .int a_3, .int a_4, .int a_5] ++ List.replicate (6 - (lg_sl [rv E (some o), .int a_1, .int a_2, .int a_3, .int a_4, .int a_5]).length) Slot.unset).toArray = ls at hl ⊢
  replace hl : lv_has ls 6 [(0, rv E (some o)), (1, .int a_1), (2, .int a_2), (3, .int a_3), (4, .int a_4), (5, .int a_5)] := by simpa only [lv_args, cat_q, cat_i, cat_j, reduceIte, Nat.reduceEqDiff, Nat.reduceAdd, Nat.zero_add] using hl
  generalize s.heap = H at hH ⊢
  unfold f_X12_plan at hf
  refine hl_aload_n hx hb dX12_plan_0 rfl (lv_at hl 0 rfl) ?_
  refine lv_iload_n hx hb dX12_plan_1 rfl (lv_at hl 1 rfl) ?_
  refine lv_iload_n hx hb dX12_plan_2 rfl (lv_at hl 2 rfl) ?_
  refine lv_iload_n hx hb dX12_plan_3 rfl (lv_at hl 3 rfl) ?_
  refine lv_iload hx hb dX12_plan_4 (lv_at hl 4 rfl) ?_
  refine lv_iload hx hb dX12_plan_6 (lv_at hl 5 rfl) ?_
  obtain ⟨q1, hq1, hf⟩ := bnd hf
  refine hxV_v hx hb hml hown hts hKs hT hb0 hH (As := [.int a_1, .int a_2, .int a_3, .int a_4, .int a_5]) (rest := []) (k_X12_requireHearing l hls E K H.size o a_1 a_2 a_3 a_4 a_5 w ho hq1) (gV m5_187 m5_189 ms_39 m1_1 m5_190) hd_X12_requireHearing ⟨Nat.le_of_ble_eq_true rfl, Nat.le_of_ble_eq_true rfl, rfl, rfl⟩ rfl ho rfl rfl rfl hl.1 rfl rc0 rfl dX12_plan_8 ⟨Nat.le_of_ble_eq_true rfl, Nat.le_of_ble_eq_true rfl⟩ ⟨Nat.le_of_ble_eq_true rfl, Nat.le_of_ble_eq_true rfl⟩ hout hlocks (fun x hx9 => (fun h9 => ⟨(congrArg Prod.fst h9).symm, (congrArg Prod.snd h9).symm⟩) (Option.some.inj ((xk_inr hx9).symm.trans hf))) (fun v2 hv2 H locs hH => ?_)
  replace hf := (xk_inl hv2).symm.trans hf
  refine hl_aload_n hx hb dX12_plan_11 rfl (lv_at hl 0 rfl) ?_
  refine lv_iload_n hx hb dX12_plan_12 rfl (lv_at hl 1 rfl) ?_
  obtain ⟨q3, hq3, hf⟩ := bnd hf
  refine hxV_v hx hb hml hown hts hKs hT hb0 hH (As := [.int a_1]) (rest := []) (k_X12_requireUnfinished l hls E K H.size o a_1 q1.2 ho hq3) (gV m5_191 m5_193 ms_40 m1_1 m5_194) hd_X12_requireUnfinished ⟨Nat.le_of_ble_eq_true rfl, Nat.le_of_ble_eq_true rfl, rfl, rfl⟩ rfl ho rfl rfl rfl hl.1 rfl rc0 rfl dX12_plan_13 ⟨Nat.le_of_ble_eq_true rfl, Nat.le_of_ble_eq_true rfl⟩ ⟨Nat.le_of_ble_eq_true rfl, Nat.le_of_ble_eq_true rfl⟩ hout hlocks (fun x hx9 => (fun h9 => ⟨(congrArg Prod.fst h9).symm, (congrArg Prod.snd h9).symm⟩) (Option.some.inj ((xk_inr hx9).symm.trans hf))) (fun v4 hv4 H locs hH => ?_)
  replace hf := (xk_inl hv4).symm.trans hf
  refine hl_aload_n hx hb dX12_plan_16 rfl (lv_at hl 0 rfl) ?_
  refine g12_11 hx hb hts hown hKs hH rfl ho m2_230 dX12_plan_17 ?_
  refine hl_aload_n hx hb dX12_plan_20 rfl (lv_at hl 0 rfl) ?_
  refine g12_5 hx hb hts hown hKs hH rfl ho m2_224 dX12_plan_21 ?_
  refine lv_iload_n hx hb dX12_plan_24 rfl (lv_at hl 1 rfl) ?_
  refine lv_iload_n hx hb dX12_plan_25 rfl (lv_at hl 2 rfl) ?_
  refine lv_iload_n hx hb dX12_plan_26 rfl (lv_at hl 3 rfl) ?_
  refine lv_iload hx hb dX12_plan_27 (lv_at hl 4 rfl) ?_
  refine lv_iload hx hb dX12_plan_29 (lv_at hl 5 rfl) ?_
  obtain ⟨a5, ha5, hf⟩ := bnd hf
  replace ha5 := chk_some ha5
  obtain ⟨q6, hq6, hf⟩ := bnd hf
  refine hcV_i hx hb hml hown hts hKs hT hb0 hH (As := [rv E (wR q3.2 1205 o), .int a_1, .int a_2, .int a_3, .int a_4, .int a_5]) (rest := []) (k_X6_faultOf l E K H.size a5 (wR q3.2 1205 o) a_1 a_2 a_3 a_4 a_5 q3.2 ha5.2 hq6) (gV m5_210 m5_211 m5_212 m1_14 m5_213) hd_X6_faultOf ⟨Nat.le_of_ble_eq_true rfl, Nat.le_of_ble_eq_true rfl, rfl, rfl⟩ ha5.1 ha5.2 rfl rfl rfl hl.1 rfl rc0 rfl dX12_plan_31 ⟨Nat.le_of_ble_eq_true rfl, Nat.le_of_ble_eq_true rfl⟩ (fun H locs hH => ?_)
  refine lv_if_eq (tgt := 45) hx hb dX12_plan_34 (by decide) (fun c7 => ?_) (fun c7 => ?_)
  · replace hf := (if_pos c7).symm.trans hf
    refine hl_aload_n hx hb dX12_plan_45 rfl (lv_at hl 0 rfl) ?_
    obtain ⟨q8, hq8, hf⟩ := bnd hf
    refine hcV_v hx hb hml hown hts hKs hT hb0 hH (As := []) (rest := []) (k_X12_remember l E K H.size o q6.2 ho hq8) (gV m4_83 m4_85 ms_24 m1_1 m4_86) hd_X12_remember ⟨Nat.le_of_ble_eq_true rfl, Nat.le_of_ble_eq_true rfl, rfl, rfl⟩ rfl ho rfl rfl rfl hl.1 rfl rc0 rfl dX12_plan_46 ⟨Nat.le_of_ble_eq_true rfl, Nat.le_of_ble_eq_true rfl⟩ (fun H locs hH => ?_)
    refine hl_aload_n hx hb dX12_plan_49 rfl (lv_at hl 0 rfl) ?_
    refine g12_5 hx hb hts hown hKs hH rfl ho m2_224 dX12_plan_50 ?_
    obtain ⟨a9, ha9, hf⟩ := bnd hf
    replace ha9 := chk_some ha9
    refine gn10_5 hx hb hts hown hKs hH ha9.1 ha9.2 m2_135 dX12_plan_53 ?_
    refine lv_iload_n hx hb dX12_plan_56 rfl (lv_at hl 1 rfl) ?_
    obtain ⟨a10, ha10, hf⟩ := bnd hf
    replace ha10 := cha_some ha10
    obtain ⟨j11, hj11, hf⟩ := bnd hf
    refine hw_aald27 hx hb hKs hH ha10.1 ha10.2 hj11 dX12_plan_57 ?_
    refine lv_iload_n hx hb dX12_plan_58 rfl (lv_at hl 2 rfl) ?_
    refine lv_iload_n hx hb dX12_plan_59 rfl (lv_at hl 3 rfl) ?_
    refine lv_iload hx hb dX12_plan_60 (lv_at hl 4 rfl) ?_
    refine lv_iload hx hb dX12_plan_62 (lv_at hl 5 rfl) ?_
    obtain ⟨a12, ha12, hf⟩ := bnd hf
    replace ha12 := chk_some ha12
    obtain ⟨q13, hq13, hf⟩ := bnd hf
    refine hcV_v hx hb hml hown hts hKs hT hb0 hH (As := [.int a_2, .int a_3, .int a_4, .int a_5]) (rest := []) (k_X7_setHearing l E K H.size a12 a_2 a_3 a_4 a_5 q8 ha12.2 hq13) (gV m6_65 m4_187 m4_188 m1_13 m4_189) hd_X7_setHearing ⟨Nat.le_of_ble_eq_true rfl, Nat.le_of_ble_eq_true rfl, rfl, rfl⟩ ha12.1 ha12.2 rfl rfl rfl hl.1 rfl rc0 rfl dX12_plan_64 ⟨Nat.le_of_ble_eq_true rfl, Nat.le_of_ble_eq_true rfl⟩ (fun H locs hH => ?_)
    refine hl_aload_n hx hb dX12_plan_67 rfl (lv_at hl 0 rfl) ?_
    refine g12_5 hx hb hts hown hKs hH rfl ho m2_224 dX12_plan_68 ?_
    refine lv_iload_n hx hb dX12_plan_71 rfl (lv_at hl 2 rfl) ?_
    refine lv_iconst (v := 1) hx hb dX12_plan_72 (by decide) ?_
    refine lv_iadd hx hb dX12_plan_73 ?_
    refine hl_aload_n hx hb dX12_plan_74 rfl (lv_at hl 0 rfl) ?_
    refine g12_5 hx hb hts hown hKs hH rfl ho m2_224 dX12_plan_75 ?_
    refine lv_iload_n hx hb dX12_plan_78 rfl (lv_at hl 1 rfl) ?_
    obtain ⟨a14, ha14, hf⟩ := bnd hf
    replace ha14 := chk_some ha14
    obtain ⟨q15, hq15, hf⟩ := bnd hf
    refine hcV_i hx hb hml hown hts hKs hT hb0 hH (As := [.int a_1]) (rest := [.int ((a_2 + 1)), rv E (wR q13 1205 o)]) (k_X10_limitDay l E K H.size a14 a_1 q13 ha14.2 hq15) (gV m5_146 m4_67 m4_68 m1_12 m4_69) hd_X10_limitDay ⟨Nat.le_of_ble_eq_true rfl, Nat.le_of_ble_eq_true rfl, rfl, rfl⟩ ha14.1 ha14.2 rfl rfl rfl hl.1 rfl (rcI (rcV rc0)) rfl dX12_plan_79 ⟨Nat.le_of_ble_eq_true rfl, Nat.le_of_ble_eq_true rfl⟩ (fun H locs hH => ?_)
    obtain ⟨q16, hq16, hf⟩ := bnd hf
    refine hcV_i hx hb hml hown hts hKs hT hb0 hH (As := [.int ((a_2 + 1)), .int (q15.1)]) (rest := []) (k_X10_countWorking l E K H.size a14 (a_2 + 1) q15.1 q15.2 ha14.2 hq16) (gV m5_71 m4_76 m4_77 m1_12 m4_78) hd_X10_countWorking ⟨Nat.le_of_ble_eq_true rfl, Nat.le_of_ble_eq_true rfl, rfl, rfl⟩ ha14.1 ha14.2 rfl rfl rfl hl.1 rfl rc0 rfl dX12_plan_82 ⟨Nat.le_of_ble_eq_true rfl, Nat.le_of_ble_eq_true rfl⟩ (fun H locs hH => ?_)
    exact hx_iret hx hb (Nat.le_of_ble_eq_true rfl) (Nat.le_of_ble_eq_true rfl) hret hf hH hlocks dX12_plan_85
  · replace hf := (if_neg c7).symm.trans hf
    exact hx_throw hx hb hls (code := 3) hml hl.1 hown hts hKs hT hb0 hH (by decide) rfl m5_195 m1_29 hat_RX12_333 dX12_plan_37 dX12_plan_40 dX12_plan_41 dX12_plan_44 hout (Nat.le_of_ble_eq_true rfl) rc0 (Nat.le_of_ble_eq_true rfl) (Nat.le_of_ble_eq_true rfl) (Nat.le_of_ble_eq_true rfl) hlocks hf (Nat.le_of_ble_eq_true rfl) (Nat.le_of_ble_eq_true rfl)
end
