section
variable {p : Program} {l : Launch} {e : Env} {s : State} {m : MethodId} {args : Array Value} {below : List Frame} {meth : Method} {c : Code} {E : Ev} {K : Kd} {z : Nat}

theorem dX8_begin_0 : decode cX8_begin 0 = .ok (.aload_n 0, 1) := by decide +kernel
theorem dX8_begin_1 : decode cX8_begin 1 = .ok (.aload_n 1, 1) := by decide +kernel
theorem dX8_begin_2 : decode cX8_begin 2 = .ok (.putfield 9, 3) := by decide +kernel
theorem dX8_begin_5 : decode cX8_begin 5 = .ok (.aload_n 0, 1) := by decide +kernel
theorem dX8_begin_6 : decode cX8_begin 6 = .ok (.iload_n 2, 1) := by decide +kernel
theorem dX8_begin_7 : decode cX8_begin 7 = .ok (.aload_n 1, 1) := by decide +kernel
theorem dX8_begin_8 : decode cX8_begin 8 = .ok (.arraylength, 1) := by decide +kernel
theorem dX8_begin_9 : decode cX8_begin 9 = .ok (.invokestatic 24, 3) := by decide +kernel
theorem dX8_begin_12 : decode cX8_begin 12 = .ok (.putfield 30, 3) := by decide +kernel
theorem dX8_begin_15 : decode cX8_begin 15 = .ok (.aload_n 0, 1) := by decide +kernel
theorem dX8_begin_16 : decode cX8_begin 16 = .ok (.iconst 0, 1) := by decide +kernel
theorem dX8_begin_17 : decode cX8_begin 17 = .ok (.putfield 34, 3) := by decide +kernel
theorem dX8_begin_20 : decode cX8_begin 20 = .ok (.aload_n 0, 1) := by decide +kernel
theorem dX8_begin_21 : decode cX8_begin 21 = .ok (.invokevirtual 37, 3) := by decide +kernel
theorem dX8_begin_24 : decode cX8_begin 24 = .ok (.return_, 1) := by decide +kernel
theorem hd_X8_begin : yX8_begin.cls = RX8 ∧ yX8_begin.cls ≠ "java/lang/invoke/MethodHandle" ∧ yX8_begin.cls ≠ "java/lang/invoke/VarHandle" ∧ (parseMethodDescriptor yX8_begin.desc).map (fun d => d.parameters.length) = some 2 := by decide +kernel
theorem hs_X8_begin : yX8_begin.cls ≠ "java/lang/invoke/MethodHandle" ∧ yX8_begin.cls ≠ "java/lang/invoke/VarHandle" ∧ (parseMethodDescriptor yX8_begin.desc).map (fun d => d.parameters.length) = some 2 := by decide +kernel
set_option maxHeartbeats 4000000 in
set_option maxRecDepth 100000 in
theorem k_X8_begin (l : Launch) (E : Ev) (K : Kd) (z : Nat) (o : Nat) (a_1 : Option Nat) (a_2 : Int32) (w : Wd) (ho : K o = some (7, 0)) {w' : Wd} (hf : f_X8_begin K o a_1 a_2 w = some w') : Met l yX8_begin (Cond.code yX8_begin cX8_begin 3 (Option.none : Option Jvm.ClassFile.FieldType) :: bt) ({ frames := 2, cells := 0, slots := 0, locals := 42 } : Room) (va_Pc [rv E (some o), rv E a_1, .int a_2] (HB E K w z)) (QV E K z w') 0 0 (hA E) := by
  refine Met.ofW (cc := cX8_begin) (maxL := 3) (ret := (Option.none : Option Jvm.ClassFile.FieldType)) (by decide) rfl ?_
  intro p e s m args below meth c s₁ B hml hv
  obtain ⟨rfl, hz, hP, hKs, hT, hb0⟩ := hv
  have C : CX p l e s m _ meth c cX8_begin 3 RX8 (Option.none : Option Jvm.ClassFile.FieldType) E := ⟨B.exec, B.bytes, hml, findClass_of_methodNamed B.named, fun w h => atoms_spec (ws := Cond.code yX8_begin cX8_begin 3 (Option.none : Option Jvm.ClassFile.FieldType) :: bt) B.pre w (List.mem_cons_of_mem _ h), hKs, hT, by rw [hz]; exact hb0, B.notSynchronized, B.returns⟩
  have hH : HQ E K z w s s.heap [] := ⟨hP, va_S.rf, hz⟩
  obtain ⟨hx, hb, hml, hown, hts, hKs, hT, hb0, hlocks, hret⟩ := id C
  have hl := lv_entry [rv E (some o), rv E a_1, .int a_2] (n := 3) (by simp [lg_len_nil, lg_len_i, lg_len_j, lg_len_q, lg_len_f, lg_len_d, lg_len_r])
  rw [lg_entry_eq]
  generalize (lg_sl [rv E (some o), rv E a_1, .int a_2] ++ List.replicate (3 - (lg_sl [rv E (some o), rv E a_1, .int a_2]).length) Slot.unset).toArray = ls at hl ⊢
  replace hl : lv_has ls 3 [(0, rv E (some o)), (1, rv E a_1), (2, .int a_2)] := by simpa only [lv_args, cat_q, cat_i, cat_j, reduceIte, Nat.reduceEqDiff, Nat.reduceAdd, Nat.zero_add] using hl
  generalize s.heap = H at hH ⊢
  unfold f_X8_begin at hf
  refine hl_aload_n hx hb dX8_begin_0 rfl (lv_at hl 0 rfl) ?_
  refine hl_aload_n hx hb dX8_begin_1 rfl (lv_at hl 1 rfl) ?_
  obtain ⟨w1, hw1, hf⟩ := bnd hf
  replace hw1 := Option.some.inj hw1
  refine p8_0 (v := a_1) hx hb hts hown hKs hH rfl ho m2_1 dX8_begin_2 (fun H locs hH => ?_)
  rw [hw1] at hH
  refine hl_aload_n hx hb dX8_begin_5 rfl (lv_at hl 0 rfl) ?_
  refine lv_iload_n hx hb dX8_begin_6 rfl (lv_at hl 2 rfl) ?_
  refine hl_aload_n hx hb dX8_begin_7 rfl (lv_at hl 1 rfl) ?_
  obtain ⟨a2, ha2, hf⟩ := bnd hf
  replace ha2 := cha_some ha2
  refine hw_alen21 hx hb hKs hH ha2.1 ha2.2 dX8_begin_8 ?_
  refine va_mmin hx hb (hml.trans hl.1.symm) hown (hts _ m3_53) (hts _ m3_54) (hts _ m1_5) (hts _ m3_55) (Nat.le_of_ble_eq_true rfl) (Nat.le_trans (Nat.add_le_add_right (show rc 8 [rv E (some o)] from (rcV rc0)) 13) (Nat.le_of_ble_eq_true rfl)) (Nat.le_of_ble_eq_true rfl) (Nat.le_of_ble_eq_true rfl) dX8_begin_9 ?_
  obtain ⟨w3, hw3, hf⟩ := bnd hf
  replace hw3 := Option.some.inj hw3
  refine p8_1 (v := (imin a_2 (nI a2.2))) hx hb hts hown hKs hH rfl ho m2_2 dX8_begin_12 (fun H locs hH => ?_)
  rw [hw3] at hH
  refine hl_aload_n hx hb dX8_begin_15 rfl (lv_at hl 0 rfl) ?_
  refine lv_iconst (v := 0) hx hb dX8_begin_16 (by decide) ?_
  obtain ⟨w4, hw4, hf⟩ := bnd hf
  replace hw4 := Option.some.inj hw4
  refine p8_3 (v := 0) hx hb hts hown hKs hH rfl ho m2_5 dX8_begin_17 (fun H locs hH => ?_)
  rw [hw4] at hH
  refine hl_aload_n hx hb dX8_begin_20 rfl (lv_at hl 0 rfl) ?_
  obtain ⟨q5, hq5, hf⟩ := bnd hf
  refine hcV_v hx hb hml hown hts hKs hT hb0 hH (As := []) (rest := []) (k_X8_advance l E K H.size o w4 ho hq5) (gV m3_56 m3_57 m3_58 m1_9 m3_59) hd_X8_advance ⟨Nat.le_of_ble_eq_true rfl, Nat.le_of_ble_eq_true rfl, rfl, rfl⟩ rfl ho rfl rfl rfl hl.1 rfl rc0 rfl dX8_begin_21 ⟨Nat.zero_le _, Nat.zero_le _⟩ (fun H locs hH => ?_)
  exact hw_vret hx hb hret hf hH hlocks dX8_begin_24

theorem dX9_init_0 : decode cX9_init 0 = .ok (.aload_n 0, 1) := by decide +kernel
theorem dX9_init_1 : decode cX9_init 1 = .ok (.invokespecial 3, 3) := by decide +kernel
theorem dX9_init_4 : decode cX9_init 4 = .ok (.aload_n 0, 1) := by decide +kernel
theorem dX9_init_5 : decode cX9_init 5 = .ok (.iconst 4, 1) := by decide +kernel
theorem dX9_init_6 : decode cX9_init 6 = .ok (.anewarray 9, 3) := by decide +kernel
theorem dX9_init_9 : decode cX9_init 9 = .ok (.putfield 11, 3) := by decide +kernel
theorem dX9_init_12 : decode cX9_init 12 = .ok (.aload_n 0, 1) := by decide +kernel
theorem dX9_init_13 : decode cX9_init 13 = .ok (.iconst 3, 1) := by decide +kernel
theorem dX9_init_14 : decode cX9_init 14 = .ok (.newarray .int, 2) := by decide +kernel
theorem dX9_init_16 : decode cX9_init 16 = .ok (.putfield 17, 3) := by decide +kernel
theorem dX9_init_19 : decode cX9_init 19 = .ok (.aload_n 0, 1) := by decide +kernel
theorem dX9_init_20 : decode cX9_init 20 = .ok (.bipush 6, 2) := by decide +kernel
theorem dX9_init_22 : decode cX9_init 22 = .ok (.newarray .int, 2) := by decide +kernel
theorem dX9_init_24 : decode cX9_init 24 = .ok (.putfield 21, 3) := by decide +kernel
theorem dX9_init_27 : decode cX9_init 27 = .ok (.aload_n 0, 1) := by decide +kernel
theorem dX9_init_28 : decode cX9_init 28 = .ok (.bipush 18, 2) := by decide +kernel
theorem dX9_init_30 : decode cX9_init 30 = .ok (.newarray .int, 2) := by decide +kernel
theorem dX9_init_32 : decode cX9_init 32 = .ok (.putfield 24, 3) := by decide +kernel
theorem dX9_init_35 : decode cX9_init 35 = .ok (.aload_n 0, 1) := by decide +kernel
theorem dX9_init_36 : decode cX9_init 36 = .ok (.bipush 18, 2) := by decide +kernel
theorem dX9_init_38 : decode cX9_init 38 = .ok (.newarray .int, 2) := by decide +kernel
theorem dX9_init_40 : decode cX9_init 40 = .ok (.putfield 27, 3) := by decide +kernel
theorem dX9_init_43 : decode cX9_init 43 = .ok (.aload_n 0, 1) := by decide +kernel
theorem dX9_init_44 : decode cX9_init 44 = .ok (.bipush 12, 2) := by decide +kernel
theorem dX9_init_46 : decode cX9_init 46 = .ok (.newarray .int, 2) := by decide +kernel
theorem dX9_init_48 : decode cX9_init 48 = .ok (.putfield 30, 3) := by decide +kernel
theorem dX9_init_51 : decode cX9_init 51 = .ok (.aload_n 0, 1) := by decide +kernel
theorem dX9_init_52 : decode cX9_init 52 = .ok (.bipush 12, 2) := by decide +kernel
theorem dX9_init_54 : decode cX9_init 54 = .ok (.newarray .int, 2) := by decide +kernel
theorem dX9_init_56 : decode cX9_init 56 = .ok (.putfield 33, 3) := by decide +kernel
theorem dX9_init_59 : decode cX9_init 59 = .ok (.aload_n 0, 1) := by decide +kernel
theorem dX9_init_60 : decode cX9_init 60 = .ok (.bipush 12, 2) := by decide +kernel
theorem dX9_init_62 : decode cX9_init 62 = .ok (.newarray .int, 2) := by decide +kernel
theorem dX9_init_64 : decode cX9_init 64 = .ok (.putfield 36, 3) := by decide +kernel
theorem dX9_init_67 : decode cX9_init 67 = .ok (.aload_n 0, 1) := by decide +kernel
theorem dX9_init_68 : decode cX9_init 68 = .ok (.bipush 12, 2) := by decide +kernel
theorem dX9_init_70 : decode cX9_init 70 = .ok (.newarray .int, 2) := by decide +kernel
theorem dX9_init_72 : decode cX9_init 72 = .ok (.putfield 39, 3) := by decide +kernel
theorem dX9_init_75 : decode cX9_init 75 = .ok (.aload_n 0, 1) := by decide +kernel
theorem dX9_init_76 : decode cX9_init 76 = .ok (.bipush 12, 2) := by decide +kernel
theorem dX9_init_78 : decode cX9_init 78 = .ok (.anewarray 42, 3) := by decide +kernel
theorem dX9_init_81 : decode cX9_init 81 = .ok (.putfield 44, 3) := by decide +kernel
theorem dX9_init_84 : decode cX9_init 84 = .ok (.aload_n 0, 1) := by decide +kernel
theorem dX9_init_85 : decode cX9_init 85 = .ok (.new 48, 3) := by decide +kernel
theorem dX9_init_88 : decode cX9_init 88 = .ok (.dup, 1) := by decide +kernel
theorem dX9_init_89 : decode cX9_init 89 = .ok (.invokespecial 50, 3) := by decide +kernel
theorem dX9_init_92 : decode cX9_init 92 = .ok (.putfield 51, 3) := by decide +kernel
theorem dX9_init_95 : decode cX9_init 95 = .ok (.aload_n 0, 1) := by decide +kernel
theorem dX9_init_96 : decode cX9_init 96 = .ok (.iconst 4, 1) := by decide +kernel
theorem dX9_init_97 : decode cX9_init 97 = .ok (.newarray .int, 2) := by decide +kernel
theorem dX9_init_99 : decode cX9_init 99 = .ok (.putfield 55, 3) := by decide +kernel
theorem dX9_init_102 : decode cX9_init 102 = .ok (.aload_n 0, 1) := by decide +kernel
theorem dX9_init_103 : decode cX9_init 103 = .ok (.getfield 11, 3) := by decide +kernel
theorem dX9_init_106 : decode cX9_init 106 = .ok (.iconst 0, 1) := by decide +kernel
theorem dX9_init_107 : decode cX9_init 107 = .ok (.new 9, 3) := by decide +kernel
theorem dX9_init_110 : decode cX9_init 110 = .ok (.dup, 1) := by decide +kernel
theorem dX9_init_111 : decode cX9_init 111 = .ok (.iconst 3, 1) := by decide +kernel
theorem dX9_init_112 : decode cX9_init 112 = .ok (.invokespecial 58, 3) := by decide +kernel
theorem dX9_init_115 : decode cX9_init 115 = .ok (.aastore, 1) := by decide +kernel
theorem dX9_init_116 : decode cX9_init 116 = .ok (.aload_n 0, 1) := by decide +kernel
theorem dX9_init_117 : decode cX9_init 117 = .ok (.getfield 11, 3) := by decide +kernel
theorem dX9_init_120 : decode cX9_init 120 = .ok (.iconst 1, 1) := by decide +kernel
theorem dX9_init_121 : decode cX9_init 121 = .ok (.new 9, 3) := by decide +kernel
theorem dX9_init_124 : decode cX9_init 124 = .ok (.dup, 1) := by decide +kernel
theorem dX9_init_125 : decode cX9_init 125 = .ok (.bipush 6, 2) := by decide +kernel
theorem dX9_init_127 : decode cX9_init 127 = .ok (.invokespecial 58, 3) := by decide +kernel
theorem dX9_init_130 : decode cX9_init 130 = .ok (.aastore, 1) := by decide +kernel
theorem dX9_init_131 : decode cX9_init 131 = .ok (.aload_n 0, 1) := by decide +kernel
theorem dX9_init_132 : decode cX9_init 132 = .ok (.getfield 11, 3) := by decide +kernel
theorem dX9_init_135 : decode cX9_init 135 = .ok (.iconst 2, 1) := by decide +kernel
theorem dX9_init_136 : decode cX9_init 136 = .ok (.new 9, 3) := by decide +kernel
theorem dX9_init_139 : decode cX9_init 139 = .ok (.dup, 1) := by decide +kernel
theorem dX9_init_140 : decode cX9_init 140 = .ok (.bipush 12, 2) := by decide +kernel
theorem dX9_init_142 : decode cX9_init 142 = .ok (.invokespecial 58, 3) := by decide +kernel
theorem dX9_init_145 : decode cX9_init 145 = .ok (.aastore, 1) := by decide +kernel
theorem dX9_init_146 : decode cX9_init 146 = .ok (.aload_n 0, 1) := by decide +kernel
theorem dX9_init_147 : decode cX9_init 147 = .ok (.getfield 11, 3) := by decide +kernel
theorem dX9_init_150 : decode cX9_init 150 = .ok (.iconst 3, 1) := by decide +kernel
theorem dX9_init_151 : decode cX9_init 151 = .ok (.new 9, 3) := by decide +kernel
theorem dX9_init_154 : decode cX9_init 154 = .ok (.dup, 1) := by decide +kernel
theorem dX9_init_155 : decode cX9_init 155 = .ok (.bipush 12, 2) := by decide +kernel
theorem dX9_init_157 : decode cX9_init 157 = .ok (.invokespecial 58, 3) := by decide +kernel
theorem dX9_init_160 : decode cX9_init 160 = .ok (.aastore, 1) := by decide +kernel
theorem dX9_init_161 : decode cX9_init 161 = .ok (.iconst 0, 1) := by decide +kernel
theorem dX9_init_162 : decode cX9_init 162 = .ok (.istore_n 1, 1) := by decide +kernel
theorem dX9_init_163 : decode cX9_init 163 = .ok (.iload_n 1, 1) := by decide +kernel
theorem dX9_init_164 : decode cX9_init 164 = .ok (.bipush 12, 2) := by decide +kernel
theorem dX9_init_166 : decode cX9_init 166 = .ok (.if_icmp .ge 22, 3) := by decide +kernel
theorem dX9_init_169 : decode cX9_init 169 = .ok (.aload_n 0, 1) := by decide +kernel
theorem dX9_init_170 : decode cX9_init 170 = .ok (.getfield 44, 3) := by decide +kernel
theorem dX9_init_173 : decode cX9_init 173 = .ok (.iload_n 1, 1) := by decide +kernel
theorem dX9_init_174 : decode cX9_init 174 = .ok (.new 42, 3) := by decide +kernel
theorem dX9_init_177 : decode cX9_init 177 = .ok (.dup, 1) := by decide +kernel
theorem dX9_init_178 : decode cX9_init 178 = .ok (.invokespecial 61, 3) := by decide +kernel
theorem dX9_init_181 : decode cX9_init 181 = .ok (.aastore, 1) := by decide +kernel
theorem dX9_init_182 : decode cX9_init 182 = .ok (.iinc 1 1, 3) := by decide +kernel
theorem dX9_init_185 : decode cX9_init 185 = .ok (.goto (-22), 3) := by decide +kernel
theorem dX9_init_188 : decode cX9_init 188 = .ok (.aload_n 0, 1) := by decide +kernel
theorem dX9_init_189 : decode cX9_init 189 = .ok (.invokevirtual 62, 3) := by decide +kernel
theorem dX9_init_192 : decode cX9_init 192 = .ok (.return_, 1) := by decide +kernel
theorem hd_X9_init : yX9_init.cls = RX9 ∧ yX9_init.cls ≠ "java/lang/invoke/MethodHandle" ∧ yX9_init.cls ≠ "java/lang/invoke/VarHandle" ∧ (parseMethodDescriptor yX9_init.desc).map (fun d => d.parameters.length) = some 0 := by decide +kernel
theorem hs_X9_init : yX9_init.cls ≠ "java/lang/invoke/MethodHandle" ∧ yX9_init.cls ≠ "java/lang/invoke/VarHandle" ∧ (parseMethodDescriptor yX9_init.desc).map (fun d => d.parameters.length) = some 0 := by decide +kernel
set_option maxHeartbeats 4000000 in
set_option maxRecDepth 100000 in
theorem k_X9_init (l : Launch) (E : Ev) (K : Kd) (n : Nat) (o : Nat) (w : Wd) {K' : Kd} {n' : Nat} {w' : Wd} (hf : f_X9_init K n o w = some (K', n', w')) : Met l yX9_init (Cond.code yX9_init cX9_init 2 (Option.none : Option Jvm.ClassFile.FieldType) :: bt) ({ frames := 3, cells := 33, slots := 274, locals := 64 } : Room) (va_Pc [rv E (some o)] (HB E K w (E.2.1 + n))) (QV E K' (E.2.1 + n') w') 33 274 (hA E) := by
  refine Met.ofW (cc := cX9_init) (maxL := 2) (ret := (Option.none : Option Jvm.ClassFile.FieldType)) (by decide) rfl ?_
  intro p e s m args below meth c s₁ B hml hv
  have hn2 : meth.name = "<init>" := (name_of_methodNamed B.named B.method).1
  obtain ⟨rfl, hz, hP, hKs, hT, hb0⟩ := hv
  have C : CX p l e s m _ meth c cX9_init 2 RX9 (Option.none : Option Jvm.ClassFile.FieldType) E := ⟨B.exec, B.bytes, hml, findClass_of_methodNamed B.named, fun w h => atoms_spec (ws := Cond.code yX9_init cX9_init 2 (Option.none : Option Jvm.ClassFile.FieldType) :: bt) B.pre w (List.mem_cons_of_mem _ h), hKs, hT, by rw [hz]; exact hb0, B.notSynchronized, B.returns⟩
  have hH : HQ E K (E.2.1 + n) w s s.heap [] := ⟨hP, va_S.rf, hz⟩
  obtain ⟨hx, hb, hml, hown, hts, hKs, hT, hb0, hlocks, hret⟩ := id C
  have hl := lv_entry [rv E (some o)] (n := 2) (by simp [lg_len_nil, lg_len_i, lg_len_j, lg_len_q, lg_len_f, lg_len_d, lg_len_r])
  rw [lg_entry_eq]
  generalize (lg_sl [rv E (some o)] ++ List.replicate (2 - (lg_sl [rv E (some o)]).length) Slot.unset).toArray = ls at hl ⊢
  replace hl : lv_has ls 2 [(0, rv E (some o))] := by simpa only [lv_args, cat_q, cat_i, cat_j, reduceIte, Nat.reduceEqDiff, Nat.reduceAdd, Nat.zero_add] using hl
  generalize s.heap = H at hH ⊢
  unfold f_X9_init at hf
  refine hl_aload_n hx hb dX9_init_0 rfl (lv_at hl 0 rfl) ?_
  refine hw_obj hx hb hml hl.1 hown hts m1_44 m1_37 m1_38 dX9_init_1 (Nat.le_of_ble_eq_true rfl) (Nat.le_of_ble_eq_true rfl) ?_
  refine hl_aload_n hx hb dX9_init_4 rfl (lv_at hl 0 rfl) ?_
  refine lv_iconst (v := 4) hx hb dX9_init_5 (by decide) ?_
  refine hw_newq26 (N := 4) hx hb hts hown m1_45 (va_AO.use (hKs.2.2.2.2.2 _ (by decide))) hKs hH (by decide) (by decide) (Nat.le_of_ble_eq_true rfl) (Nat.le_of_ble_eq_true rfl) (Nat.le_of_ble_eq_true rfl) dX9_init_6 (fun H hH => ?_)
  obtain ⟨K1, hK1, hf⟩ := bnd hf
  replace hK1 := Option.some.inj hK1
  obtain ⟨w2, hw2, hf⟩ := bnd hf
  replace hw2 := Option.some.inj hw2
  rw [hK1, hw2] at hH
  obtain ⟨a3, ha3, hf⟩ := bnd hf
  replace ha3 := chk_some ha3
  obtain ⟨w4, hw4, hf⟩ := bnd hf
  replace hw4 := Option.some.inj hw4
  refine pf9_0 (v := (some n)) hx hb hts hown hKs hH ha3.1 ha3.2 hn2 m1_150 dX9_init_9 (fun H locs hH => ?_)
  rw [hw4] at hH
  refine hl_aload_n hx hb dX9_init_12 rfl (lv_at hl 0 rfl) ?_
  refine lv_iconst (v := 3) hx hb dX9_init_13 (by decide) ?_
  refine hw_newa20 (N := 3) hx hb hts m1_64 hKs hH (by decide) (by decide) (Nat.le_of_ble_eq_true rfl) (Nat.le_of_ble_eq_true rfl) (Nat.le_of_ble_eq_true rfl) dX9_init_14 (fun H hH => ?_)
  obtain ⟨K5, hK5, hf⟩ := bnd hf
  replace hK5 := Option.some.inj hK5
  obtain ⟨w6, hw6, hf⟩ := bnd hf
  replace hw6 := Option.some.inj hw6
  rw [hK5, hw6] at hH
  obtain ⟨a7, ha7, hf⟩ := bnd hf
  replace ha7 := chk_some ha7
  obtain ⟨w8, hw8, hf⟩ := bnd hf
  replace hw8 := Option.some.inj hw8
  refine pf9_1 (v := (some (n + 1))) hx hb hts hown hKs hH ha7.1 ha7.2 hn2 m1_153 dX9_init_16 (fun H locs hH => ?_)
  rw [hw8] at hH
  refine hl_aload_n hx hb dX9_init_19 rfl (lv_at hl 0 rfl) ?_
  refine lv_bipush (v := 6) hx hb dX9_init_20 (by decide) ?_
  refine hw_newa20 (N := 6) hx hb hts m1_64 hKs hH (by decide) (by decide) (Nat.le_of_ble_eq_true rfl) (Nat.le_of_ble_eq_true rfl) (Nat.le_of_ble_eq_true rfl) dX9_init_22 (fun H hH => ?_)
  obtain ⟨K9, hK9, hf⟩ := bnd hf
  replace hK9 := Option.some.inj hK9
  obtain ⟨w10, hw10, hf⟩ := bnd hf
  replace hw10 := Option.some.inj hw10
  rw [hK9, hw10] at hH
  obtain ⟨a11, ha11, hf⟩ := bnd hf
  replace ha11 := chk_some ha11
  obtain ⟨w12, hw12, hf⟩ := bnd hf
  replace hw12 := Option.some.inj hw12
  refine pf9_2 (v := (some ((n + 1) + 1))) hx hb hts hown hKs hH ha11.1 ha11.2 hn2 m1_157 dX9_init_24 (fun H locs hH => ?_)
  rw [hw12] at hH
  refine hl_aload_n hx hb dX9_init_27 rfl (lv_at hl 0 rfl) ?_
  refine lv_bipush (v := 18) hx hb dX9_init_28 (by decide) ?_
  refine hw_newa20 (N := 18) hx hb hts m1_64 hKs hH (by decide) (by decide) (Nat.le_of_ble_eq_true rfl) (Nat.le_of_ble_eq_true rfl) (Nat.le_of_ble_eq_true rfl) dX9_init_30 (fun H hH => ?_)
  obtain ⟨K13, hK13, hf⟩ := bnd hf
  replace hK13 := Option.some.inj hK13
  obtain ⟨w14, hw14, hf⟩ := bnd hf
  replace hw14 := Option.some.inj hw14
  rw [hK13, hw14] at hH
  obtain ⟨a15, ha15, hf⟩ := bnd hf
  replace ha15 := chk_some ha15
  obtain ⟨w16, hw16, hf⟩ := bnd hf
  replace hw16 := Option.some.inj hw16
  refine pf9_3 (v := (some (((n + 1) + 1) + 1))) hx hb hts hown hKs hH ha15.1 ha15.2 hn2 m1_158 dX9_init_32 (fun H locs hH => ?_)
  rw [hw16] at hH
  refine hl_aload_n hx hb dX9_init_35 rfl (lv_at hl 0 rfl) ?_
  refine lv_bipush (v := 18) hx hb dX9_init_36 (by decide) ?_
  refine hw_newa20 (N := 18) hx hb hts m1_64 hKs hH (by decide) (by decide) (Nat.le_of_ble_eq_true rfl) (Nat.le_of_ble_eq_true rfl) (Nat.le_of_ble_eq_true rfl) dX9_init_38 (fun H hH => ?_)
  obtain ⟨K17, hK17, hf⟩ := bnd hf
  replace hK17 := Option.some.inj hK17
  obtain ⟨w18, hw18, hf⟩ := bnd hf
  replace hw18 := Option.some.inj hw18
  rw [hK17, hw18] at hH
  obtain ⟨a19, ha19, hf⟩ := bnd hf
  replace ha19 := chk_some ha19
  obtain ⟨w20, hw20, hf⟩ := bnd hf
  replace hw20 := Option.some.inj hw20
  refine pf9_4 (v := (some ((((n + 1) + 1) + 1) + 1))) hx hb hts hown hKs hH ha19.1 ha19.2 hn2 m1_159 dX9_init_40 (fun H locs hH => ?_)
  rw [hw20] at hH
  refine hl_aload_n hx hb dX9_init_43 rfl (lv_at hl 0 rfl) ?_
  refine lv_bipush (v := 12) hx hb dX9_init_44 (by decide) ?_
  refine hw_newa20 (N := 12) hx hb hts m1_64 hKs hH (by decide) (by decide) (Nat.le_of_ble_eq_true rfl) (Nat.le_of_ble_eq_true rfl) (Nat.le_of_ble_eq_true rfl) dX9_init_46 (fun H hH => ?_)
  obtain ⟨K21, hK21, hf⟩ := bnd hf
  replace hK21 := Option.some.inj hK21
  obtain ⟨w22, hw22, hf⟩ := bnd hf
  replace hw22 := Option.some.inj hw22
  rw [hK21, hw22] at hH
  obtain ⟨a23, ha23, hf⟩ := bnd hf
  replace ha23 := chk_some ha23
  obtain ⟨w24, hw24, hf⟩ := bnd hf
  replace hw24 := Option.some.inj hw24
  refine pf9_5 (v := (some (((((n + 1) + 1) + 1) + 1) + 1))) hx hb hts hown hKs hH ha23.1 ha23.2 hn2 m1_160 dX9_init_48 (fun H locs hH => ?_)
  rw [hw24] at hH
  refine hl_aload_n hx hb dX9_init_51 rfl (lv_at hl 0 rfl) ?_
  refine lv_bipush (v := 12) hx hb dX9_init_52 (by decide) ?_
  refine hw_newa20 (N := 12) hx hb hts m1_64 hKs hH (by decide) (by decide) (Nat.le_of_ble_eq_true rfl) (Nat.le_of_ble_eq_true rfl) (Nat.le_of_ble_eq_true rfl) dX9_init_54 (fun H hH => ?_)
  obtain ⟨K25, hK25, hf⟩ := bnd hf
  replace hK25 := Option.some.inj hK25
  obtain ⟨w26, hw26, hf⟩ := bnd hf
  replace hw26 := Option.some.inj hw26
  rw [hK25, hw26] at hH
  obtain ⟨a27, ha27, hf⟩ := bnd hf
  replace ha27 := chk_some ha27
  obtain ⟨w28, hw28, hf⟩ := bnd hf
  replace hw28 := Option.some.inj hw28
  refine pf9_6 (v := (some ((((((n + 1) + 1) + 1) + 1) + 1) + 1))) hx hb hts hown hKs hH ha27.1 ha27.2 hn2 m1_164 dX9_init_56 (fun H locs hH => ?_)
  rw [hw28] at hH
  refine hl_aload_n hx hb dX9_init_59 rfl (lv_at hl 0 rfl) ?_
  refine lv_bipush (v := 12) hx hb dX9_init_60 (by decide) ?_
  refine hw_newa20 (N := 12) hx hb hts m1_64 hKs hH (by decide) (by decide) (Nat.le_of_ble_eq_true rfl) (Nat.le_of_ble_eq_true rfl) (Nat.le_of_ble_eq_true rfl) dX9_init_62 (fun H hH => ?_)
  obtain ⟨K29, hK29, hf⟩ := bnd hf
  replace hK29 := Option.some.inj hK29
  obtain ⟨w30, hw30, hf⟩ := bnd hf
  replace hw30 := Option.some.inj hw30
  rw [hK29, hw30] at hH
  obtain ⟨a31, ha31, hf⟩ := bnd hf
  replace ha31 := chk_some ha31
  obtain ⟨w32, hw32, hf⟩ := bnd hf
  replace hw32 := Option.some.inj hw32
  refine pf9_7 (v := (some (((((((n + 1) + 1) + 1) + 1) + 1) + 1) + 1))) hx hb hts hown hKs hH ha31.1 ha31.2 hn2 m1_167 dX9_init_64 (fun H locs hH => ?_)
  rw [hw32] at hH
  refine hl_aload_n hx hb dX9_init_67 rfl (lv_at hl 0 rfl) ?_
  refine lv_bipush (v := 12) hx hb dX9_init_68 (by decide) ?_
  refine hw_newa20 (N := 12) hx hb hts m1_64 hKs hH (by decide) (by decide) (Nat.le_of_ble_eq_true rfl) (Nat.le_of_ble_eq_true rfl) (Nat.le_of_ble_eq_true rfl) dX9_init_70 (fun H hH => ?_)
  obtain ⟨K33, hK33, hf⟩ := bnd hf
  replace hK33 := Option.some.inj hK33
  obtain ⟨w34, hw34, hf⟩ := bnd hf
  replace hw34 := Option.some.inj hw34
  rw [hK33, hw34] at hH
  obtain ⟨a35, ha35, hf⟩ := bnd hf
  replace ha35 := chk_some ha35
  obtain ⟨w36, hw36, hf⟩ := bnd hf
  replace hw36 := Option.some.inj hw36
  refine pf9_8 (v := (some ((((((((n + 1) + 1) + 1) + 1) + 1) + 1) + 1) + 1))) hx hb hts hown hKs hH ha35.1 ha35.2 hn2 m1_171 dX9_init_72 (fun H locs hH => ?_)
  rw [hw36] at hH
  refine hl_aload_n hx hb dX9_init_75 rfl (lv_at hl 0 rfl) ?_
  refine lv_bipush (v := 12) hx hb dX9_init_76 (by decide) ?_
  refine hw_newq25 (N := 12) hx hb hts hown m1_47 (va_AO.use (hKs.2.2.2.2.2 _ (by decide))) hKs hH (by decide) (by decide) (Nat.le_of_ble_eq_true rfl) (Nat.le_of_ble_eq_true rfl) (Nat.le_of_ble_eq_true rfl) dX9_init_78 (fun H hH => ?_)
  obtain ⟨K37, hK37, hf⟩ := bnd hf
  replace hK37 := Option.some.inj hK37
  obtain ⟨w38, hw38, hf⟩ := bnd hf
  replace hw38 := Option.some.inj hw38
  rw [hK37, hw38] at hH
  obtain ⟨a39, ha39, hf⟩ := bnd hf
  replace ha39 := chk_some ha39
  obtain ⟨w40, hw40, hf⟩ := bnd hf
  replace hw40 := Option.some.inj hw40
  refine pf9_9 (v := (some (((((((((n + 1) + 1) + 1) + 1) + 1) + 1) + 1) + 1) + 1))) hx hb hts hown hKs hH ha39.1 ha39.2 hn2 m1_175 dX9_init_81 (fun H locs hH => ?_)
  rw [hw40] at hH
  refine hl_aload_n hx hb dX9_init_84 rfl (lv_at hl 0 rfl) ?_
  refine hw_new (ci := 1) (C := RX2) (T := TX2) (N := 2) hx hb hts iX2 tyX2 tyX2_ok hown m1_49 (hts _ m1_50) m1_3 hKs hb0 hH rfl rfl (fun j hj => dfX2 j hj) (Nat.le_of_ble_eq_true rfl) (Nat.le_of_ble_eq_true rfl) dX9_init_85 (fun H hH => ?_)
  obtain ⟨K41, hK41, hf⟩ := bnd hf
  replace hK41 := Option.some.inj hK41
  obtain ⟨w42, hw42, hf⟩ := bnd hf
  replace hw42 := Option.some.inj hw42
  rw [hK41, hw42] at hH
  refine lv_dup hx hb dX9_init_88 rv_cat ?_
  obtain ⟨q43, hq43, hf⟩ := bnd hf
  refine hcA hH (va_runIN (As := []) (rest := [rv E (some ((((((((((n + 1) + 1) + 1) + 1) + 1) + 1) + 1) + 1) + 1) + 1)), rv E (some o)]) ⟨hx, hb, hml, hown, hts⟩ (k_X2_init l E K41 (((((((((((n + 1) + 1) + 1) + 1) + 1) + 1) + 1) + 1) + 1) + 1) + 1) ((((((((((n + 1) + 1) + 1) + 1) + 1) + 1) + 1) + 1) + 1) + 1) w42 hq43) ⟨va_cnB _ hts (gC m1_53) rfl rfl rfl (hKs.2.1 _ m1_51) (hts _ m1_3) hs_X2_init ⟨Nat.le_of_ble_eq_true rfl, Nat.le_of_ble_eq_true rfl⟩, rfl, hts _ m1_52⟩ ⟨HB.blind, HB.preN hKs hT hb0 hH⟩ rfl rfl hl.1 rfl (lv_room (rcV (rcV rc0))) dX9_init_89 ⟨Nat.le_of_ble_eq_true rfl, Nat.le_of_ble_eq_true rfl⟩) (fun H locs hH => ?_)
  obtain ⟨a44, ha44, hf⟩ := bnd hf
  replace ha44 := chk_some ha44
  obtain ⟨w45, hw45, hf⟩ := bnd hf
  replace hw45 := Option.some.inj hw45
  refine pf9_10 (v := (some ((((((((((n + 1) + 1) + 1) + 1) + 1) + 1) + 1) + 1) + 1) + 1))) hx hb hts hown hKs hH ha44.1 ha44.2 hn2 m1_181 dX9_init_92 (fun H locs hH => ?_)
  rw [hw45] at hH
  refine hl_aload_n hx hb dX9_init_95 rfl (lv_at hl 0 rfl) ?_
  refine lv_iconst (v := 4) hx hb dX9_init_96 (by decide) ?_
  refine hw_newa20 (N := 4) hx hb hts m1_64 hKs hH (by decide) (by decide) (Nat.le_of_ble_eq_true rfl) (Nat.le_of_ble_eq_true rfl) (Nat.le_of_ble_eq_true rfl) dX9_init_97 (fun H hH => ?_)
  obtain ⟨K46, hK46, hf⟩ := bnd hf
  replace hK46 := Option.some.inj hK46
  obtain ⟨w47, hw47, hf⟩ := bnd hf
  replace hw47 := Option.some.inj hw47
  rw [hK46, hw47] at hH
  obtain ⟨a48, ha48, hf⟩ := bnd hf
  replace ha48 := chk_some ha48
  obtain ⟨w49, hw49, hf⟩ := bnd hf
  replace hw49 := Option.some.inj hw49
  refine pf9_11 (v := (some q43.2.1)) hx hb hts hown hKs hH ha48.1 ha48.2 hn2 m1_184 dX9_init_99 (fun H locs hH => ?_)
  rw [hw49] at hH
  refine hl_aload_n hx hb dX9_init_102 rfl (lv_at hl 0 rfl) ?_
  refine g9_0 hx hb hts hown hKs hH ha48.1 ha48.2 m1_150 dX9_init_103 ?_
  refine lv_iconst (v := 0) hx hb dX9_init_106 (by decide) ?_
  refine hw_new (ci := 3) (C := RX4) (T := TX4) (N := 2) hx hb hts iX4 tyX4 tyX4_ok hown m1_45 (hts _ m1_65) m1_4 hKs hb0 hH rfl rfl (fun j hj => dfX4 j hj) (Nat.le_of_ble_eq_true rfl) (Nat.le_of_ble_eq_true rfl) dX9_init_107 (fun H hH => ?_)
  obtain ⟨K50, hK50, hf⟩ := bnd hf
  replace hK50 := Option.some.inj hK50
  obtain ⟨w51, hw51, hf⟩ := bnd hf
  replace hw51 := Option.some.inj hw51
  rw [hK50, hw51] at hH
  refine lv_dup hx hb dX9_init_110 rv_cat ?_
  refine lv_iconst (v := 3) hx hb dX9_init_111 (by decide) ?_
  obtain ⟨q52, hq52, hf⟩ := bnd hf
  refine hcA hH (va_runI (As := [.int 3]) (rest := [rv E (some (q43.2.1 + 1)), .int 0, rv E (wR w49 900 a48)]) ⟨hx, hb, hml, hown, hts⟩ (k_X4_init l E K50 ((q43.2.1 + 1) + 1) (q43.2.1 + 1) 3 w51 hq52) (cwI _ hts (gC m1_68) rfl rfl rfl (hts _ m1_4) (hts _ m1_66) (hts _ m1_67) rfl hs_X4_init ⟨Nat.le_of_ble_eq_true rfl, Nat.le_of_ble_eq_true rfl⟩) ⟨HB.blind, HB.preN hKs hT hb0 hH⟩ rfl rfl hl.1 rfl (lv_room (rcV (rcI (rcV rc0)))) dX9_init_112 ⟨Nat.le_of_ble_eq_true rfl, Nat.le_of_ble_eq_true rfl⟩) (fun H locs hH => ?_)
  obtain ⟨a53, ha53, hf⟩ := bnd hf
  replace ha53 := cha_some ha53
  obtain ⟨j54, hj54, hf⟩ := bnd hf
  obtain ⟨a55, ha55, hf⟩ := bnd hf
  replace ha55 := chk_some ha55
  obtain ⟨w56, hw56, hf⟩ := bnd hf
  replace hw56 := Option.some.inj hw56
  refine hw_aast26 hx hb hKs hH ha53.1 ha53.2 ha55.1 ha55.2 hj54 dX9_init_115 (fun H locs hH => ?_)
  rw [hw56] at hH
  refine hl_aload_n hx hb dX9_init_116 rfl (lv_at hl 0 rfl) ?_
  obtain ⟨a57, ha57, hf⟩ := bnd hf
  replace ha57 := chk_some ha57
  refine g9_0 hx hb hts hown hKs hH ha57.1 ha57.2 m1_150 dX9_init_117 ?_
  refine lv_iconst (v := 1) hx hb dX9_init_120 (by decide) ?_
  refine hw_new (ci := 3) (C := RX4) (T := TX4) (N := 2) hx hb hts iX4 tyX4 tyX4_ok hown m1_45 (hts _ m1_65) m1_4 hKs hb0 hH rfl rfl (fun j hj => dfX4 j hj) (Nat.le_of_ble_eq_true rfl) (Nat.le_of_ble_eq_true rfl) dX9_init_121 (fun H hH => ?_)
  obtain ⟨K58, hK58, hf⟩ := bnd hf
  replace hK58 := Option.some.inj hK58
  obtain ⟨w59, hw59, hf⟩ := bnd hf
  replace hw59 := Option.some.inj hw59
  rw [hK58, hw59] at hH
  refine lv_dup hx hb dX9_init_124 rv_cat ?_
  refine lv_bipush (v := 6) hx hb dX9_init_125 (by decide) ?_
  obtain ⟨q60, hq60, hf⟩ := bnd hf
  refine hcA hH (va_runI (As := [.int 6]) (rest := [rv E (some q52.2.1), .int 1, rv E (wR w56 900 a57)]) ⟨hx, hb, hml, hown, hts⟩ (k_X4_init l E K58 (q52.2.1 + 1) q52.2.1 6 w59 hq60) (cwI _ hts (gC m1_68) rfl rfl rfl (hts _ m1_4) (hts _ m1_66) (hts _ m1_67) rfl hs_X4_init ⟨Nat.le_of_ble_eq_true rfl, Nat.le_of_ble_eq_true rfl⟩) ⟨HB.blind, HB.preN hKs hT hb0 hH⟩ rfl rfl hl.1 rfl (lv_room (rcV (rcI (rcV rc0)))) dX9_init_127 ⟨Nat.le_of_ble_eq_true rfl, Nat.le_of_ble_eq_true rfl⟩) (fun H locs hH => ?_)
  obtain ⟨a61, ha61, hf⟩ := bnd hf
  replace ha61 := cha_some ha61
  obtain ⟨j62, hj62, hf⟩ := bnd hf
  obtain ⟨a63, ha63, hf⟩ := bnd hf
  replace ha63 := chk_some ha63
  obtain ⟨w64, hw64, hf⟩ := bnd hf
  replace hw64 := Option.some.inj hw64
  refine hw_aast26 hx hb hKs hH ha61.1 ha61.2 ha63.1 ha63.2 hj62 dX9_init_130 (fun H locs hH => ?_)
  rw [hw64] at hH
  refine hl_aload_n hx hb dX9_init_131 rfl (lv_at hl 0 rfl) ?_
  obtain ⟨a65, ha65, hf⟩ := bnd hf
  replace ha65 := chk_some ha65
  refine g9_0 hx hb hts hown hKs hH ha65.1 ha65.2 m1_150 dX9_init_132 ?_
  refine lv_iconst (v := 2) hx hb dX9_init_135 (by decide) ?_
  refine hw_new (ci := 3) (C := RX4) (T := TX4) (N := 2) hx hb hts iX4 tyX4 tyX4_ok hown m1_45 (hts _ m1_65) m1_4 hKs hb0 hH rfl rfl (fun j hj => dfX4 j hj) (Nat.le_of_ble_eq_true rfl) (Nat.le_of_ble_eq_true rfl) dX9_init_136 (fun H hH => ?_)
  obtain ⟨K66, hK66, hf⟩ := bnd hf
  replace hK66 := Option.some.inj hK66
  obtain ⟨w67, hw67, hf⟩ := bnd hf
  replace hw67 := Option.some.inj hw67
  rw [hK66, hw67] at hH
  refine lv_dup hx hb dX9_init_139 rv_cat ?_
  refine lv_bipush (v := 12) hx hb dX9_init_140 (by decide) ?_
  obtain ⟨q68, hq68, hf⟩ := bnd hf
  refine hcA hH (va_runI (As := [.int 12]) (rest := [rv E (some q60.2.1), .int 2, rv E (wR w64 900 a65)]) ⟨hx, hb, hml, hown, hts⟩ (k_X4_init l E K66 (q60.2.1 + 1) q60.2.1 12 w67 hq68) (cwI _ hts (gC m1_68) rfl rfl rfl (hts _ m1_4) (hts _ m1_66) (hts _ m1_67) rfl hs_X4_init ⟨Nat.le_of_ble_eq_true rfl, Nat.le_of_ble_eq_true rfl⟩) ⟨HB.blind, HB.preN hKs hT hb0 hH⟩ rfl rfl hl.1 rfl (lv_room (rcV (rcI (rcV rc0)))) dX9_init_142 ⟨Nat.le_of_ble_eq_true rfl, Nat.le_of_ble_eq_true rfl⟩) (fun H locs hH => ?_)
  obtain ⟨a69, ha69, hf⟩ := bnd hf
  replace ha69 := cha_some ha69
  obtain ⟨j70, hj70, hf⟩ := bnd hf
  obtain ⟨a71, ha71, hf⟩ := bnd hf
  replace ha71 := chk_some ha71
  obtain ⟨w72, hw72, hf⟩ := bnd hf
  replace hw72 := Option.some.inj hw72
  refine hw_aast26 hx hb hKs hH ha69.1 ha69.2 ha71.1 ha71.2 hj70 dX9_init_145 (fun H locs hH => ?_)
  rw [hw72] at hH
  refine hl_aload_n hx hb dX9_init_146 rfl (lv_at hl 0 rfl) ?_
  obtain ⟨a73, ha73, hf⟩ := bnd hf
  replace ha73 := chk_some ha73
  refine g9_0 hx hb hts hown hKs hH ha73.1 ha73.2 m1_150 dX9_init_147 ?_
  refine lv_iconst (v := 3) hx hb dX9_init_150 (by decide) ?_
  refine hw_new (ci := 3) (C := RX4) (T := TX4) (N := 2) hx hb hts iX4 tyX4 tyX4_ok hown m1_45 (hts _ m1_65) m1_4 hKs hb0 hH rfl rfl (fun j hj => dfX4 j hj) (Nat.le_of_ble_eq_true rfl) (Nat.le_of_ble_eq_true rfl) dX9_init_151 (fun H hH => ?_)
  obtain ⟨K74, hK74, hf⟩ := bnd hf
  replace hK74 := Option.some.inj hK74
  obtain ⟨w75, hw75, hf⟩ := bnd hf
  replace hw75 := Option.some.inj hw75
  rw [hK74, hw75] at hH
  refine lv_dup hx hb dX9_init_154 rv_cat ?_
  refine lv_bipush (v := 12) hx hb dX9_init_155 (by decide) ?_
  obtain ⟨q76, hq76, hf⟩ := bnd hf
  refine hcA hH (va_runI (As := [.int 12]) (rest := [rv E (some q68.2.1), .int 3, rv E (wR w72 900 a73)]) ⟨hx, hb, hml, hown, hts⟩ (k_X4_init l E K74 (q68.2.1 + 1) q68.2.1 12 w75 hq76) (cwI _ hts (gC m1_68) rfl rfl rfl (hts _ m1_4) (hts _ m1_66) (hts _ m1_67) rfl hs_X4_init ⟨Nat.le_of_ble_eq_true rfl, Nat.le_of_ble_eq_true rfl⟩) ⟨HB.blind, HB.preN hKs hT hb0 hH⟩ rfl rfl hl.1 rfl (lv_room (rcV (rcI (rcV rc0)))) dX9_init_157 ⟨Nat.le_of_ble_eq_true rfl, Nat.le_of_ble_eq_true rfl⟩) (fun H locs hH => ?_)
  obtain ⟨a77, ha77, hf⟩ := bnd hf
  replace ha77 := cha_some ha77
  obtain ⟨j78, hj78, hf⟩ := bnd hf
  obtain ⟨a79, ha79, hf⟩ := bnd hf
  replace ha79 := chk_some ha79
  obtain ⟨w80, hw80, hf⟩ := bnd hf
  replace hw80 := Option.some.inj hw80
  refine hw_aast26 hx hb hKs hH ha77.1 ha77.2 ha79.1 ha79.2 hj78 dX9_init_160 (fun H locs hH => ?_)
  rw [hw80] at hH
  refine lv_iconst (v := 0) hx hb dX9_init_161 (by decide) ?_
  refine lv_istore_n (i := 1) (lv' := [(1, .int 0), (0, rv E (some o))]) hx hb dX9_init_162 rfl hl (by decide) rfl (fun ls hl => ?_)
  refine lv_iload_n hx hb dX9_init_163 rfl (lv_at hl 0 rfl) ?_
  refine lv_bipush (v := 12) hx hb dX9_init_164 (by decide) ?_
  refine lv_icmp_ge (tgt := 188) hx hb dX9_init_166 (by decide) (fun c81 => ?_) (fun c81 => ?_)
  · exact (by revert c81; decide : False).elim
  · skip
    refine hl_aload_n hx hb dX9_init_169 rfl (lv_at hl 1 rfl) ?_
    obtain ⟨a82, ha82, hf⟩ := bnd hf
    replace ha82 := chk_some ha82
    refine g9_9 hx hb hts hown hKs hH ha82.1 ha82.2 m1_175 dX9_init_170 ?_
    refine lv_iload_n hx hb dX9_init_173 rfl (lv_at hl 0 rfl) ?_
    refine hw_new (ci := 2) (C := RX3) (T := TX3) (N := 7) hx hb hts iX3 tyX3 tyX3_ok hown m1_47 (hts _ m1_82) m1_6 hKs hb0 hH rfl rfl (fun j hj => dfX3 j hj) (Nat.le_of_ble_eq_true rfl) (Nat.le_of_ble_eq_true rfl) dX9_init_174 (fun H hH => ?_)
    obtain ⟨K83, hK83, hf⟩ := bnd hf
    replace hK83 := Option.some.inj hK83
    obtain ⟨w84, hw84, hf⟩ := bnd hf
    replace hw84 := Option.some.inj hw84
    rw [hK83, hw84] at hH
    refine lv_dup hx hb dX9_init_177 rv_cat ?_
    obtain ⟨q85, hq85, hf⟩ := bnd hf
    refine hcA hH (va_runIN (As := []) (rest := [rv E (some q76.2.1), .int 0, rv E (wR w80 909 a82)]) ⟨hx, hb, hml, hown, hts⟩ (k_X3_init l E K83 (q76.2.1 + 1) q76.2.1 w84 hq85) ⟨va_cnB _ hts (gC m1_85) rfl rfl rfl (hKs.2.1 _ m1_83) (hts _ m1_6) hs_X3_init ⟨Nat.le_of_ble_eq_true rfl, Nat.le_of_ble_eq_true rfl⟩, rfl, hts _ m1_84⟩ ⟨HB.blind, HB.preN hKs hT hb0 hH⟩ rfl rfl hl.1 rfl (lv_room (rcV (rcI (rcV rc0)))) dX9_init_178 ⟨Nat.le_of_ble_eq_true rfl, Nat.le_of_ble_eq_true rfl⟩) (fun H locs hH => ?_)
    obtain ⟨a86, ha86, hf⟩ := bnd hf
    replace ha86 := cha_some ha86
    obtain ⟨j87, hj87, hf⟩ := bnd hf
    obtain ⟨a88, ha88, hf⟩ := bnd hf
    replace ha88 := chk_some ha88
    obtain ⟨w89, hw89, hf⟩ := bnd hf
    replace hw89 := Option.some.inj hw89
    refine hw_aast25 hx hb hKs hH ha86.1 ha86.2 ha88.1 ha88.2 hj87 dX9_init_181 (fun H locs hH => ?_)
    rw [hw89] at hH
    refine lv_iinc (v := 1) (lv' := [(1, .int 1), (0, rv E (some o))]) hx hb dX9_init_182 hl (k := 0) rfl rfl (by decide) rfl (fun ls hl => ?_)
    refine lv_goto (tgt := 163) hx hb dX9_init_185 (by decide) ?_
    refine lv_iload_n hx hb dX9_init_163 rfl (lv_at hl 0 rfl) ?_
    refine lv_bipush (v := 12) hx hb dX9_init_164 (by decide) ?_
    refine lv_icmp_ge (tgt := 188) hx hb dX9_init_166 (by decide) (fun c90 => ?_) (fun c90 => ?_)
    · exact (by revert c90; decide : False).elim
    · skip
      refine hl_aload_n hx hb dX9_init_169 rfl (lv_at hl 1 rfl) ?_
      obtain ⟨a91, ha91, hf⟩ := bnd hf
      replace ha91 := chk_some ha91
      refine g9_9 hx hb hts hown hKs hH ha91.1 ha91.2 m1_175 dX9_init_170 ?_
      refine lv_iload_n hx hb dX9_init_173 rfl (lv_at hl 0 rfl) ?_
      refine hw_new (ci := 2) (C := RX3) (T := TX3) (N := 7) hx hb hts iX3 tyX3 tyX3_ok hown m1_47 (hts _ m1_82) m1_6 hKs hb0 hH rfl rfl (fun j hj => dfX3 j hj) (Nat.le_of_ble_eq_true rfl) (Nat.le_of_ble_eq_true rfl) dX9_init_174 (fun H hH => ?_)
      obtain ⟨K92, hK92, hf⟩ := bnd hf
      replace hK92 := Option.some.inj hK92
      obtain ⟨w93, hw93, hf⟩ := bnd hf
      replace hw93 := Option.some.inj hw93
      rw [hK92, hw93] at hH
      refine lv_dup hx hb dX9_init_177 rv_cat ?_
      obtain ⟨q94, hq94, hf⟩ := bnd hf
      refine hcA hH (va_runIN (As := []) (rest := [rv E (some q85.2.1), .int 1, rv E (wR w89 909 a91)]) ⟨hx, hb, hml, hown, hts⟩ (k_X3_init l E K92 (q85.2.1 + 1) q85.2.1 w93 hq94) ⟨va_cnB _ hts (gC m1_85) rfl rfl rfl (hKs.2.1 _ m1_83) (hts _ m1_6) hs_X3_init ⟨Nat.le_of_ble_eq_true rfl, Nat.le_of_ble_eq_true rfl⟩, rfl, hts _ m1_84⟩ ⟨HB.blind, HB.preN hKs hT hb0 hH⟩ rfl rfl hl.1 rfl (lv_room (rcV (rcI (rcV rc0)))) dX9_init_178 ⟨Nat.le_of_ble_eq_true rfl, Nat.le_of_ble_eq_true rfl⟩) (fun H locs hH => ?_)
      obtain ⟨a95, ha95, hf⟩ := bnd hf
      replace ha95 := cha_some ha95
      obtain ⟨j96, hj96, hf⟩ := bnd hf
      obtain ⟨a97, ha97, hf⟩ := bnd hf
      replace ha97 := chk_some ha97
      obtain ⟨w98, hw98, hf⟩ := bnd hf
      replace hw98 := Option.some.inj hw98
      refine hw_aast25 hx hb hKs hH ha95.1 ha95.2 ha97.1 ha97.2 hj96 dX9_init_181 (fun H locs hH => ?_)
      rw [hw98] at hH
      refine lv_iinc (v := 2) (lv' := [(1, .int 2), (0, rv E (some o))]) hx hb dX9_init_182 hl (k := 0) rfl rfl (by decide) rfl (fun ls hl => ?_)
      refine lv_goto (tgt := 163) hx hb dX9_init_185 (by decide) ?_
      refine lv_iload_n hx hb dX9_init_163 rfl (lv_at hl 0 rfl) ?_
      refine lv_bipush (v := 12) hx hb dX9_init_164 (by decide) ?_
      refine lv_icmp_ge (tgt := 188) hx hb dX9_init_166 (by decide) (fun c99 => ?_) (fun c99 => ?_)
      · exact (by revert c99; decide : False).elim
      · skip
        refine hl_aload_n hx hb dX9_init_169 rfl (lv_at hl 1 rfl) ?_
        obtain ⟨a100, ha100, hf⟩ := bnd hf
        replace ha100 := chk_some ha100
        refine g9_9 hx hb hts hown hKs hH ha100.1 ha100.2 m1_175 dX9_init_170 ?_
        refine lv_iload_n hx hb dX9_init_173 rfl (lv_at hl 0 rfl) ?_
        refine hw_new (ci := 2) (C := RX3) (T := TX3) (N := 7) hx hb hts iX3 tyX3 tyX3_ok hown m1_47 (hts _ m1_82) m1_6 hKs hb0 hH rfl rfl (fun j hj => dfX3 j hj) (Nat.le_of_ble_eq_true rfl) (Nat.le_of_ble_eq_true rfl) dX9_init_174 (fun H hH => ?_)
        obtain ⟨K101, hK101, hf⟩ := bnd hf
        replace hK101 := Option.some.inj hK101
        obtain ⟨w102, hw102, hf⟩ := bnd hf
        replace hw102 := Option.some.inj hw102
        rw [hK101, hw102] at hH
        refine lv_dup hx hb dX9_init_177 rv_cat ?_
        obtain ⟨q103, hq103, hf⟩ := bnd hf
        refine hcA hH (va_runIN (As := []) (rest := [rv E (some q94.2.1), .int 2, rv E (wR w98 909 a100)]) ⟨hx, hb, hml, hown, hts⟩ (k_X3_init l E K101 (q94.2.1 + 1) q94.2.1 w102 hq103) ⟨va_cnB _ hts (gC m1_85) rfl rfl rfl (hKs.2.1 _ m1_83) (hts _ m1_6) hs_X3_init ⟨Nat.le_of_ble_eq_true rfl, Nat.le_of_ble_eq_true rfl⟩, rfl, hts _ m1_84⟩ ⟨HB.blind, HB.preN hKs hT hb0 hH⟩ rfl rfl hl.1 rfl (lv_room (rcV (rcI (rcV rc0)))) dX9_init_178 ⟨Nat.le_of_ble_eq_true rfl, Nat.le_of_ble_eq_true rfl⟩) (fun H locs hH => ?_)
        obtain ⟨a104, ha104, hf⟩ := bnd hf
        replace ha104 := cha_some ha104
        obtain ⟨j105, hj105, hf⟩ := bnd hf
        obtain ⟨a106, ha106, hf⟩ := bnd hf
        replace ha106 := chk_some ha106
        obtain ⟨w107, hw107, hf⟩ := bnd hf
        replace hw107 := Option.some.inj hw107
        refine hw_aast25 hx hb hKs hH ha104.1 ha104.2 ha106.1 ha106.2 hj105 dX9_init_181 (fun H locs hH => ?_)
        rw [hw107] at hH
        refine lv_iinc (v := 3) (lv' := [(1, .int 3), (0, rv E (some o))]) hx hb dX9_init_182 hl (k := 0) rfl rfl (by decide) rfl (fun ls hl => ?_)
        refine lv_goto (tgt := 163) hx hb dX9_init_185 (by decide) ?_
        refine lv_iload_n hx hb dX9_init_163 rfl (lv_at hl 0 rfl) ?_
        refine lv_bipush (v := 12) hx hb dX9_init_164 (by decide) ?_
        refine lv_icmp_ge (tgt := 188) hx hb dX9_init_166 (by decide) (fun c108 => ?_) (fun c108 => ?_)
        · exact (by revert c108; decide : False).elim
        · skip
          refine hl_aload_n hx hb dX9_init_169 rfl (lv_at hl 1 rfl) ?_
          obtain ⟨a109, ha109, hf⟩ := bnd hf
          replace ha109 := chk_some ha109
          refine g9_9 hx hb hts hown hKs hH ha109.1 ha109.2 m1_175 dX9_init_170 ?_
          refine lv_iload_n hx hb dX9_init_173 rfl (lv_at hl 0 rfl) ?_
          refine hw_new (ci := 2) (C := RX3) (T := TX3) (N := 7) hx hb hts iX3 tyX3 tyX3_ok hown m1_47 (hts _ m1_82) m1_6 hKs hb0 hH rfl rfl (fun j hj => dfX3 j hj) (Nat.le_of_ble_eq_true rfl) (Nat.le_of_ble_eq_true rfl) dX9_init_174 (fun H hH => ?_)
          obtain ⟨K110, hK110, hf⟩ := bnd hf
          replace hK110 := Option.some.inj hK110
          obtain ⟨w111, hw111, hf⟩ := bnd hf
          replace hw111 := Option.some.inj hw111
          rw [hK110, hw111] at hH
          refine lv_dup hx hb dX9_init_177 rv_cat ?_
          obtain ⟨q112, hq112, hf⟩ := bnd hf
          refine hcA hH (va_runIN (As := []) (rest := [rv E (some q103.2.1), .int 3, rv E (wR w107 909 a109)]) ⟨hx, hb, hml, hown, hts⟩ (k_X3_init l E K110 (q103.2.1 + 1) q103.2.1 w111 hq112) ⟨va_cnB _ hts (gC m1_85) rfl rfl rfl (hKs.2.1 _ m1_83) (hts _ m1_6) hs_X3_init ⟨Nat.le_of_ble_eq_true rfl, Nat.le_of_ble_eq_true rfl⟩, rfl, hts _ m1_84⟩ ⟨HB.blind, HB.preN hKs hT hb0 hH⟩ rfl rfl hl.1 rfl (lv_room (rcV (rcI (rcV rc0)))) dX9_init_178 ⟨Nat.le_of_ble_eq_true rfl, Nat.le_of_ble_eq_true rfl⟩) (fun H locs hH => ?_)
          obtain ⟨a113, ha113, hf⟩ := bnd hf
          replace ha113 := cha_some ha113
          obtain ⟨j114, hj114, hf⟩ := bnd hf
          obtain ⟨a115, ha115, hf⟩ := bnd hf
          replace ha115 := chk_some ha115
          obtain ⟨w116, hw116, hf⟩ := bnd hf
          replace hw116 := Option.some.inj hw116
          refine hw_aast25 hx hb hKs hH ha113.1 ha113.2 ha115.1 ha115.2 hj114 dX9_init_181 (fun H locs hH => ?_)
          rw [hw116] at hH
          refine lv_iinc (v := 4) (lv' := [(1, .int 4), (0, rv E (some o))]) hx hb dX9_init_182 hl (k := 0) rfl rfl (by decide) rfl (fun ls hl => ?_)
          refine lv_goto (tgt := 163) hx hb dX9_init_185 (by decide) ?_
          refine lv_iload_n hx hb dX9_init_163 rfl (lv_at hl 0 rfl) ?_
          refine lv_bipush (v := 12) hx hb dX9_init_164 (by decide) ?_
          refine lv_icmp_ge (tgt := 188) hx hb dX9_init_166 (by decide) (fun c117 => ?_) (fun c117 => ?_)
          · exact (by revert c117; decide : False).elim
          · skip
            refine hl_aload_n hx hb dX9_init_169 rfl (lv_at hl 1 rfl) ?_
            obtain ⟨a118, ha118, hf⟩ := bnd hf
            replace ha118 := chk_some ha118
            refine g9_9 hx hb hts hown hKs hH ha118.1 ha118.2 m1_175 dX9_init_170 ?_
            refine lv_iload_n hx hb dX9_init_173 rfl (lv_at hl 0 rfl) ?_
            refine hw_new (ci := 2) (C := RX3) (T := TX3) (N := 7) hx hb hts iX3 tyX3 tyX3_ok hown m1_47 (hts _ m1_82) m1_6 hKs hb0 hH rfl rfl (fun j hj => dfX3 j hj) (Nat.le_of_ble_eq_true rfl) (Nat.le_of_ble_eq_true rfl) dX9_init_174 (fun H hH => ?_)
            obtain ⟨K119, hK119, hf⟩ := bnd hf
            replace hK119 := Option.some.inj hK119
            obtain ⟨w120, hw120, hf⟩ := bnd hf
            replace hw120 := Option.some.inj hw120
            rw [hK119, hw120] at hH
            refine lv_dup hx hb dX9_init_177 rv_cat ?_
            obtain ⟨q121, hq121, hf⟩ := bnd hf
            refine hcA hH (va_runIN (As := []) (rest := [rv E (some q112.2.1), .int 4, rv E (wR w116 909 a118)]) ⟨hx, hb, hml, hown, hts⟩ (k_X3_init l E K119 (q112.2.1 + 1) q112.2.1 w120 hq121) ⟨va_cnB _ hts (gC m1_85) rfl rfl rfl (hKs.2.1 _ m1_83) (hts _ m1_6) hs_X3_init ⟨Nat.le_of_ble_eq_true rfl, Nat.le_of_ble_eq_true rfl⟩, rfl, hts _ m1_84⟩ ⟨HB.blind, HB.preN hKs hT hb0 hH⟩ rfl rfl hl.1 rfl (lv_room (rcV (rcI (rcV rc0)))) dX9_init_178 ⟨Nat.le_of_ble_eq_true rfl, Nat.le_of_ble_eq_true rfl⟩) (fun H locs hH => ?_)
            obtain ⟨a122, ha122, hf⟩ := bnd hf
            replace ha122 := cha_some ha122
            obtain ⟨j123, hj123, hf⟩ := bnd hf
            obtain ⟨a124, ha124, hf⟩ := bnd hf
            replace ha124 := chk_some ha124
            obtain ⟨w125, hw125, hf⟩ := bnd hf
            replace hw125 := Option.some.inj hw125
            refine hw_aast25 hx hb hKs hH ha122.1 ha122.2 ha124.1 ha124.2 hj123 dX9_init_181 (fun H locs hH => ?_)
            rw [hw125] at hH
            refine lv_iinc (v := 5) (lv' := [(1, .int 5), (0, rv E (some o))]) hx hb dX9_init_182 hl (k := 0) rfl rfl (by decide) rfl (fun ls hl => ?_)
            refine lv_goto (tgt := 163) hx hb dX9_init_185 (by decide) ?_
            refine lv_iload_n hx hb dX9_init_163 rfl (lv_at hl 0 rfl) ?_
            refine lv_bipush (v := 12) hx hb dX9_init_164 (by decide) ?_
            refine lv_icmp_ge (tgt := 188) hx hb dX9_init_166 (by decide) (fun c126 => ?_) (fun c126 => ?_)
            · exact (by revert c126; decide : False).elim
            · skip
              refine hl_aload_n hx hb dX9_init_169 rfl (lv_at hl 1 rfl) ?_
              obtain ⟨a127, ha127, hf⟩ := bnd hf
              replace ha127 := chk_some ha127
              refine g9_9 hx hb hts hown hKs hH ha127.1 ha127.2 m1_175 dX9_init_170 ?_
              refine lv_iload_n hx hb dX9_init_173 rfl (lv_at hl 0 rfl) ?_
              refine hw_new (ci := 2) (C := RX3) (T := TX3) (N := 7) hx hb hts iX3 tyX3 tyX3_ok hown m1_47 (hts _ m1_82) m1_6 hKs hb0 hH rfl rfl (fun j hj => dfX3 j hj) (Nat.le_of_ble_eq_true rfl) (Nat.le_of_ble_eq_true rfl) dX9_init_174 (fun H hH => ?_)
              obtain ⟨K128, hK128, hf⟩ := bnd hf
              replace hK128 := Option.some.inj hK128
              obtain ⟨w129, hw129, hf⟩ := bnd hf
              replace hw129 := Option.some.inj hw129
              rw [hK128, hw129] at hH
              refine lv_dup hx hb dX9_init_177 rv_cat ?_
              obtain ⟨q130, hq130, hf⟩ := bnd hf
              refine hcA hH (va_runIN (As := []) (rest := [rv E (some q121.2.1), .int 5, rv E (wR w125 909 a127)]) ⟨hx, hb, hml, hown, hts⟩ (k_X3_init l E K128 (q121.2.1 + 1) q121.2.1 w129 hq130) ⟨va_cnB _ hts (gC m1_85) rfl rfl rfl (hKs.2.1 _ m1_83) (hts _ m1_6) hs_X3_init ⟨Nat.le_of_ble_eq_true rfl, Nat.le_of_ble_eq_true rfl⟩, rfl, hts _ m1_84⟩ ⟨HB.blind, HB.preN hKs hT hb0 hH⟩ rfl rfl hl.1 rfl (lv_room (rcV (rcI (rcV rc0)))) dX9_init_178 ⟨Nat.le_of_ble_eq_true rfl, Nat.le_of_ble_eq_true rfl⟩) (fun H locs hH => ?_)
              obtain ⟨a131, ha131, hf⟩ := bnd hf
              replace ha131 := cha_some ha131
              obtain ⟨j132, hj132, hf⟩ := bnd hf
              obtain ⟨a133, ha133, hf⟩ := bnd hf
              replace ha133 := chk_some ha133
              obtain ⟨w134, hw134, hf⟩ := bnd hf
              replace hw134 := Option.some.inj hw134
              refine hw_aast25 hx hb hKs hH ha131.1 ha131.2 ha133.1 ha133.2 hj132 dX9_init_181 (fun H locs hH => ?_)
              rw [hw134] at hH
              refine lv_iinc (v := 6) (lv' := [(1, .int 6), (0, rv E (some o))]) hx hb dX9_init_182 hl (k := 0) rfl rfl (by decide) rfl (fun ls hl => ?_)
              refine lv_goto (tgt := 163) hx hb dX9_init_185 (by decide) ?_
              refine lv_iload_n hx hb dX9_init_163 rfl (lv_at hl 0 rfl) ?_
              refine lv_bipush (v := 12) hx hb dX9_init_164 (by decide) ?_
              refine lv_icmp_ge (tgt := 188) hx hb dX9_init_166 (by decide) (fun c135 => ?_) (fun c135 => ?_)
              · exact (by revert c135; decide : False).elim
              · skip
                refine hl_aload_n hx hb dX9_init_169 rfl (lv_at hl 1 rfl) ?_
                obtain ⟨a136, ha136, hf⟩ := bnd hf
                replace ha136 := chk_some ha136
                refine g9_9 hx hb hts hown hKs hH ha136.1 ha136.2 m1_175 dX9_init_170 ?_
                refine lv_iload_n hx hb dX9_init_173 rfl (lv_at hl 0 rfl) ?_
                refine hw_new (ci := 2) (C := RX3) (T := TX3) (N := 7) hx hb hts iX3 tyX3 tyX3_ok hown m1_47 (hts _ m1_82) m1_6 hKs hb0 hH rfl rfl (fun j hj => dfX3 j hj) (Nat.le_of_ble_eq_true rfl) (Nat.le_of_ble_eq_true rfl) dX9_init_174 (fun H hH => ?_)
                obtain ⟨K137, hK137, hf⟩ := bnd hf
                replace hK137 := Option.some.inj hK137
                obtain ⟨w138, hw138, hf⟩ := bnd hf
                replace hw138 := Option.some.inj hw138
                rw [hK137, hw138] at hH
                refine lv_dup hx hb dX9_init_177 rv_cat ?_
                obtain ⟨q139, hq139, hf⟩ := bnd hf
                refine hcA hH (va_runIN (As := []) (rest := [rv E (some q130.2.1), .int 6, rv E (wR w134 909 a136)]) ⟨hx, hb, hml, hown, hts⟩ (k_X3_init l E K137 (q130.2.1 + 1) q130.2.1 w138 hq139) ⟨va_cnB _ hts (gC m1_85) rfl rfl rfl (hKs.2.1 _ m1_83) (hts _ m1_6) hs_X3_init ⟨Nat.le_of_ble_eq_true rfl, Nat.le_of_ble_eq_true rfl⟩, rfl, hts _ m1_84⟩ ⟨HB.blind, HB.preN hKs hT hb0 hH⟩ rfl rfl hl.1 rfl (lv_room (rcV (rcI (rcV rc0)))) dX9_init_178 ⟨Nat.le_of_ble_eq_true rfl, Nat.le_of_ble_eq_true rfl⟩) (fun H locs hH => ?_)
                obtain ⟨a140, ha140, hf⟩ := bnd hf
                replace ha140 := cha_some ha140
                obtain ⟨j141, hj141, hf⟩ := bnd hf
                obtain ⟨a142, ha142, hf⟩ := bnd hf
                replace ha142 := chk_some ha142
                obtain ⟨w143, hw143, hf⟩ := bnd hf
                replace hw143 := Option.some.inj hw143
                refine hw_aast25 hx hb hKs hH ha140.1 ha140.2 ha142.1 ha142.2 hj141 dX9_init_181 (fun H locs hH => ?_)
                rw [hw143] at hH
                refine lv_iinc (v := 7) (lv' := [(1, .int 7), (0, rv E (some o))]) hx hb dX9_init_182 hl (k := 0) rfl rfl (by decide) rfl (fun ls hl => ?_)
                refine lv_goto (tgt := 163) hx hb dX9_init_185 (by decide) ?_
                refine lv_iload_n hx hb dX9_init_163 rfl (lv_at hl 0 rfl) ?_
                refine lv_bipush (v := 12) hx hb dX9_init_164 (by decide) ?_
                refine lv_icmp_ge (tgt := 188) hx hb dX9_init_166 (by decide) (fun c144 => ?_) (fun c144 => ?_)
                · exact (by revert c144; decide : False).elim
                · skip
                  refine hl_aload_n hx hb dX9_init_169 rfl (lv_at hl 1 rfl) ?_
                  obtain ⟨a145, ha145, hf⟩ := bnd hf
                  replace ha145 := chk_some ha145
                  refine g9_9 hx hb hts hown hKs hH ha145.1 ha145.2 m1_175 dX9_init_170 ?_
                  refine lv_iload_n hx hb dX9_init_173 rfl (lv_at hl 0 rfl) ?_
                  refine hw_new (ci := 2) (C := RX3) (T := TX3) (N := 7) hx hb hts iX3 tyX3 tyX3_ok hown m1_47 (hts _ m1_82) m1_6 hKs hb0 hH rfl rfl (fun j hj => dfX3 j hj) (Nat.le_of_ble_eq_true rfl) (Nat.le_of_ble_eq_true rfl) dX9_init_174 (fun H hH => ?_)
                  obtain ⟨K146, hK146, hf⟩ := bnd hf
                  replace hK146 := Option.some.inj hK146
                  obtain ⟨w147, hw147, hf⟩ := bnd hf
                  replace hw147 := Option.some.inj hw147
                  rw [hK146, hw147] at hH
                  refine lv_dup hx hb dX9_init_177 rv_cat ?_
                  obtain ⟨q148, hq148, hf⟩ := bnd hf
                  refine hcA hH (va_runIN (As := []) (rest := [rv E (some q139.2.1), .int 7, rv E (wR w143 909 a145)]) ⟨hx, hb, hml, hown, hts⟩ (k_X3_init l E K146 (q139.2.1 + 1) q139.2.1 w147 hq148) ⟨va_cnB _ hts (gC m1_85) rfl rfl rfl (hKs.2.1 _ m1_83) (hts _ m1_6) hs_X3_init ⟨Nat.le_of_ble_eq_true rfl, Nat.le_of_ble_eq_true rfl⟩, rfl, hts _ m1_84⟩ ⟨HB.blind, HB.preN hKs hT hb0 hH⟩ rfl rfl hl.1 rfl (lv_room (rcV (rcI (rcV rc0)))) dX9_init_178 ⟨Nat.le_of_ble_eq_true rfl, Nat.le_of_ble_eq_true rfl⟩) (fun H locs hH => ?_)
                  obtain ⟨a149, ha149, hf⟩ := bnd hf
                  replace ha149 := cha_some ha149
                  obtain ⟨j150, hj150, hf⟩ := bnd hf
                  obtain ⟨a151, ha151, hf⟩ := bnd hf
                  replace ha151 := chk_some ha151
                  obtain ⟨w152, hw152, hf⟩ := bnd hf
                  replace hw152 := Option.some.inj hw152
                  refine hw_aast25 hx hb hKs hH ha149.1 ha149.2 ha151.1 ha151.2 hj150 dX9_init_181 (fun H locs hH => ?_)
                  rw [hw152] at hH
                  refine lv_iinc (v := 8) (lv' := [(1, .int 8), (0, rv E (some o))]) hx hb dX9_init_182 hl (k := 0) rfl rfl (by decide) rfl (fun ls hl => ?_)
                  refine lv_goto (tgt := 163) hx hb dX9_init_185 (by decide) ?_
                  refine lv_iload_n hx hb dX9_init_163 rfl (lv_at hl 0 rfl) ?_
                  refine lv_bipush (v := 12) hx hb dX9_init_164 (by decide) ?_
                  refine lv_icmp_ge (tgt := 188) hx hb dX9_init_166 (by decide) (fun c153 => ?_) (fun c153 => ?_)
                  · exact (by revert c153; decide : False).elim
                  · skip
                    refine hl_aload_n hx hb dX9_init_169 rfl (lv_at hl 1 rfl) ?_
                    obtain ⟨a154, ha154, hf⟩ := bnd hf
                    replace ha154 := chk_some ha154
                    refine g9_9 hx hb hts hown hKs hH ha154.1 ha154.2 m1_175 dX9_init_170 ?_
                    refine lv_iload_n hx hb dX9_init_173 rfl (lv_at hl 0 rfl) ?_
                    refine hw_new (ci := 2) (C := RX3) (T := TX3) (N := 7) hx hb hts iX3 tyX3 tyX3_ok hown m1_47 (hts _ m1_82) m1_6 hKs hb0 hH rfl rfl (fun j hj => dfX3 j hj) (Nat.le_of_ble_eq_true rfl) (Nat.le_of_ble_eq_true rfl) dX9_init_174 (fun H hH => ?_)
                    obtain ⟨K155, hK155, hf⟩ := bnd hf
                    replace hK155 := Option.some.inj hK155
                    obtain ⟨w156, hw156, hf⟩ := bnd hf
                    replace hw156 := Option.some.inj hw156
                    rw [hK155, hw156] at hH
                    refine lv_dup hx hb dX9_init_177 rv_cat ?_
                    obtain ⟨q157, hq157, hf⟩ := bnd hf
                    refine hcA hH (va_runIN (As := []) (rest := [rv E (some q148.2.1), .int 8, rv E (wR w152 909 a154)]) ⟨hx, hb, hml, hown, hts⟩ (k_X3_init l E K155 (q148.2.1 + 1) q148.2.1 w156 hq157) ⟨va_cnB _ hts (gC m1_85) rfl rfl rfl (hKs.2.1 _ m1_83) (hts _ m1_6) hs_X3_init ⟨Nat.le_of_ble_eq_true rfl, Nat.le_of_ble_eq_true rfl⟩, rfl, hts _ m1_84⟩ ⟨HB.blind, HB.preN hKs hT hb0 hH⟩ rfl rfl hl.1 rfl (lv_room (rcV (rcI (rcV rc0)))) dX9_init_178 ⟨Nat.le_of_ble_eq_true rfl, Nat.le_of_ble_eq_true rfl⟩) (fun H locs hH => ?_)
                    obtain ⟨a158, ha158, hf⟩ := bnd hf
                    replace ha158 := cha_some ha158
                    obtain ⟨j159, hj159, hf⟩ := bnd hf
                    obtain ⟨a160, ha160, hf⟩ := bnd hf
                    replace ha160 := chk_some ha160
                    obtain ⟨w161, hw161, hf⟩ := bnd hf
                    replace hw161 := Option.some.inj hw161
                    refine hw_aast25 hx hb hKs hH ha158.1 ha158.2 ha160.1 ha160.2 hj159 dX9_init_181 (fun H locs hH => ?_)
                    rw [hw161] at hH
                    refine lv_iinc (v := 9) (lv' := [(1, .int 9), (0, rv E (some o))]) hx hb dX9_init_182 hl (k := 0) rfl rfl (by decide) rfl (fun ls hl => ?_)
                    refine lv_goto (tgt := 163) hx hb dX9_init_185 (by decide) ?_
                    refine lv_iload_n hx hb dX9_init_163 rfl (lv_at hl 0 rfl) ?_
                    refine lv_bipush (v := 12) hx hb dX9_init_164 (by decide) ?_
                    refine lv_icmp_ge (tgt := 188) hx hb dX9_init_166 (by decide) (fun c162 => ?_) (fun c162 => ?_)
                    · exact (by revert c162; decide : False).elim
                    · skip
                      refine hl_aload_n hx hb dX9_init_169 rfl (lv_at hl 1 rfl) ?_
                      obtain ⟨a163, ha163, hf⟩ := bnd hf
                      replace ha163 := chk_some ha163
                      refine g9_9 hx hb hts hown hKs hH ha163.1 ha163.2 m1_175 dX9_init_170 ?_
                      refine lv_iload_n hx hb dX9_init_173 rfl (lv_at hl 0 rfl) ?_
                      refine hw_new (ci := 2) (C := RX3) (T := TX3) (N := 7) hx hb hts iX3 tyX3 tyX3_ok hown m1_47 (hts _ m1_82) m1_6 hKs hb0 hH rfl rfl (fun j hj => dfX3 j hj) (Nat.le_of_ble_eq_true rfl) (Nat.le_of_ble_eq_true rfl) dX9_init_174 (fun H hH => ?_)
                      obtain ⟨K164, hK164, hf⟩ := bnd hf
                      replace hK164 := Option.some.inj hK164
                      obtain ⟨w165, hw165, hf⟩ := bnd hf
                      replace hw165 := Option.some.inj hw165
                      rw [hK164, hw165] at hH
                      refine lv_dup hx hb dX9_init_177 rv_cat ?_
                      obtain ⟨q166, hq166, hf⟩ := bnd hf
                      refine hcA hH (va_runIN (As := []) (rest := [rv E (some q157.2.1), .int 9, rv E (wR w161 909 a163)]) ⟨hx, hb, hml, hown, hts⟩ (k_X3_init l E K164 (q157.2.1 + 1) q157.2.1 w165 hq166) ⟨va_cnB _ hts (gC m1_85) rfl rfl rfl (hKs.2.1 _ m1_83) (hts _ m1_6) hs_X3_init ⟨Nat.le_of_ble_eq_true rfl, Nat.le_of_ble_eq_true rfl⟩, rfl, hts _ m1_84⟩ ⟨HB.blind, HB.preN hKs hT hb0 hH⟩ rfl rfl hl.1 rfl (lv_room (rcV (rcI (rcV rc0)))) dX9_init_178 ⟨Nat.le_of_ble_eq_true rfl, Nat.le_of_ble_eq_true rfl⟩) (fun H locs hH => ?_)
                      obtain ⟨a167, ha167, hf⟩ := bnd hf
                      replace ha167 := cha_some ha167
                      obtain ⟨j168, hj168, hf⟩ := bnd hf
                      obtain ⟨a169, ha169, hf⟩ := bnd hf
                      replace ha169 := chk_some ha169
                      obtain ⟨w170, hw170, hf⟩ := bnd hf
                      replace hw170 := Option.some.inj hw170
                      refine hw_aast25 hx hb hKs hH ha167.1 ha167.2 ha169.1 ha169.2 hj168 dX9_init_181 (fun H locs hH => ?_)
                      rw [hw170] at hH
                      refine lv_iinc (v := 10) (lv' := [(1, .int 10), (0, rv E (some o))]) hx hb dX9_init_182 hl (k := 0) rfl rfl (by decide) rfl (fun ls hl => ?_)
                      refine lv_goto (tgt := 163) hx hb dX9_init_185 (by decide) ?_
                      refine lv_iload_n hx hb dX9_init_163 rfl (lv_at hl 0 rfl) ?_
                      refine lv_bipush (v := 12) hx hb dX9_init_164 (by decide) ?_
                      refine lv_icmp_ge (tgt := 188) hx hb dX9_init_166 (by decide) (fun c171 => ?_) (fun c171 => ?_)
                      · exact (by revert c171; decide : False).elim
                      · skip
                        refine hl_aload_n hx hb dX9_init_169 rfl (lv_at hl 1 rfl) ?_
                        obtain ⟨a172, ha172, hf⟩ := bnd hf
                        replace ha172 := chk_some ha172
                        refine g9_9 hx hb hts hown hKs hH ha172.1 ha172.2 m1_175 dX9_init_170 ?_
                        refine lv_iload_n hx hb dX9_init_173 rfl (lv_at hl 0 rfl) ?_
                        refine hw_new (ci := 2) (C := RX3) (T := TX3) (N := 7) hx hb hts iX3 tyX3 tyX3_ok hown m1_47 (hts _ m1_82) m1_6 hKs hb0 hH rfl rfl (fun j hj => dfX3 j hj) (Nat.le_of_ble_eq_true rfl) (Nat.le_of_ble_eq_true rfl) dX9_init_174 (fun H hH => ?_)
                        obtain ⟨K173, hK173, hf⟩ := bnd hf
                        replace hK173 := Option.some.inj hK173
                        obtain ⟨w174, hw174, hf⟩ := bnd hf
                        replace hw174 := Option.some.inj hw174
                        rw [hK173, hw174] at hH
                        refine lv_dup hx hb dX9_init_177 rv_cat ?_
                        obtain ⟨q175, hq175, hf⟩ := bnd hf
                        refine hcA hH (va_runIN (As := []) (rest := [rv E (some q166.2.1), .int 10, rv E (wR w170 909 a172)]) ⟨hx, hb, hml, hown, hts⟩ (k_X3_init l E K173 (q166.2.1 + 1) q166.2.1 w174 hq175) ⟨va_cnB _ hts (gC m1_85) rfl rfl rfl (hKs.2.1 _ m1_83) (hts _ m1_6) hs_X3_init ⟨Nat.le_of_ble_eq_true rfl, Nat.le_of_ble_eq_true rfl⟩, rfl, hts _ m1_84⟩ ⟨HB.blind, HB.preN hKs hT hb0 hH⟩ rfl rfl hl.1 rfl (lv_room (rcV (rcI (rcV rc0)))) dX9_init_178 ⟨Nat.le_of_ble_eq_true rfl, Nat.le_of_ble_eq_true rfl⟩) (fun H locs hH => ?_)
                        obtain ⟨a176, ha176, hf⟩ := bnd hf
                        replace ha176 := cha_some ha176
                        obtain ⟨j177, hj177, hf⟩ := bnd hf
                        obtain ⟨a178, ha178, hf⟩ := bnd hf
                        replace ha178 := chk_some ha178
                        obtain ⟨w179, hw179, hf⟩ := bnd hf
                        replace hw179 := Option.some.inj hw179
                        refine hw_aast25 hx hb hKs hH ha176.1 ha176.2 ha178.1 ha178.2 hj177 dX9_init_181 (fun H locs hH => ?_)
                        rw [hw179] at hH
                        refine lv_iinc (v := 11) (lv' := [(1, .int 11), (0, rv E (some o))]) hx hb dX9_init_182 hl (k := 0) rfl rfl (by decide) rfl (fun ls hl => ?_)
                        refine lv_goto (tgt := 163) hx hb dX9_init_185 (by decide) ?_
                        refine lv_iload_n hx hb dX9_init_163 rfl (lv_at hl 0 rfl) ?_
                        refine lv_bipush (v := 12) hx hb dX9_init_164 (by decide) ?_
                        refine lv_icmp_ge (tgt := 188) hx hb dX9_init_166 (by decide) (fun c180 => ?_) (fun c180 => ?_)
                        · exact (by revert c180; decide : False).elim
                        · skip
                          refine hl_aload_n hx hb dX9_init_169 rfl (lv_at hl 1 rfl) ?_
                          obtain ⟨a181, ha181, hf⟩ := bnd hf
                          replace ha181 := chk_some ha181
                          refine g9_9 hx hb hts hown hKs hH ha181.1 ha181.2 m1_175 dX9_init_170 ?_
                          refine lv_iload_n hx hb dX9_init_173 rfl (lv_at hl 0 rfl) ?_
                          refine hw_new (ci := 2) (C := RX3) (T := TX3) (N := 7) hx hb hts iX3 tyX3 tyX3_ok hown m1_47 (hts _ m1_82) m1_6 hKs hb0 hH rfl rfl (fun j hj => dfX3 j hj) (Nat.le_of_ble_eq_true rfl) (Nat.le_of_ble_eq_true rfl) dX9_init_174 (fun H hH => ?_)
                          obtain ⟨K182, hK182, hf⟩ := bnd hf
                          replace hK182 := Option.some.inj hK182
                          obtain ⟨w183, hw183, hf⟩ := bnd hf
                          replace hw183 := Option.some.inj hw183
                          rw [hK182, hw183] at hH
                          refine lv_dup hx hb dX9_init_177 rv_cat ?_
                          obtain ⟨q184, hq184, hf⟩ := bnd hf
                          refine hcA hH (va_runIN (As := []) (rest := [rv E (some q175.2.1), .int 11, rv E (wR w179 909 a181)]) ⟨hx, hb, hml, hown, hts⟩ (k_X3_init l E K182 (q175.2.1 + 1) q175.2.1 w183 hq184) ⟨va_cnB _ hts (gC m1_85) rfl rfl rfl (hKs.2.1 _ m1_83) (hts _ m1_6) hs_X3_init ⟨Nat.le_of_ble_eq_true rfl, Nat.le_of_ble_eq_true rfl⟩, rfl, hts _ m1_84⟩ ⟨HB.blind, HB.preN hKs hT hb0 hH⟩ rfl rfl hl.1 rfl (lv_room (rcV (rcI (rcV rc0)))) dX9_init_178 ⟨Nat.le_of_ble_eq_true rfl, Nat.le_of_ble_eq_true rfl⟩) (fun H locs hH => ?_)
                          obtain ⟨a185, ha185, hf⟩ := bnd hf
                          replace ha185 := cha_some ha185
                          obtain ⟨j186, hj186, hf⟩ := bnd hf
                          obtain ⟨a187, ha187, hf⟩ := bnd hf
                          replace ha187 := chk_some ha187
                          obtain ⟨w188, hw188, hf⟩ := bnd hf
                          replace hw188 := Option.some.inj hw188
                          refine hw_aast25 hx hb hKs hH ha185.1 ha185.2 ha187.1 ha187.2 hj186 dX9_init_181 (fun H locs hH => ?_)
                          rw [hw188] at hH
                          refine lv_iinc (v := 12) (lv' := [(1, .int 12), (0, rv E (some o))]) hx hb dX9_init_182 hl (k := 0) rfl rfl (by decide) rfl (fun ls hl => ?_)
                          refine lv_goto (tgt := 163) hx hb dX9_init_185 (by decide) ?_
                          refine lv_iload_n hx hb dX9_init_163 rfl (lv_at hl 0 rfl) ?_
                          refine lv_bipush (v := 12) hx hb dX9_init_164 (by decide) ?_
                          refine lv_icmp_ge (tgt := 188) hx hb dX9_init_166 (by decide) (fun c189 => ?_) (fun c189 => ?_)
                          · skip
                            refine hl_aload_n hx hb dX9_init_188 rfl (lv_at hl 1 rfl) ?_
                            obtain ⟨a190, ha190, hf⟩ := bnd hf
                            replace ha190 := chk_some ha190
                            obtain ⟨q191, hq191, hf⟩ := bnd hf
                            refine hcV_v hx hb hml hown hts hKs hT hb0 hH (As := []) (rest := []) (k_X9_clear l E q184.1 H.size a190 w188 ha190.2 hq191) (gV m1_134 m1_135 m1_136 m1_2 m1_137) hd_X9_clear ⟨Nat.le_of_ble_eq_true rfl, Nat.le_of_ble_eq_true rfl, rfl, rfl⟩ ha190.1 ha190.2 rfl rfl rfl hl.1 rfl rc0 rfl dX9_init_189 ⟨Nat.le_of_ble_eq_true rfl, Nat.le_of_ble_eq_true rfl⟩ (fun H locs hH => ?_)
                            exact hw_aret hx hb (Nat.le_of_ble_eq_true rfl) (Nat.le_of_ble_eq_true rfl) hret hf hH hlocks dX9_init_192
                          · exact (by revert c189; decide : False).elim

theorem dL_find_0 : decode cL_find 0 = .ok (.aload_n 2, 1) := by decide +kernel
theorem dL_find_1 : decode cL_find 1 = .ok (.iconst 0, 1) := by decide +kernel
theorem dL_find_2 : decode cL_find 2 = .ok (.aload_n 0, 1) := by decide +kernel
theorem dL_find_3 : decode cL_find 3 = .ok (.iload_n 1, 1) := by decide +kernel
theorem dL_find_4 : decode cL_find 4 = .ok (.invokevirtual 7, 3) := by decide +kernel
theorem dL_find_7 : decode cL_find 7 = .ok (.i2l, 1) := by decide +kernel
theorem dL_find_8 : decode cL_find 8 = .ok (.lastore, 1) := by decide +kernel
theorem dL_find_9 : decode cL_find 9 = .ok (.goto 6, 3) := by decide +kernel
theorem dL_find_12 : decode cL_find 12 = .ok (.astore_n 3, 1) := by decide +kernel
theorem dL_find_13 : decode cL_find 13 = .ok (.iconst 1, 1) := by decide +kernel
theorem dL_find_14 : decode cL_find 14 = .ok (.ireturn, 1) := by decide +kernel
theorem dL_find_15 : decode cL_find 15 = .ok (.iconst 0, 1) := by decide +kernel
theorem dL_find_16 : decode cL_find 16 = .ok (.ireturn, 1) := by decide +kernel
theorem hs_L_find : yL_find.cls ≠ "java/lang/invoke/MethodHandle" ∧ yL_find.cls ≠ "java/lang/invoke/VarHandle" ∧ (parseMethodDescriptor yL_find.desc).map (fun d => d.parameters.length) = some 3 := by decide +kernel
set_option maxHeartbeats 4000000 in
set_option maxRecDepth 100000 in
theorem k_L_find (l : Launch) (hls : l.stackTraces = false) (E : Ev) (K : Kd) (z : Nat) (a_0 : Option Nat) (a_1 : Int32) (a_2 : Option Nat) (w : Wd) {r : Int32} {w' : Wd} (hf : f_L_find K a_0 a_1 a_2 w = some (r, w')) : Met l yL_find (Cond.codeWith yL_find cL_find 4 (Option.some Jvm.ClassFile.FieldType.int) [(0, 9, 12, 13)] :: bt) ({ frames := 7, cells := 1, slots := 6, locals := 113 } : Room) (va_Pc [rv E a_0, .int a_1, rv E a_2] (HB E K w z)) (QW E K w' r) 1 6 (hA E) := by
  refine MetH_ofW (cc := cL_find) (maxL := 4) (ret := (Option.some Jvm.ClassFile.FieldType.int)) (hh := [(0, 9, 12, 13)]) (by decide) rfl ?_
  intro p e s m args below meth c s₁ B hml htab hv
  obtain ⟨rfl, hz, hP, hKs, hT, hb0⟩ := hv
  have C : CX p l e s m _ meth c cL_find 4 RL (Option.some Jvm.ClassFile.FieldType.int) E := ⟨B.exec, B.bytes, hml, findClass_of_methodNamed B.named, fun w h => atoms_spec (ws := Cond.codeWith yL_find cL_find 4 (Option.some Jvm.ClassFile.FieldType.int) [(0, 9, 12, 13)] :: bt) B.pre w (List.mem_cons_of_mem _ h), hKs, hT, by rw [hz]; exact hb0, B.notSynchronized, B.returns⟩
  have hH : HQ E K z w s s.heap [] := ⟨hP, va_S.rf, hz⟩
  obtain ⟨hx, hb, hml, hown, hts, hKs, hT, hb0, hlocks, hret⟩ := id C
  have hl := lv_entry [rv E a_0, .int a_1, rv E a_2] (n := 4) (by simp [lg_len_nil, lg_len_i, lg_len_j, lg_len_q, lg_len_f, lg_len_d, lg_len_r])
  rw [lg_entry_eq]
  generalize (lg_sl [rv E a_0, .int a_1, rv E a_2] ++ List.replicate (4 - (lg_sl [rv E a_0, .int a_1, rv E a_2]).length) Slot.unset).toArray = ls at hl ⊢
  replace hl : lv_has ls 4 [(0, rv E a_0), (1, .int a_1), (2, rv E a_2)] := by simpa only [lv_args, cat_q, cat_i, cat_j, reduceIte, Nat.reduceEqDiff, Nat.reduceAdd, Nat.zero_add] using hl
  generalize s.heap = H at hH ⊢
  unfold f_L_find at hf
  refine hl_aload_n hx hb dL_find_0 rfl (lv_at hl 2 rfl) ?_
  refine lv_iconst (v := 0) hx hb dL_find_1 (by decide) ?_
  refine hl_aload_n hx hb dL_find_2 rfl (lv_at hl 0 rfl) ?_
  refine lv_iload_n hx hb dL_find_3 rfl (lv_at hl 1 rfl) ?_
  obtain ⟨a1, ha1, hf⟩ := bnd hf
  replace ha1 := chk_some ha1
  obtain ⟨q2, hq2, hf⟩ := bnd hf
  refine hxC_i hx hb hml hown hts hKs hT hb0 hH (As := [.int a_1]) (rest := [.int 0, rv E a_2]) (k_X12_find l hls E K H.size a1 a_1 w ha1.2 hq2) (gV m4_213 m4_214 m4_215 m1_1 m4_216) hd_X12_find ⟨Nat.le_of_ble_eq_true rfl, Nat.le_of_ble_eq_true rfl, rfl, rfl⟩ ha1.1 ha1.2 rfl rfl rfl hl.1 rfl (rcI (rcV rc0)) rfl dL_find_4 ⟨Nat.le_of_ble_eq_true rfl, Nat.le_of_ble_eq_true rfl⟩ (fun c4 hc4 H locs q9 ce9 hH hc9 hv9 hf9 => ?_) (fun v3 hv3 H locs hH => ?_)
  · replace hf := (xh_inr hc4).symm.trans hf
    by_cases h5 : c4 = 2
    · subst h5
      replace hf := (if_pos rfl).symm.trans hf
      refine vx_catch (name := "java/lang/IllegalArgumentException") hown [] ⟨0, 9, 12, 13⟩ [] htab pass0 (by decide) (by decide) (hts _ m4_212) (va_Nw.use rfl (hKs.2.1 _ m4_219)) hc9 hv9 hf9 ?_
      refine lv_astore_n (i := 3) (lv' := [(3, .ref q9), (0, rv E a_0), (1, .int a_1), (2, rv E a_2)]) hx hb dL_find_12 rfl hl (by decide) (by simp [List.filter_cons, cat_q, cat_i, cat_j, imax, imin]) (fun ls hl => ?_)
      refine lv_iconst (v := 1) hx hb dL_find_13 (by decide) ?_
      exact hw_wret hx hb (Nat.le_of_ble_eq_true rfl) (Nat.le_of_ble_eq_true rfl) hret hf hH hlocks dL_find_14
    replace hf := (if_neg h5).symm.trans hf
    cases hf
  · replace hf := (xh_inl hv3).symm.trans hf
    refine lv_i2l (v := (v3.toInt64)) hx hb dL_find_7 rfl ?_
    obtain ⟨a6, ha6, hf⟩ := bnd hf
    replace ha6 := cha_some ha6
    obtain ⟨j7, hj7, hf⟩ := bnd hf
    obtain ⟨w8, hw8, hf⟩ := bnd hf
    replace hw8 := Option.some.inj hw8
    refine hw_last (x := (v3.toInt64)) hx hb hKs hH ha6.1 ha6.2 hj7 dL_find_8 (fun H locs hH => ?_)
    rw [hw8] at hH
    refine lv_goto (tgt := 15) hx hb dL_find_9 (by decide) ?_
    refine lv_iconst (v := 0) hx hb dL_find_15 (by decide) ?_
    exact hw_wret hx hb (Nat.le_of_ble_eq_true rfl) (Nat.le_of_ble_eq_true rfl) hret hf hH hlocks dL_find_16

theorem dL_witness_0 : decode cL_witness 0 = .ok (.aload_n 3, 1) := by decide +kernel
theorem dL_witness_1 : decode cL_witness 1 = .ok (.iconst 0, 1) := by decide +kernel
theorem dL_witness_2 : decode cL_witness 2 = .ok (.aload_n 0, 1) := by decide +kernel
theorem dL_witness_3 : decode cL_witness 3 = .ok (.iload_n 1, 1) := by decide +kernel
theorem dL_witness_4 : decode cL_witness 4 = .ok (.iload_n 2, 1) := by decide +kernel
theorem dL_witness_5 : decode cL_witness 5 = .ok (.invokevirtual 26, 3) := by decide +kernel
theorem dL_witness_8 : decode cL_witness 8 = .ok (.i2l, 1) := by decide +kernel
theorem dL_witness_9 : decode cL_witness 9 = .ok (.lastore, 1) := by decide +kernel
theorem dL_witness_10 : decode cL_witness 10 = .ok (.goto 7, 3) := by decide +kernel
theorem dL_witness_13 : decode cL_witness 13 = .ok (.astore 4, 2) := by decide +kernel
theorem dL_witness_15 : decode cL_witness 15 = .ok (.iconst 1, 1) := by decide +kernel
theorem dL_witness_16 : decode cL_witness 16 = .ok (.ireturn, 1) := by decide +kernel
theorem dL_witness_17 : decode cL_witness 17 = .ok (.iconst 0, 1) := by decide +kernel
theorem dL_witness_18 : decode cL_witness 18 = .ok (.ireturn, 1) := by decide +kernel
theorem hs_L_witness : yL_witness.cls ≠ "java/lang/invoke/MethodHandle" ∧ yL_witness.cls ≠ "java/lang/invoke/VarHandle" ∧ (parseMethodDescriptor yL_witness.desc).map (fun d => d.parameters.length) = some 4 := by decide +kernel
set_option maxHeartbeats 4000000 in
set_option maxRecDepth 100000 in
theorem k_L_witness (l : Launch) (hls : l.stackTraces = false) (E : Ev) (K : Kd) (z : Nat) (a_0 : Option Nat) (a_1 : Int32) (a_2 : Int32) (a_3 : Option Nat) (w : Wd) {r : Int32} {w' : Wd} (hf : f_L_witness K a_0 a_1 a_2 a_3 w = some (r, w')) : Met l yL_witness (Cond.codeWith yL_witness cL_witness 5 (Option.some Jvm.ClassFile.FieldType.int) [(0, 10, 13, 29)] :: bt) ({ frames := 8, cells := 2, slots := 12, locals := 134 } : Room) (va_Pc [rv E a_0, .int a_1, .int a_2, rv E a_3] (HB E K w z)) (QW E K w' r) 2 12 (hA E) := by
  refine MetH_ofW (cc := cL_witness) (maxL := 5) (ret := (Option.some Jvm.ClassFile.FieldType.int)) (hh := [(0, 10, 13, 29)]) (by decide) rfl ?_
  intro p e s m args below meth c s₁ B hml htab hv
  obtain ⟨rfl, hz, hP, hKs, hT, hb0⟩ := hv
  have C : CX p l e s m _ meth c cL_witness 5 RL (Option.some Jvm.ClassFile.FieldType.int) E := ⟨B.exec, B.bytes, hml, findClass_of_methodNamed B.named, fun w h => atoms_spec (ws := Cond.codeWith yL_witness cL_witness 5 (Option.some Jvm.ClassFile.FieldType.int) [(0, 10, 13, 29)] :: bt) B.pre w (List.mem_cons_of_mem _ h), hKs, hT, by rw [hz]; exact hb0, B.notSynchronized, B.returns⟩
  have hH : HQ E K z w s s.heap [] := ⟨hP, va_S.rf, hz⟩
  obtain ⟨hx, hb, hml, hown, hts, hKs, hT, hb0, hlocks, hret⟩ := id C
  have hl := lv_entry [rv E a_0, .int a_1, .int a_2, rv E a_3] (n := 5) (by simp [lg_len_nil, lg_len_i, lg_len_j, lg_len_q, lg_len_f, lg_len_d, lg_len_r])
  rw [lg_entry_eq]
  generalize (lg_sl [rv E a_0, .int a_1, .int a_2, rv E a_3] ++ List.replicate (5 - (lg_sl [rv E a_0, .int a_1, .int a_2, rv E a_3]).length) Slot.unset).toArray = ls at hl ⊢
  replace hl : lv_has ls 5 [(0, rv E a_0), (1, .int a_1), (2, .int a_2), (3, rv E a_3)] := by simpa only [lv_args, cat_q, cat_i, cat_j, reduceIte, Nat.reduceEqDiff, Nat.reduceAdd, Nat.zero_add] using hl
  generalize s.heap = H at hH ⊢
  unfold f_L_witness at hf
  refine hl_aload_n hx hb dL_witness_0 rfl (lv_at hl 3 rfl) ?_
  refine lv_iconst (v := 0) hx hb dL_witness_1 (by decide) ?_
  refine hl_aload_n hx hb dL_witness_2 rfl (lv_at hl 0 rfl) ?_
  refine lv_iload_n hx hb dL_witness_3 rfl (lv_at hl 1 rfl) ?_
  refine lv_iload_n hx hb dL_witness_4 rfl (lv_at hl 2 rfl) ?_
  obtain ⟨a1, ha1, hf⟩ := bnd hf
  replace ha1 := chk_some ha1
  obtain ⟨q2, hq2, hf⟩ := bnd hf
  refine hxC_i hx hb hml hown hts hKs hT hb0 hH (As := [.int a_1, .int a_2]) (rest := [.int 0, rv E a_3]) (k_X12_witness l hls E K H.size a1 a_1 a_2 w ha1.2 hq2) (gV m5_86 m5_87 m5_88 m1_1 m5_89) hd_X12_witness ⟨Nat.le_of_ble_eq_true rfl, Nat.le_of_ble_eq_true rfl, rfl, rfl⟩ ha1.1 ha1.2 rfl rfl rfl hl.1 rfl (rcI (rcV rc0)) rfl dL_witness_5 ⟨Nat.le_of_ble_eq_true rfl, Nat.le_of_ble_eq_true rfl⟩ (fun c4 hc4 H locs q9 ce9 hH hc9 hv9 hf9 => ?_) (fun v3 hv3 H locs hH => ?_)
  · replace hf := (xh_inr hc4).symm.trans hf
    by_cases h5 : c4 = 1
    · subst h5
      replace hf := (if_pos rfl).symm.trans hf
      refine vx_catch (name := "java/lang/IndexOutOfBoundsException") hown [] ⟨0, 10, 13, 29⟩ [] htab pass0 (by decide) (by decide) (hts _ m5_85) (va_Nw.use rfl (hKs.2.1 _ m5_96)) hc9 hv9 hf9 ?_
      refine lv_astore (i := 4) (lv' := [(4, .ref q9), (0, rv E a_0), (1, .int a_1), (2, .int a_2), (3, rv E a_3)]) hx hb dL_witness_13 hl (by decide) (by simp [List.filter_cons, cat_q, cat_i, cat_j, imax, imin]) (fun ls hl => ?_)
      refine lv_iconst (v := 1) hx hb dL_witness_15 (by decide) ?_
      exact hw_wret hx hb (Nat.le_of_ble_eq_true rfl) (Nat.le_of_ble_eq_true rfl) hret hf hH hlocks dL_witness_16
    replace hf := (if_neg h5).symm.trans hf
    cases hf
  · replace hf := (xh_inl hv3).symm.trans hf
    refine lv_i2l (v := (v3.toInt64)) hx hb dL_witness_8 rfl ?_
    obtain ⟨a6, ha6, hf⟩ := bnd hf
    replace ha6 := cha_some ha6
    obtain ⟨j7, hj7, hf⟩ := bnd hf
    obtain ⟨w8, hw8, hf⟩ := bnd hf
    replace hw8 := Option.some.inj hw8
    refine hw_last (x := (v3.toInt64)) hx hb hKs hH ha6.1 ha6.2 hj7 dL_witness_9 (fun H locs hH => ?_)
    rw [hw8] at hH
    refine lv_goto (tgt := 17) hx hb dL_witness_10 (by decide) ?_
    refine lv_iconst (v := 0) hx hb dL_witness_17 (by decide) ?_
    exact hw_wret hx hb (Nat.le_of_ble_eq_true rfl) (Nat.le_of_ble_eq_true rfl) hret hf hH hlocks dL_witness_18

theorem dL_isOff_0 : decode cL_isOff 0 = .ok (.aload_n 3, 1) := by decide +kernel
theorem dL_isOff_1 : decode cL_isOff 1 = .ok (.iconst 0, 1) := by decide +kernel
theorem dL_isOff_2 : decode cL_isOff 2 = .ok (.aload_n 0, 1) := by decide +kernel
theorem dL_isOff_3 : decode cL_isOff 3 = .ok (.iload_n 1, 1) := by decide +kernel
theorem dL_isOff_4 : decode cL_isOff 4 = .ok (.iload_n 2, 1) := by decide +kernel
theorem dL_isOff_5 : decode cL_isOff 5 = .ok (.invokevirtual 31, 3) := by decide +kernel
theorem dL_isOff_8 : decode cL_isOff 8 = .ok (.ifCond .eq 7, 3) := by decide +kernel
theorem dL_isOff_11 : decode cL_isOff 11 = .ok (.lconst 1, 1) := by decide +kernel
theorem dL_isOff_12 : decode cL_isOff 12 = .ok (.goto 4, 3) := by decide +kernel
theorem dL_isOff_15 : decode cL_isOff 15 = .ok (.lconst 0, 1) := by decide +kernel
theorem dL_isOff_16 : decode cL_isOff 16 = .ok (.lastore, 1) := by decide +kernel
theorem dL_isOff_17 : decode cL_isOff 17 = .ok (.goto 11, 3) := by decide +kernel
theorem dL_isOff_20 : decode cL_isOff 20 = .ok (.astore 4, 2) := by decide +kernel
theorem dL_isOff_22 : decode cL_isOff 22 = .ok (.iconst 1, 1) := by decide +kernel
theorem dL_isOff_23 : decode cL_isOff 23 = .ok (.ireturn, 1) := by decide +kernel
theorem dL_isOff_24 : decode cL_isOff 24 = .ok (.astore 4, 2) := by decide +kernel
theorem dL_isOff_26 : decode cL_isOff 26 = .ok (.iconst 2, 1) := by decide +kernel
theorem dL_isOff_27 : decode cL_isOff 27 = .ok (.ireturn, 1) := by decide +kernel
theorem dL_isOff_28 : decode cL_isOff 28 = .ok (.iconst 0, 1) := by decide +kernel
theorem dL_isOff_29 : decode cL_isOff 29 = .ok (.ireturn, 1) := by decide +kernel
theorem hs_L_isOff : yL_isOff.cls ≠ "java/lang/invoke/MethodHandle" ∧ yL_isOff.cls ≠ "java/lang/invoke/VarHandle" ∧ (parseMethodDescriptor yL_isOff.desc).map (fun d => d.parameters.length) = some 4 := by decide +kernel
set_option maxHeartbeats 4000000 in
set_option maxRecDepth 100000 in
theorem k_L_isOff (l : Launch) (hls : l.stackTraces = false) (E : Ev) (K : Kd) (z : Nat) (a_0 : Option Nat) (a_1 : Int32) (a_2 : Int32) (a_3 : Option Nat) (w : Wd) {r : Int32} {w' : Wd} (hf : f_L_isOff K a_0 a_1 a_2 a_3 w = some (r, w')) : Met l yL_isOff (Cond.codeWith yL_isOff cL_isOff 5 (Option.some Jvm.ClassFile.FieldType.int) [(0, 17, 20, 29), (0, 17, 24, 13)] :: bt) ({ frames := 8, cells := 2, slots := 12, locals := 134 } : Room) (va_Pc [rv E a_0, .int a_1, .int a_2, rv E a_3] (HB E K w z)) (QW E K w' r) 2 12 (hA E) := by
  refine MetH_ofW (cc := cL_isOff) (maxL := 5) (ret := (Option.some Jvm.ClassFile.FieldType.int)) (hh := [(0, 17, 20, 29), (0, 17, 24, 13)]) (by decide) rfl ?_
  intro p e s m args below meth c s₁ B hml htab hv
  obtain ⟨rfl, hz, hP, hKs, hT, hb0⟩ := hv
  have C : CX p l e s m _ meth c cL_isOff 5 RL (Option.some Jvm.ClassFile.FieldType.int) E := ⟨B.exec, B.bytes, hml, findClass_of_methodNamed B.named, fun w h => atoms_spec (ws := Cond.codeWith yL_isOff cL_isOff 5 (Option.some Jvm.ClassFile.FieldType.int) [(0, 17, 20, 29), (0, 17, 24, 13)] :: bt) B.pre w (List.mem_cons_of_mem _ h), hKs, hT, by rw [hz]; exact hb0, B.notSynchronized, B.returns⟩
  have hH : HQ E K z w s s.heap [] := ⟨hP, va_S.rf, hz⟩
  obtain ⟨hx, hb, hml, hown, hts, hKs, hT, hb0, hlocks, hret⟩ := id C
  have hl := lv_entry [rv E a_0, .int a_1, .int a_2, rv E a_3] (n := 5) (by simp [lg_len_nil, lg_len_i, lg_len_j, lg_len_q, lg_len_f, lg_len_d, lg_len_r])
  rw [lg_entry_eq]
  generalize (lg_sl [rv E a_0, .int a_1, .int a_2, rv E a_3] ++ List.replicate (5 - (lg_sl [rv E a_0, .int a_1, .int a_2, rv E a_3]).length) Slot.unset).toArray = ls at hl ⊢
  replace hl : lv_has ls 5 [(0, rv E a_0), (1, .int a_1), (2, .int a_2), (3, rv E a_3)] := by simpa only [lv_args, cat_q, cat_i, cat_j, reduceIte, Nat.reduceEqDiff, Nat.reduceAdd, Nat.zero_add] using hl
  generalize s.heap = H at hH ⊢
  unfold f_L_isOff at hf
  refine hl_aload_n hx hb dL_isOff_0 rfl (lv_at hl 3 rfl) ?_
  refine lv_iconst (v := 0) hx hb dL_isOff_1 (by decide) ?_
  refine hl_aload_n hx hb dL_isOff_2 rfl (lv_at hl 0 rfl) ?_
  refine lv_iload_n hx hb dL_isOff_3 rfl (lv_at hl 1 rfl) ?_
  refine lv_iload_n hx hb dL_isOff_4 rfl (lv_at hl 2 rfl) ?_
  obtain ⟨a1, ha1, hf⟩ := bnd hf
  replace ha1 := chk_some ha1
  obtain ⟨q2, hq2, hf⟩ := bnd hf
  refine hxC_z hx hb hml hown hts hKs hT hb0 hH (As := [.int a_1, .int a_2]) (rest := [.int 0, rv E a_3]) (k_X12_isOff l hls E K H.size a1 a_1 a_2 w ha1.2 hq2) (gV m5_116 m5_117 m5_118 m1_1 m5_119) hd_X12_isOff ⟨Nat.le_of_ble_eq_true rfl, Nat.le_of_ble_eq_true rfl, rfl, rfl⟩ ha1.1 ha1.2 rfl rfl rfl hl.1 rfl (rcI (rcV rc0)) rfl dL_isOff_5 ⟨Nat.le_of_ble_eq_true rfl, Nat.le_of_ble_eq_true rfl⟩ (fun c4 hc4 H locs q9 ce9 hH hc9 hv9 hf9 => ?_) (fun v3 hv3 H locs hH => ?_)
  · replace hf := (xh_inr hc4).symm.trans hf
    by_cases h5 : c4 = 1
    · subst h5
      replace hf := (if_pos rfl).symm.trans hf
      refine vx_catch (name := "java/lang/IndexOutOfBoundsException") hown [] ⟨0, 17, 20, 29⟩ [⟨0, 17, 24, 13⟩] htab pass0 (by decide) (by decide) (hts _ m5_85) (va_Nw.use rfl (hKs.2.1 _ m5_96)) hc9 hv9 hf9 ?_
      refine lv_astore (i := 4) (lv' := [(4, .ref q9), (0, rv E a_0), (1, .int a_1), (2, .int a_2), (3, rv E a_3)]) hx hb dL_isOff_20 hl (by decide) (by simp [List.filter_cons, cat_q, cat_i, cat_j, imax, imin]) (fun ls hl => ?_)
      refine lv_iconst (v := 1) hx hb dL_isOff_22 (by decide) ?_
      exact hw_wret hx hb (Nat.le_of_ble_eq_true rfl) (Nat.le_of_ble_eq_true rfl) hret hf hH hlocks dL_isOff_23
    replace hf := (if_neg h5).symm.trans hf
    by_cases h6 : c4 = 2
    · subst h6
      replace hf := (if_pos rfl).symm.trans hf
      refine vx_catch (name := "java/lang/IllegalArgumentException") hown [⟨0, 17, 20, 29⟩] ⟨0, 17, 24, 13⟩ [] htab (pass1 (Or.inr ⟨by decide, "java/lang/IndexOutOfBoundsException", hts _ m5_85, hKs.2.2.2.1 ("java/lang/IllegalArgumentException", "java/lang/IndexOutOfBoundsException") (by decide)⟩) pass0) (by decide) (by decide) (hts _ m4_212) (va_Nw.use rfl (hKs.2.1 _ m4_219)) hc9 hv9 hf9 ?_
      refine lv_astore (i := 4) (lv' := [(4, .ref q9), (0, rv E a_0), (1, .int a_1), (2, .int a_2), (3, rv E a_3)]) hx hb dL_isOff_24 hl (by decide) (by simp [List.filter_cons, cat_q, cat_i, cat_j, imax, imin]) (fun ls hl => ?_)
      refine lv_iconst (v := 2) hx hb dL_isOff_26 (by decide) ?_
      exact hw_wret hx hb (Nat.le_of_ble_eq_true rfl) (Nat.le_of_ble_eq_true rfl) hret hf hH hlocks dL_isOff_27
    replace hf := (if_neg h6).symm.trans hf
    cases hf
  · replace hf := (xh_inl hv3).symm.trans hf
    refine lv_if_eq (tgt := 15) hx hb dL_isOff_8 (by decide) (fun c7 => ?_) (fun c7 => ?_)
    · replace hf := (if_pos c7).symm.trans hf
      refine lv_lconst (v := 0) hx hb dL_isOff_15 rfl ?_
      obtain ⟨a8, ha8, hf⟩ := bnd hf
      replace ha8 := cha_some ha8
      obtain ⟨j9, hj9, hf⟩ := bnd hf
      obtain ⟨w10, hw10, hf⟩ := bnd hf
      replace hw10 := Option.some.inj hw10
      refine hw_last (x := 0) hx hb hKs hH ha8.1 ha8.2 hj9 dL_isOff_16 (fun H locs hH => ?_)
      rw [hw10] at hH
      refine lv_goto (tgt := 28) hx hb dL_isOff_17 (by decide) ?_
      refine lv_iconst (v := 0) hx hb dL_isOff_28 (by decide) ?_
      exact hw_wret hx hb (Nat.le_of_ble_eq_true rfl) (Nat.le_of_ble_eq_true rfl) hret hf hH hlocks dL_isOff_29
    · replace hf := (if_neg c7).symm.trans hf
      refine lv_lconst (v := 1) hx hb dL_isOff_11 rfl ?_
      refine lv_goto (tgt := 16) hx hb dL_isOff_12 (by decide) ?_
      obtain ⟨a11, ha11, hf⟩ := bnd hf
      replace ha11 := cha_some ha11
      obtain ⟨j12, hj12, hf⟩ := bnd hf
      obtain ⟨w13, hw13, hf⟩ := bnd hf
      replace hw13 := Option.some.inj hw13
      refine hw_last (x := 1) hx hb hKs hH ha11.1 ha11.2 hj12 dL_isOff_16 (fun H locs hH => ?_)
      rw [hw13] at hH
      refine lv_goto (tgt := 28) hx hb dL_isOff_17 (by decide) ?_
      refine lv_iconst (v := 0) hx hb dL_isOff_28 (by decide) ?_
      exact hw_wret hx hb (Nat.le_of_ble_eq_true rfl) (Nat.le_of_ble_eq_true rfl) hret hf hH hlocks dL_isOff_29

theorem dL_isBarred_0 : decode cL_isBarred 0 = .ok (.aload_n 3, 1) := by decide +kernel
theorem dL_isBarred_1 : decode cL_isBarred 1 = .ok (.iconst 0, 1) := by decide +kernel
theorem dL_isBarred_2 : decode cL_isBarred 2 = .ok (.aload_n 0, 1) := by decide +kernel
theorem dL_isBarred_3 : decode cL_isBarred 3 = .ok (.iload_n 1, 1) := by decide +kernel
theorem dL_isBarred_4 : decode cL_isBarred 4 = .ok (.iload_n 2, 1) := by decide +kernel
theorem dL_isBarred_5 : decode cL_isBarred 5 = .ok (.invokevirtual 35, 3) := by decide +kernel
theorem dL_isBarred_8 : decode cL_isBarred 8 = .ok (.ifCond .eq 7, 3) := by decide +kernel
theorem dL_isBarred_11 : decode cL_isBarred 11 = .ok (.lconst 1, 1) := by decide +kernel
theorem dL_isBarred_12 : decode cL_isBarred 12 = .ok (.goto 4, 3) := by decide +kernel
theorem dL_isBarred_15 : decode cL_isBarred 15 = .ok (.lconst 0, 1) := by decide +kernel
theorem dL_isBarred_16 : decode cL_isBarred 16 = .ok (.lastore, 1) := by decide +kernel
theorem dL_isBarred_17 : decode cL_isBarred 17 = .ok (.goto 7, 3) := by decide +kernel
theorem dL_isBarred_20 : decode cL_isBarred 20 = .ok (.astore 4, 2) := by decide +kernel
theorem dL_isBarred_22 : decode cL_isBarred 22 = .ok (.iconst 1, 1) := by decide +kernel
theorem dL_isBarred_23 : decode cL_isBarred 23 = .ok (.ireturn, 1) := by decide +kernel
theorem dL_isBarred_24 : decode cL_isBarred 24 = .ok (.iconst 0, 1) := by decide +kernel
theorem dL_isBarred_25 : decode cL_isBarred 25 = .ok (.ireturn, 1) := by decide +kernel
theorem hs_L_isBarred : yL_isBarred.cls ≠ "java/lang/invoke/MethodHandle" ∧ yL_isBarred.cls ≠ "java/lang/invoke/VarHandle" ∧ (parseMethodDescriptor yL_isBarred.desc).map (fun d => d.parameters.length) = some 4 := by decide +kernel
set_option maxHeartbeats 4000000 in
set_option maxRecDepth 100000 in
theorem k_L_isBarred (l : Launch) (hls : l.stackTraces = false) (E : Ev) (K : Kd) (z : Nat) (a_0 : Option Nat) (a_1 : Int32) (a_2 : Int32) (a_3 : Option Nat) (w : Wd) {r : Int32} {w' : Wd} (hf : f_L_isBarred K a_0 a_1 a_2 a_3 w = some (r, w')) : Met l yL_isBarred (Cond.codeWith yL_isBarred cL_isBarred 5 (Option.some Jvm.ClassFile.FieldType.int) [(0, 17, 20, 29)] :: bt) ({ frames := 8, cells := 2, slots := 12, locals := 134 } : Room) (va_Pc [rv E a_0, .int a_1, .int a_2, rv E a_3] (HB E K w z)) (QW E K w' r) 2 12 (hA E) := by
  refine MetH_ofW (cc := cL_isBarred) (maxL := 5) (ret := (Option.some Jvm.ClassFile.FieldType.int)) (hh := [(0, 17, 20, 29)]) (by decide) rfl ?_
  intro p e s m args below meth c s₁ B hml htab hv
  obtain ⟨rfl, hz, hP, hKs, hT, hb0⟩ := hv
  have C : CX p l e s m _ meth c cL_isBarred 5 RL (Option.some Jvm.ClassFile.FieldType.int) E := ⟨B.exec, B.bytes, hml, findClass_of_methodNamed B.named, fun w h => atoms_spec (ws := Cond.codeWith yL_isBarred cL_isBarred 5 (Option.some Jvm.ClassFile.FieldType.int) [(0, 17, 20, 29)] :: bt) B.pre w (List.mem_cons_of_mem _ h), hKs, hT, by rw [hz]; exact hb0, B.notSynchronized, B.returns⟩
  have hH : HQ E K z w s s.heap [] := ⟨hP, va_S.rf, hz⟩
  obtain ⟨hx, hb, hml, hown, hts, hKs, hT, hb0, hlocks, hret⟩ := id C
  have hl := lv_entry [rv E a_0, .int a_1, .int a_2, rv E a_3] (n := 5) (by simp [lg_len_nil, lg_len_i, lg_len_j, lg_len_q, lg_len_f, lg_len_d, lg_len_r])
  rw [lg_entry_eq]
  generalize (lg_sl [rv E a_0, .int a_1, .int a_2, rv E a_3] ++ List.replicate (5 - (lg_sl [rv E a_0, .int a_1, .int a_2, rv E a_3]).length) Slot.unset).toArray = ls at hl ⊢
  replace hl : lv_has ls 5 [(0, rv E a_0), (1, .int a_1), (2, .int a_2), (3, rv E a_3)] := by simpa only [lv_args, cat_q, cat_i, cat_j, reduceIte, Nat.reduceEqDiff, Nat.reduceAdd, Nat.zero_add] using hl
  generalize s.heap = H at hH ⊢
  unfold f_L_isBarred at hf
  refine hl_aload_n hx hb dL_isBarred_0 rfl (lv_at hl 3 rfl) ?_
  refine lv_iconst (v := 0) hx hb dL_isBarred_1 (by decide) ?_
  refine hl_aload_n hx hb dL_isBarred_2 rfl (lv_at hl 0 rfl) ?_
  refine lv_iload_n hx hb dL_isBarred_3 rfl (lv_at hl 1 rfl) ?_
  refine lv_iload_n hx hb dL_isBarred_4 rfl (lv_at hl 2 rfl) ?_
  obtain ⟨a1, ha1, hf⟩ := bnd hf
  replace ha1 := chk_some ha1
  obtain ⟨q2, hq2, hf⟩ := bnd hf
  refine hxC_z hx hb hml hown hts hKs hT hb0 hH (As := [.int a_1, .int a_2]) (rest := [.int 0, rv E a_3]) (k_X12_isBarred l hls E K H.size a1 a_1 a_2 w ha1.2 hq2) (gV m5_124 m5_125 m5_126 m1_1 m5_127) hd_X12_isBarred ⟨Nat.le_of_ble_eq_true rfl, Nat.le_of_ble_eq_true rfl, rfl, rfl⟩ ha1.1 ha1.2 rfl rfl rfl hl.1 rfl (rcI (rcV rc0)) rfl dL_isBarred_5 ⟨Nat.le_of_ble_eq_true rfl, Nat.le_of_ble_eq_true rfl⟩ (fun c4 hc4 H locs q9 ce9 hH hc9 hv9 hf9 => ?_) (fun v3 hv3 H locs hH => ?_)
  · replace hf := (xh_inr hc4).symm.trans hf
    by_cases h5 : c4 = 1
    · subst h5
      replace hf := (if_pos rfl).symm.trans hf
      refine vx_catch (name := "java/lang/IndexOutOfBoundsException") hown [] ⟨0, 17, 20, 29⟩ [] htab pass0 (by decide) (by decide) (hts _ m5_85) (va_Nw.use rfl (hKs.2.1 _ m5_96)) hc9 hv9 hf9 ?_
      refine lv_astore (i := 4) (lv' := [(4, .ref q9), (0, rv E a_0), (1, .int a_1), (2, .int a_2), (3, rv E a_3)]) hx hb dL_isBarred_20 hl (by decide) (by simp [List.filter_cons, cat_q, cat_i, cat_j, imax, imin]) (fun ls hl => ?_)
      refine lv_iconst (v := 1) hx hb dL_isBarred_22 (by decide) ?_
      exact hw_wret hx hb (Nat.le_of_ble_eq_true rfl) (Nat.le_of_ble_eq_true rfl) hret hf hH hlocks dL_isBarred_23
    replace hf := (if_neg h5).symm.trans hf
    cases hf
  · replace hf := (xh_inl hv3).symm.trans hf
    refine lv_if_eq (tgt := 15) hx hb dL_isBarred_8 (by decide) (fun c6 => ?_) (fun c6 => ?_)
    · replace hf := (if_pos c6).symm.trans hf
      refine lv_lconst (v := 0) hx hb dL_isBarred_15 rfl ?_
      obtain ⟨a7, ha7, hf⟩ := bnd hf
      replace ha7 := cha_some ha7
      obtain ⟨j8, hj8, hf⟩ := bnd hf
      obtain ⟨w9, hw9, hf⟩ := bnd hf
      replace hw9 := Option.some.inj hw9
      refine hw_last (x := 0) hx hb hKs hH ha7.1 ha7.2 hj8 dL_isBarred_16 (fun H locs hH => ?_)
      rw [hw9] at hH
      refine lv_goto (tgt := 24) hx hb dL_isBarred_17 (by decide) ?_
      refine lv_iconst (v := 0) hx hb dL_isBarred_24 (by decide) ?_
      exact hw_wret hx hb (Nat.le_of_ble_eq_true rfl) (Nat.le_of_ble_eq_true rfl) hret hf hH hlocks dL_isBarred_25
    · replace hf := (if_neg c6).symm.trans hf
      refine lv_lconst (v := 1) hx hb dL_isBarred_11 rfl ?_
      refine lv_goto (tgt := 16) hx hb dL_isBarred_12 (by decide) ?_
      obtain ⟨a10, ha10, hf⟩ := bnd hf
      replace ha10 := cha_some ha10
      obtain ⟨j11, hj11, hf⟩ := bnd hf
      obtain ⟨w12, hw12, hf⟩ := bnd hf
      replace hw12 := Option.some.inj hw12
      refine hw_last (x := 1) hx hb hKs hH ha10.1 ha10.2 hj11 dL_isBarred_16 (fun H locs hH => ?_)
      rw [hw12] at hH
      refine lv_goto (tgt := 24) hx hb dL_isBarred_17 (by decide) ?_
      refine lv_iconst (v := 0) hx hb dL_isBarred_24 (by decide) ?_
      exact hw_wret hx hb (Nat.le_of_ble_eq_true rfl) (Nat.le_of_ble_eq_true rfl) hret hf hH hlocks dL_isBarred_25

theorem dL_load_0 : decode cL_load 0 = .ok (.aload_n 2, 1) := by decide +kernel
theorem dL_load_1 : decode cL_load 1 = .ok (.iconst 0, 1) := by decide +kernel
theorem dL_load_2 : decode cL_load 2 = .ok (.aload_n 0, 1) := by decide +kernel
theorem dL_load_3 : decode cL_load 3 = .ok (.iload_n 1, 1) := by decide +kernel
theorem dL_load_4 : decode cL_load 4 = .ok (.invokevirtual 38, 3) := by decide +kernel
theorem dL_load_7 : decode cL_load 7 = .ok (.i2l, 1) := by decide +kernel
theorem dL_load_8 : decode cL_load 8 = .ok (.lastore, 1) := by decide +kernel
theorem dL_load_9 : decode cL_load 9 = .ok (.goto 6, 3) := by decide +kernel
theorem dL_load_12 : decode cL_load 12 = .ok (.astore_n 3, 1) := by decide +kernel
theorem dL_load_13 : decode cL_load 13 = .ok (.iconst 1, 1) := by decide +kernel
theorem dL_load_14 : decode cL_load 14 = .ok (.ireturn, 1) := by decide +kernel
theorem dL_load_15 : decode cL_load 15 = .ok (.iconst 0, 1) := by decide +kernel
theorem dL_load_16 : decode cL_load 16 = .ok (.ireturn, 1) := by decide +kernel
theorem hs_L_load : yL_load.cls ≠ "java/lang/invoke/MethodHandle" ∧ yL_load.cls ≠ "java/lang/invoke/VarHandle" ∧ (parseMethodDescriptor yL_load.desc).map (fun d => d.parameters.length) = some 3 := by decide +kernel
set_option maxHeartbeats 4000000 in
set_option maxRecDepth 100000 in
theorem k_L_load (l : Launch) (hls : l.stackTraces = false) (E : Ev) (K : Kd) (z : Nat) (a_0 : Option Nat) (a_1 : Int32) (a_2 : Option Nat) (w : Wd) {r : Int32} {w' : Wd} (hf : f_L_load K a_0 a_1 a_2 w = some (r, w')) : Met l yL_load (Cond.codeWith yL_load cL_load 4 (Option.some Jvm.ClassFile.FieldType.int) [(0, 9, 12, 29)] :: bt) ({ frames := 8, cells := 1, slots := 6, locals := 133 } : Room) (va_Pc [rv E a_0, .int a_1, rv E a_2] (HB E K w z)) (QW E K w' r) 1 6 (hA E) := by
  refine MetH_ofW (cc := cL_load) (maxL := 4) (ret := (Option.some Jvm.ClassFile.FieldType.int)) (hh := [(0, 9, 12, 29)]) (by decide) rfl ?_
  intro p e s m args below meth c s₁ B hml htab hv
  obtain ⟨rfl, hz, hP, hKs, hT, hb0⟩ := hv
  have C : CX p l e s m _ meth c cL_load 4 RL (Option.some Jvm.ClassFile.FieldType.int) E := ⟨B.exec, B.bytes, hml, findClass_of_methodNamed B.named, fun w h => atoms_spec (ws := Cond.codeWith yL_load cL_load 4 (Option.some Jvm.ClassFile.FieldType.int) [(0, 9, 12, 29)] :: bt) B.pre w (List.mem_cons_of_mem _ h), hKs, hT, by rw [hz]; exact hb0, B.notSynchronized, B.returns⟩
  have hH : HQ E K z w s s.heap [] := ⟨hP, va_S.rf, hz⟩
  obtain ⟨hx, hb, hml, hown, hts, hKs, hT, hb0, hlocks, hret⟩ := id C
  have hl := lv_entry [rv E a_0, .int a_1, rv E a_2] (n := 4) (by simp [lg_len_nil, lg_len_i, lg_len_j, lg_len_q, lg_len_f, lg_len_d, lg_len_r])
  rw [lg_entry_eq]
  generalize (lg_sl [rv E a_0, .int a_1, rv E a_2] ++ List.replicate (4 - (lg_sl [rv E a_0, .int a_1, rv E a_2]).length) Slot.unset).toArray = ls at hl ⊢
  replace hl : lv_has ls 4 [(0, rv E a_0), (1, .int a_1), (2, rv E a_2)] := by simpa only [lv_args, cat_q, cat_i, cat_j, reduceIte, Nat.reduceEqDiff, Nat.reduceAdd, Nat.zero_add] using hl
  generalize s.heap = H at hH ⊢
  unfold f_L_load at hf
  refine hl_aload_n hx hb dL_load_0 rfl (lv_at hl 2 rfl) ?_
  refine lv_iconst (v := 0) hx hb dL_load_1 (by decide) ?_
  refine hl_aload_n hx hb dL_load_2 rfl (lv_at hl 0 rfl) ?_
  refine lv_iload_n hx hb dL_load_3 rfl (lv_at hl 1 rfl) ?_
  obtain ⟨a1, ha1, hf⟩ := bnd hf
  replace ha1 := chk_some ha1
  obtain ⟨q2, hq2, hf⟩ := bnd hf
  refine hxC_i hx hb hml hown hts hKs hT hb0 hH (As := [.int a_1]) (rest := [.int 0, rv E a_2]) (k_X12_load l hls E K H.size a1 a_1 w ha1.2 hq2) (gV m5_133 m5_134 m5_135 m1_1 m5_136) hd_X12_load ⟨Nat.le_of_ble_eq_true rfl, Nat.le_of_ble_eq_true rfl, rfl, rfl⟩ ha1.1 ha1.2 rfl rfl rfl hl.1 rfl (rcI (rcV rc0)) rfl dL_load_4 ⟨Nat.le_of_ble_eq_true rfl, Nat.le_of_ble_eq_true rfl⟩ (fun c4 hc4 H locs q9 ce9 hH hc9 hv9 hf9 => ?_) (fun v3 hv3 H locs hH => ?_)
  · replace hf := (xh_inr hc4).symm.trans hf
    by_cases h5 : c4 = 1
    · subst h5
      replace hf := (if_pos rfl).symm.trans hf
      refine vx_catch (name := "java/lang/IndexOutOfBoundsException") hown [] ⟨0, 9, 12, 29⟩ [] htab pass0 (by decide) (by decide) (hts _ m5_85) (va_Nw.use rfl (hKs.2.1 _ m5_96)) hc9 hv9 hf9 ?_
      refine lv_astore_n (i := 3) (lv' := [(3, .ref q9), (0, rv E a_0), (1, .int a_1), (2, rv E a_2)]) hx hb dL_load_12 rfl hl (by decide) (by simp [List.filter_cons, cat_q, cat_i, cat_j, imax, imin]) (fun ls hl => ?_)
      refine lv_iconst (v := 1) hx hb dL_load_13 (by decide) ?_
      exact hw_wret hx hb (Nat.le_of_ble_eq_true rfl) (Nat.le_of_ble_eq_true rfl) hret hf hH hlocks dL_load_14
    replace hf := (if_neg h5).symm.trans hf
    cases hf
  · replace hf := (xh_inl hv3).symm.trans hf
    refine lv_i2l (v := (v3.toInt64)) hx hb dL_load_7 rfl ?_
    obtain ⟨a6, ha6, hf⟩ := bnd hf
    replace ha6 := cha_some ha6
    obtain ⟨j7, hj7, hf⟩ := bnd hf
    obtain ⟨w8, hw8, hf⟩ := bnd hf
    replace hw8 := Option.some.inj hw8
    refine hw_last (x := (v3.toInt64)) hx hb hKs hH ha6.1 ha6.2 hj7 dL_load_8 (fun H locs hH => ?_)
    rw [hw8] at hH
    refine lv_goto (tgt := 15) hx hb dL_load_9 (by decide) ?_
    refine lv_iconst (v := 0) hx hb dL_load_15 (by decide) ?_
    exact hw_wret hx hb (Nat.le_of_ble_eq_true rfl) (Nat.le_of_ble_eq_true rfl) hret hf hH hlocks dL_load_16

theorem dL_matter_0 : decode cL_matter 0 = .ok (.aload_n 3, 1) := by decide +kernel
theorem dL_matter_1 : decode cL_matter 1 = .ok (.iconst 0, 1) := by decide +kernel
theorem dL_matter_2 : decode cL_matter 2 = .ok (.aload_n 0, 1) := by decide +kernel
theorem dL_matter_3 : decode cL_matter 3 = .ok (.iload_n 1, 1) := by decide +kernel
theorem dL_matter_4 : decode cL_matter 4 = .ok (.iload_n 2, 1) := by decide +kernel
theorem dL_matter_5 : decode cL_matter 5 = .ok (.invokevirtual 41, 3) := by decide +kernel
theorem dL_matter_8 : decode cL_matter 8 = .ok (.i2l, 1) := by decide +kernel
theorem dL_matter_9 : decode cL_matter 9 = .ok (.lastore, 1) := by decide +kernel
theorem dL_matter_10 : decode cL_matter 10 = .ok (.goto 7, 3) := by decide +kernel
theorem dL_matter_13 : decode cL_matter 13 = .ok (.astore 4, 2) := by decide +kernel
theorem dL_matter_15 : decode cL_matter 15 = .ok (.iconst 1, 1) := by decide +kernel
theorem dL_matter_16 : decode cL_matter 16 = .ok (.ireturn, 1) := by decide +kernel
theorem dL_matter_17 : decode cL_matter 17 = .ok (.iconst 0, 1) := by decide +kernel
theorem dL_matter_18 : decode cL_matter 18 = .ok (.ireturn, 1) := by decide +kernel
theorem hs_L_matter : yL_matter.cls ≠ "java/lang/invoke/MethodHandle" ∧ yL_matter.cls ≠ "java/lang/invoke/VarHandle" ∧ (parseMethodDescriptor yL_matter.desc).map (fun d => d.parameters.length) = some 4 := by decide +kernel
set_option maxHeartbeats 4000000 in
set_option maxRecDepth 100000 in
theorem k_L_matter (l : Launch) (hls : l.stackTraces = false) (E : Ev) (K : Kd) (z : Nat) (a_0 : Option Nat) (a_1 : Int32) (a_2 : Int32) (a_3 : Option Nat) (w : Wd) {r : Int32} {w' : Wd} (hf : f_L_matter K a_0 a_1 a_2 a_3 w = some (r, w')) : Met l yL_matter (Cond.codeWith yL_matter cL_matter 5 (Option.some Jvm.ClassFile.FieldType.int) [(0, 10, 13, 29)] :: bt) ({ frames := 8, cells := 2, slots := 12, locals := 136 } : Room) (va_Pc [rv E a_0, .int a_1, .int a_2, rv E a_3] (HB E K w z)) (QW E K w' r) 2 12 (hA E) := by
  refine MetH_ofW (cc := cL_matter) (maxL := 5) (ret := (Option.some Jvm.ClassFile.FieldType.int)) (hh := [(0, 10, 13, 29)]) (by decide) rfl ?_
  intro p e s m args below meth c s₁ B hml htab hv
  obtain ⟨rfl, hz, hP, hKs, hT, hb0⟩ := hv
  have C : CX p l e s m _ meth c cL_matter 5 RL (Option.some Jvm.ClassFile.FieldType.int) E := ⟨B.exec, B.bytes, hml, findClass_of_methodNamed B.named, fun w h => atoms_spec (ws := Cond.codeWith yL_matter cL_matter 5 (Option.some Jvm.ClassFile.FieldType.int) [(0, 10, 13, 29)] :: bt) B.pre w (List.mem_cons_of_mem _ h), hKs, hT, by rw [hz]; exact hb0, B.notSynchronized, B.returns⟩
  have hH : HQ E K z w s s.heap [] := ⟨hP, va_S.rf, hz⟩
  obtain ⟨hx, hb, hml, hown, hts, hKs, hT, hb0, hlocks, hret⟩ := id C
  have hl := lv_entry [rv E a_0, .int a_1, .int a_2, rv E a_3] (n := 5) (by simp [lg_len_nil, lg_len_i, lg_len_j, lg_len_q, lg_len_f, lg_len_d, lg_len_r])
  rw [lg_entry_eq]
  generalize (lg_sl [rv E a_0, .int a_1, .int a_2, rv E a_3] ++ List.replicate (5 - (lg_sl [rv E a_0, .int a_1, .int a_2, rv E a_3]).length) Slot.unset).toArray = ls at hl ⊢
  replace hl : lv_has ls 5 [(0, rv E a_0), (1, .int a_1), (2, .int a_2), (3, rv E a_3)] := by simpa only [lv_args, cat_q, cat_i, cat_j, reduceIte, Nat.reduceEqDiff, Nat.reduceAdd, Nat.zero_add] using hl
  generalize s.heap = H at hH ⊢
  unfold f_L_matter at hf
  refine hl_aload_n hx hb dL_matter_0 rfl (lv_at hl 3 rfl) ?_
  refine lv_iconst (v := 0) hx hb dL_matter_1 (by decide) ?_
  refine hl_aload_n hx hb dL_matter_2 rfl (lv_at hl 0 rfl) ?_
  refine lv_iload_n hx hb dL_matter_3 rfl (lv_at hl 1 rfl) ?_
  refine lv_iload_n hx hb dL_matter_4 rfl (lv_at hl 2 rfl) ?_
  obtain ⟨a1, ha1, hf⟩ := bnd hf
  replace ha1 := chk_some ha1
  obtain ⟨q2, hq2, hf⟩ := bnd hf
  refine hxC_i hx hb hml hown hts hKs hT hb0 hH (As := [.int a_1, .int a_2]) (rest := [.int 0, rv E a_3]) (k_X12_matter l hls E K H.size a1 a_1 a_2 w ha1.2 hq2) (gV m5_141 m5_142 m5_143 m1_1 m5_144) hd_X12_matter ⟨Nat.le_of_ble_eq_true rfl, Nat.le_of_ble_eq_true rfl, rfl, rfl⟩ ha1.1 ha1.2 rfl rfl rfl hl.1 rfl (rcI (rcV rc0)) rfl dL_matter_5 ⟨Nat.le_of_ble_eq_true rfl, Nat.le_of_ble_eq_true rfl⟩ (fun c4 hc4 H locs q9 ce9 hH hc9 hv9 hf9 => ?_) (fun v3 hv3 H locs hH => ?_)
  · replace hf := (xh_inr hc4).symm.trans hf
    by_cases h5 : c4 = 1
    · subst h5
      replace hf := (if_pos rfl).symm.trans hf
      refine vx_catch (name := "java/lang/IndexOutOfBoundsException") hown [] ⟨0, 10, 13, 29⟩ [] htab pass0 (by decide) (by decide) (hts _ m5_85) (va_Nw.use rfl (hKs.2.1 _ m5_96)) hc9 hv9 hf9 ?_
      refine lv_astore (i := 4) (lv' := [(4, .ref q9), (0, rv E a_0), (1, .int a_1), (2, .int a_2), (3, rv E a_3)]) hx hb dL_matter_13 hl (by decide) (by simp [List.filter_cons, cat_q, cat_i, cat_j, imax, imin]) (fun ls hl => ?_)
      refine lv_iconst (v := 1) hx hb dL_matter_15 (by decide) ?_
      exact hw_wret hx hb (Nat.le_of_ble_eq_true rfl) (Nat.le_of_ble_eq_true rfl) hret hf hH hlocks dL_matter_16
    replace hf := (if_neg h5).symm.trans hf
    cases hf
  · replace hf := (xh_inl hv3).symm.trans hf
    refine lv_i2l (v := (v3.toInt64)) hx hb dL_matter_8 rfl ?_
    obtain ⟨a6, ha6, hf⟩ := bnd hf
    replace ha6 := cha_some ha6
    obtain ⟨j7, hj7, hf⟩ := bnd hf
    obtain ⟨w8, hw8, hf⟩ := bnd hf
    replace hw8 := Option.some.inj hw8
    refine hw_last (x := (v3.toInt64)) hx hb hKs hH ha6.1 ha6.2 hj7 dL_matter_9 (fun H locs hH => ?_)
    rw [hw8] at hH
    refine lv_goto (tgt := 17) hx hb dL_matter_10 (by decide) ?_
    refine lv_iconst (v := 0) hx hb dL_matter_17 (by decide) ?_
    exact hw_wret hx hb (Nat.le_of_ble_eq_true rfl) (Nat.le_of_ble_eq_true rfl) hret hf hH hlocks dL_matter_18

theorem dL_hearing_0 : decode cL_hearing 0 = .ok (.aload_n 3, 1) := by decide +kernel
theorem dL_hearing_1 : decode cL_hearing 1 = .ok (.iconst 0, 1) := by decide +kernel
theorem dL_hearing_2 : decode cL_hearing 2 = .ok (.aload_n 0, 1) := by decide +kernel
theorem dL_hearing_3 : decode cL_hearing 3 = .ok (.iload_n 1, 1) := by decide +kernel
theorem dL_hearing_4 : decode cL_hearing 4 = .ok (.iload_n 2, 1) := by decide +kernel
theorem dL_hearing_5 : decode cL_hearing 5 = .ok (.invokevirtual 44, 3) := by decide +kernel
theorem dL_hearing_8 : decode cL_hearing 8 = .ok (.i2l, 1) := by decide +kernel
theorem dL_hearing_9 : decode cL_hearing 9 = .ok (.lastore, 1) := by decide +kernel
theorem dL_hearing_10 : decode cL_hearing 10 = .ok (.goto 7, 3) := by decide +kernel
theorem dL_hearing_13 : decode cL_hearing 13 = .ok (.astore 4, 2) := by decide +kernel
theorem dL_hearing_15 : decode cL_hearing 15 = .ok (.iconst 1, 1) := by decide +kernel
theorem dL_hearing_16 : decode cL_hearing 16 = .ok (.ireturn, 1) := by decide +kernel
theorem dL_hearing_17 : decode cL_hearing 17 = .ok (.iconst 0, 1) := by decide +kernel
theorem dL_hearing_18 : decode cL_hearing 18 = .ok (.ireturn, 1) := by decide +kernel
theorem hs_L_hearing : yL_hearing.cls ≠ "java/lang/invoke/MethodHandle" ∧ yL_hearing.cls ≠ "java/lang/invoke/VarHandle" ∧ (parseMethodDescriptor yL_hearing.desc).map (fun d => d.parameters.length) = some 4 := by decide +kernel
set_option maxHeartbeats 4000000 in
set_option maxRecDepth 100000 in
theorem k_L_hearing (l : Launch) (hls : l.stackTraces = false) (E : Ev) (K : Kd) (z : Nat) (a_0 : Option Nat) (a_1 : Int32) (a_2 : Int32) (a_3 : Option Nat) (w : Wd) {r : Int32} {w' : Wd} (hf : f_L_hearing K a_0 a_1 a_2 a_3 w = some (r, w')) : Met l yL_hearing (Cond.codeWith yL_hearing cL_hearing 5 (Option.some Jvm.ClassFile.FieldType.int) [(0, 10, 13, 29)] :: bt) ({ frames := 8, cells := 2, slots := 12, locals := 135 } : Room) (va_Pc [rv E a_0, .int a_1, .int a_2, rv E a_3] (HB E K w z)) (QW E K w' r) 2 12 (hA E) := by
  refine MetH_ofW (cc := cL_hearing) (maxL := 5) (ret := (Option.some Jvm.ClassFile.FieldType.int)) (hh := [(0, 10, 13, 29)]) (by decide) rfl ?_
  intro p e s m args below meth c s₁ B hml htab hv
  obtain ⟨rfl, hz, hP, hKs, hT, hb0⟩ := hv
  have C : CX p l e s m _ meth c cL_hearing 5 RL (Option.some Jvm.ClassFile.FieldType.int) E := ⟨B.exec, B.bytes, hml, findClass_of_methodNamed B.named, fun w h => atoms_spec (ws := Cond.codeWith yL_hearing cL_hearing 5 (Option.some Jvm.ClassFile.FieldType.int) [(0, 10, 13, 29)] :: bt) B.pre w (List.mem_cons_of_mem _ h), hKs, hT, by rw [hz]; exact hb0, B.notSynchronized, B.returns⟩
  have hH : HQ E K z w s s.heap [] := ⟨hP, va_S.rf, hz⟩
  obtain ⟨hx, hb, hml, hown, hts, hKs, hT, hb0, hlocks, hret⟩ := id C
  have hl := lv_entry [rv E a_0, .int a_1, .int a_2, rv E a_3] (n := 5) (by simp [lg_len_nil, lg_len_i, lg_len_j, lg_len_q, lg_len_f, lg_len_d, lg_len_r])
  rw [lg_entry_eq]
  generalize (lg_sl [rv E a_0, .int a_1, .int a_2, rv E a_3] ++ List.replicate (5 - (lg_sl [rv E a_0, .int a_1, .int a_2, rv E a_3]).length) Slot.unset).toArray = ls at hl ⊢
  replace hl : lv_has ls 5 [(0, rv E a_0), (1, .int a_1), (2, .int a_2), (3, rv E a_3)] := by simpa only [lv_args, cat_q, cat_i, cat_j, reduceIte, Nat.reduceEqDiff, Nat.reduceAdd, Nat.zero_add] using hl
  generalize s.heap = H at hH ⊢
  unfold f_L_hearing at hf
  refine hl_aload_n hx hb dL_hearing_0 rfl (lv_at hl 3 rfl) ?_
  refine lv_iconst (v := 0) hx hb dL_hearing_1 (by decide) ?_
  refine hl_aload_n hx hb dL_hearing_2 rfl (lv_at hl 0 rfl) ?_
  refine lv_iload_n hx hb dL_hearing_3 rfl (lv_at hl 1 rfl) ?_
  refine lv_iload_n hx hb dL_hearing_4 rfl (lv_at hl 2 rfl) ?_
  obtain ⟨a1, ha1, hf⟩ := bnd hf
  replace ha1 := chk_some ha1
  obtain ⟨q2, hq2, hf⟩ := bnd hf
  refine hxC_i hx hb hml hown hts hKs hT hb0 hH (As := [.int a_1, .int a_2]) (rest := [.int 0, rv E a_3]) (k_X12_hearing l hls E K H.size a1 a_1 a_2 w ha1.2 hq2) (gV m5_150 m5_151 m5_152 m1_1 m5_153) hd_X12_hearing ⟨Nat.le_of_ble_eq_true rfl, Nat.le_of_ble_eq_true rfl, rfl, rfl⟩ ha1.1 ha1.2 rfl rfl rfl hl.1 rfl (rcI (rcV rc0)) rfl dL_hearing_5 ⟨Nat.le_of_ble_eq_true rfl, Nat.le_of_ble_eq_true rfl⟩ (fun c4 hc4 H locs q9 ce9 hH hc9 hv9 hf9 => ?_) (fun v3 hv3 H locs hH => ?_)
  · replace hf := (xh_inr hc4).symm.trans hf
    by_cases h5 : c4 = 1
    · subst h5
      replace hf := (if_pos rfl).symm.trans hf
      refine vx_catch (name := "java/lang/IndexOutOfBoundsException") hown [] ⟨0, 10, 13, 29⟩ [] htab pass0 (by decide) (by decide) (hts _ m5_85) (va_Nw.use rfl (hKs.2.1 _ m5_96)) hc9 hv9 hf9 ?_
      refine lv_astore (i := 4) (lv' := [(4, .ref q9), (0, rv E a_0), (1, .int a_1), (2, .int a_2), (3, rv E a_3)]) hx hb dL_hearing_13 hl (by decide) (by simp [List.filter_cons, cat_q, cat_i, cat_j, imax, imin]) (fun ls hl => ?_)
      refine lv_iconst (v := 1) hx hb dL_hearing_15 (by decide) ?_
      exact hw_wret hx hb (Nat.le_of_ble_eq_true rfl) (Nat.le_of_ble_eq_true rfl) hret hf hH hlocks dL_hearing_16
    replace hf := (if_neg h5).symm.trans hf
    cases hf
  · replace hf := (xh_inl hv3).symm.trans hf
    refine lv_i2l (v := (v3.toInt64)) hx hb dL_hearing_8 rfl ?_
    obtain ⟨a6, ha6, hf⟩ := bnd hf
    replace ha6 := cha_some ha6
    obtain ⟨j7, hj7, hf⟩ := bnd hf
    obtain ⟨w8, hw8, hf⟩ := bnd hf
    replace hw8 := Option.some.inj hw8
    refine hw_last (x := (v3.toInt64)) hx hb hKs hH ha6.1 ha6.2 hj7 dL_hearing_9 (fun H locs hH => ?_)
    rw [hw8] at hH
    refine lv_goto (tgt := 17) hx hb dL_hearing_10 (by decide) ?_
    refine lv_iconst (v := 0) hx hb dL_hearing_17 (by decide) ?_
    exact hw_wret hx hb (Nat.le_of_ble_eq_true rfl) (Nat.le_of_ble_eq_true rfl) hret hf hH hlocks dL_hearing_18

theorem dL_adjournment_0 : decode cL_adjournment 0 = .ok (.aload 4, 2) := by decide +kernel
theorem dL_adjournment_2 : decode cL_adjournment 2 = .ok (.iconst 0, 1) := by decide +kernel
theorem dL_adjournment_3 : decode cL_adjournment 3 = .ok (.aload_n 0, 1) := by decide +kernel
theorem dL_adjournment_4 : decode cL_adjournment 4 = .ok (.iload_n 1, 1) := by decide +kernel
theorem dL_adjournment_5 : decode cL_adjournment 5 = .ok (.iload_n 2, 1) := by decide +kernel
theorem dL_adjournment_6 : decode cL_adjournment 6 = .ok (.iload_n 3, 1) := by decide +kernel
theorem dL_adjournment_7 : decode cL_adjournment 7 = .ok (.invokevirtual 47, 3) := by decide +kernel
theorem dL_adjournment_10 : decode cL_adjournment 10 = .ok (.i2l, 1) := by decide +kernel
theorem dL_adjournment_11 : decode cL_adjournment 11 = .ok (.lastore, 1) := by decide +kernel
theorem dL_adjournment_12 : decode cL_adjournment 12 = .ok (.goto 7, 3) := by decide +kernel
theorem dL_adjournment_15 : decode cL_adjournment 15 = .ok (.astore 5, 2) := by decide +kernel
theorem dL_adjournment_17 : decode cL_adjournment 17 = .ok (.iconst 1, 1) := by decide +kernel
theorem dL_adjournment_18 : decode cL_adjournment 18 = .ok (.ireturn, 1) := by decide +kernel
theorem dL_adjournment_19 : decode cL_adjournment 19 = .ok (.iconst 0, 1) := by decide +kernel
theorem dL_adjournment_20 : decode cL_adjournment 20 = .ok (.ireturn, 1) := by decide +kernel
theorem hs_L_adjournment : yL_adjournment.cls ≠ "java/lang/invoke/MethodHandle" ∧ yL_adjournment.cls ≠ "java/lang/invoke/VarHandle" ∧ (parseMethodDescriptor yL_adjournment.desc).map (fun d => d.parameters.length) = some 5 := by decide +kernel
set_option maxHeartbeats 4000000 in
set_option maxRecDepth 100000 in
theorem k_L_adjournment (l : Launch) (hls : l.stackTraces = false) (E : Ev) (K : Kd) (z : Nat) (a_0 : Option Nat) (a_1 : Int32) (a_2 : Int32) (a_3 : Int32) (a_4 : Option Nat) (w : Wd) {r : Int32} {w' : Wd} (hf : f_L_adjournment K a_0 a_1 a_2 a_3 a_4 w = some (r, w')) : Met l yL_adjournment (Cond.codeWith yL_adjournment cL_adjournment 6 (Option.some Jvm.ClassFile.FieldType.int) [(0, 12, 15, 29)] :: bt) ({ frames := 8, cells := 2, slots := 12, locals := 136 } : Room) (va_Pc [rv E a_0, .int a_1, .int a_2, .int a_3, rv E a_4] (HB E K w z)) (QW E K w' r) 2 12 (hA E) := by
  refine MetH_ofW (cc := cL_adjournment) (maxL := 6) (ret := (Option.some Jvm.ClassFile.FieldType.int)) (hh := [(0, 12, 15, 29)]) (by decide) rfl ?_
  intro p e s m args below meth c s₁ B hml htab hv
  obtain ⟨rfl, hz, hP, hKs, hT, hb0⟩ := hv
  have C : CX p l e s m _ meth c cL_adjournment 6 RL (Option.some Jvm.ClassFile.FieldType.int) E := ⟨B.exec, B.bytes, hml, findClass_of_methodNamed B.named, fun w h => atoms_spec (ws := Cond.codeWith yL_adjournment cL_adjournment 6 (Option.some Jvm.ClassFile.FieldType.int) [(0, 12, 15, 29)] :: bt) B.pre w (List.mem_cons_of_mem _ h), hKs, hT, by rw [hz]; exact hb0, B.notSynchronized, B.returns⟩
  have hH : HQ E K z w s s.heap [] := ⟨hP, va_S.rf, hz⟩
  obtain ⟨hx, hb, hml, hown, hts, hKs, hT, hb0, hlocks, hret⟩ := id C
  have hl := lv_entry [rv E a_0, .int a_1, .int a_2, .int a_3, rv E a_4] (n := 6) (by simp [lg_len_nil, lg_len_i, lg_len_j, lg_len_q, lg_len_f, lg_len_d, lg_len_r])
  rw [lg_entry_eq]
  generalize (lg_sl [rv E a_0, .int a_1, .int a_2, .int a_3, rv E a_4] ++ List.replicate (6 - (lg_sl [rv E a_0, .int a_1, .int a_2, .int a_3, rv E a_4]).length) Slot.unset).toArray = ls at hl ⊢
  replace hl : lv_has ls 6 [(0, rv E a_0), (1, .int a_1), (2, .int a_2), (3, .int a_3), (4, rv E a_4)] := by simpa only [lv_args, cat_q, cat_i, cat_j, reduceIte, Nat.reduceEqDiff, Nat.reduceAdd, Nat.zero_add] using hl
  generalize s.heap = H at hH ⊢
  unfold f_L_adjournment at hf
  refine hl_aload hx hb dL_adjournment_0 (lv_at hl 4 rfl) ?_
  refine lv_iconst (v := 0) hx hb dL_adjournment_2 (by decide) ?_
  refine hl_aload_n hx hb dL_adjournment_3 rfl (lv_at hl 0 rfl) ?_
  refine lv_iload_n hx hb dL_adjournment_4 rfl (lv_at hl 1 rfl) ?_
  refine lv_iload_n hx hb dL_adjournment_5 rfl (lv_at hl 2 rfl) ?_
  refine lv_iload_n hx hb dL_adjournment_6 rfl (lv_at hl 3 rfl) ?_
  obtain ⟨a1, ha1, hf⟩ := bnd hf
  replace ha1 := chk_some ha1
  obtain ⟨q2, hq2, hf⟩ := bnd hf
  refine hxC_i hx hb hml hown hts hKs hT hb0 hH (As := [.int a_1, .int a_2, .int a_3]) (rest := [.int 0, rv E a_4]) (k_X12_adjournment l hls E K H.size a1 a_1 a_2 a_3 w ha1.2 hq2) (gV m5_157 m5_158 m5_159 m1_1 m5_160) hd_X12_adjournment ⟨Nat.le_of_ble_eq_true rfl, Nat.le_of_ble_eq_true rfl, rfl, rfl⟩ ha1.1 ha1.2 rfl rfl rfl hl.1 rfl (rcI (rcV rc0)) rfl dL_adjournment_7 ⟨Nat.le_of_ble_eq_true rfl, Nat.le_of_ble_eq_true rfl⟩ (fun c4 hc4 H locs q9 ce9 hH hc9 hv9 hf9 => ?_) (fun v3 hv3 H locs hH => ?_)
  · replace hf := (xh_inr hc4).symm.trans hf
    by_cases h5 : c4 = 1
    · subst h5
      replace hf := (if_pos rfl).symm.trans hf
      refine vx_catch (name := "java/lang/IndexOutOfBoundsException") hown [] ⟨0, 12, 15, 29⟩ [] htab pass0 (by decide) (by decide) (hts _ m5_85) (va_Nw.use rfl (hKs.2.1 _ m5_96)) hc9 hv9 hf9 ?_
      refine lv_astore (i := 5) (lv' := [(5, .ref q9), (0, rv E a_0), (1, .int a_1), (2, .int a_2), (3, .int a_3), (4, rv E a_4)]) hx hb dL_adjournment_15 hl (by decide) (by simp [List.filter_cons, cat_q, cat_i, cat_j, imax, imin]) (fun ls hl => ?_)
      refine lv_iconst (v := 1) hx hb dL_adjournment_17 (by decide) ?_
      exact hw_wret hx hb (Nat.le_of_ble_eq_true rfl) (Nat.le_of_ble_eq_true rfl) hret hf hH hlocks dL_adjournment_18
    replace hf := (if_neg h5).symm.trans hf
    cases hf
  · replace hf := (xh_inl hv3).symm.trans hf
    refine lv_i2l (v := (v3.toInt64)) hx hb dL_adjournment_10 rfl ?_
    obtain ⟨a6, ha6, hf⟩ := bnd hf
    replace ha6 := cha_some ha6
    obtain ⟨j7, hj7, hf⟩ := bnd hf
    obtain ⟨w8, hw8, hf⟩ := bnd hf
    replace hw8 := Option.some.inj hw8
    refine hw_last (x := (v3.toInt64)) hx hb hKs hH ha6.1 ha6.2 hj7 dL_adjournment_11 (fun H locs hH => ?_)
    rw [hw8] at hH
    refine lv_goto (tgt := 19) hx hb dL_adjournment_12 (by decide) ?_
    refine lv_iconst (v := 0) hx hb dL_adjournment_19 (by decide) ?_
    exact hw_wret hx hb (Nat.le_of_ble_eq_true rfl) (Nat.le_of_ble_eq_true rfl) hret hf hH hlocks dL_adjournment_20

theorem dL_caseAt_0 : decode cL_caseAt 0 = .ok (.aload 4, 2) := by decide +kernel
theorem dL_caseAt_2 : decode cL_caseAt 2 = .ok (.iconst 0, 1) := by decide +kernel
theorem dL_caseAt_3 : decode cL_caseAt 3 = .ok (.aload_n 0, 1) := by decide +kernel
theorem dL_caseAt_4 : decode cL_caseAt 4 = .ok (.iload_n 1, 1) := by decide +kernel
theorem dL_caseAt_5 : decode cL_caseAt 5 = .ok (.iload_n 2, 1) := by decide +kernel
theorem dL_caseAt_6 : decode cL_caseAt 6 = .ok (.iload_n 3, 1) := by decide +kernel
theorem dL_caseAt_7 : decode cL_caseAt 7 = .ok (.invokevirtual 51, 3) := by decide +kernel
theorem dL_caseAt_10 : decode cL_caseAt 10 = .ok (.i2l, 1) := by decide +kernel
theorem dL_caseAt_11 : decode cL_caseAt 11 = .ok (.lastore, 1) := by decide +kernel
theorem dL_caseAt_12 : decode cL_caseAt 12 = .ok (.goto 11, 3) := by decide +kernel
theorem dL_caseAt_15 : decode cL_caseAt 15 = .ok (.astore 5, 2) := by decide +kernel
theorem dL_caseAt_17 : decode cL_caseAt 17 = .ok (.iconst 1, 1) := by decide +kernel
theorem dL_caseAt_18 : decode cL_caseAt 18 = .ok (.ireturn, 1) := by decide +kernel
theorem dL_caseAt_19 : decode cL_caseAt 19 = .ok (.astore 5, 2) := by decide +kernel
theorem dL_caseAt_21 : decode cL_caseAt 21 = .ok (.iconst 2, 1) := by decide +kernel
theorem dL_caseAt_22 : decode cL_caseAt 22 = .ok (.ireturn, 1) := by decide +kernel
theorem dL_caseAt_23 : decode cL_caseAt 23 = .ok (.iconst 0, 1) := by decide +kernel
theorem dL_caseAt_24 : decode cL_caseAt 24 = .ok (.ireturn, 1) := by decide +kernel
theorem hs_L_caseAt : yL_caseAt.cls ≠ "java/lang/invoke/MethodHandle" ∧ yL_caseAt.cls ≠ "java/lang/invoke/VarHandle" ∧ (parseMethodDescriptor yL_caseAt.desc).map (fun d => d.parameters.length) = some 5 := by decide +kernel
set_option maxHeartbeats 4000000 in
set_option maxRecDepth 100000 in
theorem k_L_caseAt (l : Launch) (hls : l.stackTraces = false) (E : Ev) (K : Kd) (z : Nat) (a_0 : Option Nat) (a_1 : Int32) (a_2 : Int32) (a_3 : Int32) (a_4 : Option Nat) (w : Wd) {r : Int32} {w' : Wd} (hf : f_L_caseAt K a_0 a_1 a_2 a_3 a_4 w = some (r, w')) : Met l yL_caseAt (Cond.codeWith yL_caseAt cL_caseAt 6 (Option.some Jvm.ClassFile.FieldType.int) [(0, 12, 15, 29), (0, 12, 19, 13)] :: bt) ({ frames := 8, cells := 3, slots := 18, locals := 135 } : Room) (va_Pc [rv E a_0, .int a_1, .int a_2, .int a_3, rv E a_4] (HB E K w z)) (QW E K w' r) 3 18 (hA E) := by
  refine MetH_ofW (cc := cL_caseAt) (maxL := 6) (ret := (Option.some Jvm.ClassFile.FieldType.int)) (hh := [(0, 12, 15, 29), (0, 12, 19, 13)]) (by decide) rfl ?_
  intro p e s m args below meth c s₁ B hml htab hv
  obtain ⟨rfl, hz, hP, hKs, hT, hb0⟩ := hv
  have C : CX p l e s m _ meth c cL_caseAt 6 RL (Option.some Jvm.ClassFile.FieldType.int) E := ⟨B.exec, B.bytes, hml, findClass_of_methodNamed B.named, fun w h => atoms_spec (ws := Cond.codeWith yL_caseAt cL_caseAt 6 (Option.some Jvm.ClassFile.FieldType.int) [(0, 12, 15, 29), (0, 12, 19, 13)] :: bt) B.pre w (List.mem_cons_of_mem _ h), hKs, hT, by rw [hz]; exact hb0, B.notSynchronized, B.returns⟩
  have hH : HQ E K z w s s.heap [] := ⟨hP, va_S.rf, hz⟩
  obtain ⟨hx, hb, hml, hown, hts, hKs, hT, hb0, hlocks, hret⟩ := id C
  have hl := lv_entry [rv E a_0, .int a_1, .int a_2, .int a_3, rv E a_4] (n := 6) (by simp [lg_len_nil, lg_len_i, lg_len_j, lg_len_q, lg_len_f, lg_len_d, lg_len_r])
  rw [lg_entry_eq]
  generalize (lg_sl [rv E a_0, .int a_1, .int a_2, .int a_3, rv E a_4] ++ List.replicate (6 - (lg_sl [rv E a_0, .int a_1, .int a_2, .int a_3, rv E a_4]).length) Slot.unset).toArray = ls at hl ⊢
  replace hl : lv_has ls 6 [(0, rv E a_0), (1, .int a_1), (2, .int a_2), (3, .int a_3), (4, rv E a_4)] := by simpa only [lv_args, cat_q, cat_i, cat_j, reduceIte, Nat.reduceEqDiff, Nat.reduceAdd, Nat.zero_add] using hl
  generalize s.heap = H at hH ⊢
  unfold f_L_caseAt at hf
  refine hl_aload hx hb dL_caseAt_0 (lv_at hl 4 rfl) ?_
  refine lv_iconst (v := 0) hx hb dL_caseAt_2 (by decide) ?_
  refine hl_aload_n hx hb dL_caseAt_3 rfl (lv_at hl 0 rfl) ?_
  refine lv_iload_n hx hb dL_caseAt_4 rfl (lv_at hl 1 rfl) ?_
  refine lv_iload_n hx hb dL_caseAt_5 rfl (lv_at hl 2 rfl) ?_
  refine lv_iload_n hx hb dL_caseAt_6 rfl (lv_at hl 3 rfl) ?_
  obtain ⟨a1, ha1, hf⟩ := bnd hf
  replace ha1 := chk_some ha1
  obtain ⟨q2, hq2, hf⟩ := bnd hf
  refine hxC_i hx hb hml hown hts hKs hT hb0 hH (As := [.int a_1, .int a_2, .int a_3]) (rest := [.int 0, rv E a_4]) (k_X12_caseAt l hls E K H.size a1 a_1 a_2 a_3 w ha1.2 hq2) (gV m5_164 m5_165 m5_166 m1_1 m5_167) hd_X12_caseAt ⟨Nat.le_of_ble_eq_true rfl, Nat.le_of_ble_eq_true rfl, rfl, rfl⟩ ha1.1 ha1.2 rfl rfl rfl hl.1 rfl (rcI (rcV rc0)) rfl dL_caseAt_7 ⟨Nat.le_of_ble_eq_true rfl, Nat.le_of_ble_eq_true rfl⟩ (fun c4 hc4 H locs q9 ce9 hH hc9 hv9 hf9 => ?_) (fun v3 hv3 H locs hH => ?_)
  · replace hf := (xh_inr hc4).symm.trans hf
    by_cases h5 : c4 = 1
    · subst h5
      replace hf := (if_pos rfl).symm.trans hf
      refine vx_catch (name := "java/lang/IndexOutOfBoundsException") hown [] ⟨0, 12, 15, 29⟩ [⟨0, 12, 19, 13⟩] htab pass0 (by decide) (by decide) (hts _ m5_85) (va_Nw.use rfl (hKs.2.1 _ m5_96)) hc9 hv9 hf9 ?_
      refine lv_astore (i := 5) (lv' := [(5, .ref q9), (0, rv E a_0), (1, .int a_1), (2, .int a_2), (3, .int a_3), (4, rv E a_4)]) hx hb dL_caseAt_15 hl (by decide) (by simp [List.filter_cons, cat_q, cat_i, cat_j, imax, imin]) (fun ls hl => ?_)
      refine lv_iconst (v := 1) hx hb dL_caseAt_17 (by decide) ?_
      exact hw_wret hx hb (Nat.le_of_ble_eq_true rfl) (Nat.le_of_ble_eq_true rfl) hret hf hH hlocks dL_caseAt_18
    replace hf := (if_neg h5).symm.trans hf
    by_cases h6 : c4 = 2
    · subst h6
      replace hf := (if_pos rfl).symm.trans hf
      refine vx_catch (name := "java/lang/IllegalArgumentException") hown [⟨0, 12, 15, 29⟩] ⟨0, 12, 19, 13⟩ [] htab (pass1 (Or.inr ⟨by decide, "java/lang/IndexOutOfBoundsException", hts _ m5_85, hKs.2.2.2.1 ("java/lang/IllegalArgumentException", "java/lang/IndexOutOfBoundsException") (by decide)⟩) pass0) (by decide) (by decide) (hts _ m4_212) (va_Nw.use rfl (hKs.2.1 _ m4_219)) hc9 hv9 hf9 ?_
      refine lv_astore (i := 5) (lv' := [(5, .ref q9), (0, rv E a_0), (1, .int a_1), (2, .int a_2), (3, .int a_3), (4, rv E a_4)]) hx hb dL_caseAt_19 hl (by decide) (by simp [List.filter_cons, cat_q, cat_i, cat_j, imax, imin]) (fun ls hl => ?_)
      refine lv_iconst (v := 2) hx hb dL_caseAt_21 (by decide) ?_
      exact hw_wret hx hb (Nat.le_of_ble_eq_true rfl) (Nat.le_of_ble_eq_true rfl) hret hf hH hlocks dL_caseAt_22
    replace hf := (if_neg h6).symm.trans hf
    cases hf
  · replace hf := (xh_inl hv3).symm.trans hf
    refine lv_i2l (v := (v3.toInt64)) hx hb dL_caseAt_10 rfl ?_
    obtain ⟨a7, ha7, hf⟩ := bnd hf
    replace ha7 := cha_some ha7
    obtain ⟨j8, hj8, hf⟩ := bnd hf
    obtain ⟨w9, hw9, hf⟩ := bnd hf
    replace hw9 := Option.some.inj hw9
    refine hw_last (x := (v3.toInt64)) hx hb hKs hH ha7.1 ha7.2 hj8 dL_caseAt_11 (fun H locs hH => ?_)
    rw [hw9] at hH
    refine lv_goto (tgt := 23) hx hb dL_caseAt_12 (by decide) ?_
    refine lv_iconst (v := 0) hx hb dL_caseAt_23 (by decide) ?_
    exact hw_wret hx hb (Nat.le_of_ble_eq_true rfl) (Nat.le_of_ble_eq_true rfl) hret hf hH hlocks dL_caseAt_24

theorem dL_urgent_0 : decode cL_urgent 0 = .ok (.aload_n 2, 1) := by decide +kernel
theorem dL_urgent_1 : decode cL_urgent 1 = .ok (.iconst 0, 1) := by decide +kernel
theorem dL_urgent_2 : decode cL_urgent 2 = .ok (.aload_n 0, 1) := by decide +kernel
theorem dL_urgent_3 : decode cL_urgent 3 = .ok (.iload_n 1, 1) := by decide +kernel
theorem dL_urgent_4 : decode cL_urgent 4 = .ok (.invokevirtual 66, 3) := by decide +kernel
theorem dL_urgent_7 : decode cL_urgent 7 = .ok (.i2l, 1) := by decide +kernel
theorem dL_urgent_8 : decode cL_urgent 8 = .ok (.lastore, 1) := by decide +kernel
theorem dL_urgent_9 : decode cL_urgent 9 = .ok (.goto 6, 3) := by decide +kernel
theorem dL_urgent_12 : decode cL_urgent 12 = .ok (.astore_n 3, 1) := by decide +kernel
theorem dL_urgent_13 : decode cL_urgent 13 = .ok (.iconst 1, 1) := by decide +kernel
theorem dL_urgent_14 : decode cL_urgent 14 = .ok (.ireturn, 1) := by decide +kernel
theorem dL_urgent_15 : decode cL_urgent 15 = .ok (.iconst 0, 1) := by decide +kernel
theorem dL_urgent_16 : decode cL_urgent 16 = .ok (.ireturn, 1) := by decide +kernel
theorem hs_L_urgent : yL_urgent.cls ≠ "java/lang/invoke/MethodHandle" ∧ yL_urgent.cls ≠ "java/lang/invoke/VarHandle" ∧ (parseMethodDescriptor yL_urgent.desc).map (fun d => d.parameters.length) = some 3 := by decide +kernel
set_option maxHeartbeats 4000000 in
set_option maxRecDepth 100000 in
theorem k_L_urgent (l : Launch) (hls : l.stackTraces = false) (E : Ev) (K : Kd) (z : Nat) (a_0 : Option Nat) (a_1 : Int32) (a_2 : Option Nat) (w : Wd) {r : Int32} {w' : Wd} (hf : f_L_urgent K a_0 a_1 a_2 w = some (r, w')) : Met l yL_urgent (Cond.codeWith yL_urgent cL_urgent 4 (Option.some Jvm.ClassFile.FieldType.int) [(0, 9, 12, 69)] :: bt) ({ frames := 7, cells := 1, slots := 6, locals := 133 } : Room) (va_Pc [rv E a_0, .int a_1, rv E a_2] (HB E K w z)) (QW E K w' r) 1 6 (hA E) := by
  refine MetH_ofW (cc := cL_urgent) (maxL := 4) (ret := (Option.some Jvm.ClassFile.FieldType.int)) (hh := [(0, 9, 12, 69)]) (by decide) rfl ?_
  intro p e s m args below meth c s₁ B hml htab hv
  obtain ⟨rfl, hz, hP, hKs, hT, hb0⟩ := hv
  have C : CX p l e s m _ meth c cL_urgent 4 RL (Option.some Jvm.ClassFile.FieldType.int) E := ⟨B.exec, B.bytes, hml, findClass_of_methodNamed B.named, fun w h => atoms_spec (ws := Cond.codeWith yL_urgent cL_urgent 4 (Option.some Jvm.ClassFile.FieldType.int) [(0, 9, 12, 69)] :: bt) B.pre w (List.mem_cons_of_mem _ h), hKs, hT, by rw [hz]; exact hb0, B.notSynchronized, B.returns⟩
  have hH : HQ E K z w s s.heap [] := ⟨hP, va_S.rf, hz⟩
  obtain ⟨hx, hb, hml, hown, hts, hKs, hT, hb0, hlocks, hret⟩ := id C
  have hl := lv_entry [rv E a_0, .int a_1, rv E a_2] (n := 4) (by simp [lg_len_nil, lg_len_i, lg_len_j, lg_len_q, lg_len_f, lg_len_d, lg_len_r])
  rw [lg_entry_eq]
  generalize (lg_sl [rv E a_0, .int a_1, rv E a_2] ++ List.replicate (4 - (lg_sl [rv E a_0, .int a_1, rv E a_2]).length) Slot.unset).toArray = ls at hl ⊢
  replace hl : lv_has ls 4 [(0, rv E a_0), (1, .int a_1), (2, rv E a_2)] := by simpa only [lv_args, cat_q, cat_i, cat_j, reduceIte, Nat.reduceEqDiff, Nat.reduceAdd, Nat.zero_add] using hl
  generalize s.heap = H at hH ⊢
  unfold f_L_urgent at hf
  refine hl_aload_n hx hb dL_urgent_0 rfl (lv_at hl 2 rfl) ?_
  refine lv_iconst (v := 0) hx hb dL_urgent_1 (by decide) ?_
  refine hl_aload_n hx hb dL_urgent_2 rfl (lv_at hl 0 rfl) ?_
  refine lv_iload_n hx hb dL_urgent_3 rfl (lv_at hl 1 rfl) ?_
  obtain ⟨a1, ha1, hf⟩ := bnd hf
  replace ha1 := chk_some ha1
  obtain ⟨q2, hq2, hf⟩ := bnd hf
  refine hxC_i hx hb hml hown hts hKs hT hb0 hH (As := [.int a_1]) (rest := [.int 0, rv E a_2]) (k_X12_urgent l hls E K H.size a1 a_1 w ha1.2 hq2) (gV m5_236 m5_237 m5_238 m1_1 m5_239) hd_X12_urgent ⟨Nat.le_of_ble_eq_true rfl, Nat.le_of_ble_eq_true rfl, rfl, rfl⟩ ha1.1 ha1.2 rfl rfl rfl hl.1 rfl (rcI (rcV rc0)) rfl dL_urgent_4 ⟨Nat.le_of_ble_eq_true rfl, Nat.le_of_ble_eq_true rfl⟩ (fun c4 hc4 H locs q9 ce9 hH hc9 hv9 hf9 => ?_) (fun v3 hv3 H locs hH => ?_)
  · replace hf := (xh_inr hc4).symm.trans hf
    by_cases h5 : c4 = 4
    · subst h5
      replace hf := (if_pos rfl).symm.trans hf
      refine vx_catch (name := "java/util/NoSuchElementException") hown [] ⟨0, 9, 12, 69⟩ [] htab pass0 (by decide) (by decide) (hts _ m5_235) (va_Nw.use rfl (hKs.2.1 _ m6_3)) hc9 hv9 hf9 ?_
      refine lv_astore_n (i := 3) (lv' := [(3, .ref q9), (0, rv E a_0), (1, .int a_1), (2, rv E a_2)]) hx hb dL_urgent_12 rfl hl (by decide) (by simp [List.filter_cons, cat_q, cat_i, cat_j, imax, imin]) (fun ls hl => ?_)
      refine lv_iconst (v := 1) hx hb dL_urgent_13 (by decide) ?_
      exact hw_wret hx hb (Nat.le_of_ble_eq_true rfl) (Nat.le_of_ble_eq_true rfl) hret hf hH hlocks dL_urgent_14
    replace hf := (if_neg h5).symm.trans hf
    cases hf
  · replace hf := (xh_inl hv3).symm.trans hf
    refine lv_i2l (v := (v3.toInt64)) hx hb dL_urgent_7 rfl ?_
    obtain ⟨a6, ha6, hf⟩ := bnd hf
    replace ha6 := cha_some ha6
    obtain ⟨j7, hj7, hf⟩ := bnd hf
    obtain ⟨w8, hw8, hf⟩ := bnd hf
    replace hw8 := Option.some.inj hw8
    refine hw_last (x := (v3.toInt64)) hx hb hKs hH ha6.1 ha6.2 hj7 dL_urgent_8 (fun H locs hH => ?_)
    rw [hw8] at hH
    refine lv_goto (tgt := 15) hx hb dL_urgent_9 (by decide) ?_
    refine lv_iconst (v := 0) hx hb dL_urgent_15 (by decide) ?_
    exact hw_wret hx hb (Nat.le_of_ble_eq_true rfl) (Nat.le_of_ble_eq_true rfl) hret hf hH hlocks dL_urgent_16

theorem dL_slack_0 : decode cL_slack 0 = .ok (.aload_n 2, 1) := by decide +kernel
theorem dL_slack_1 : decode cL_slack 1 = .ok (.iconst 0, 1) := by decide +kernel
theorem dL_slack_2 : decode cL_slack 2 = .ok (.aload_n 0, 1) := by decide +kernel
theorem dL_slack_3 : decode cL_slack 3 = .ok (.iload_n 1, 1) := by decide +kernel
theorem dL_slack_4 : decode cL_slack 4 = .ok (.invokevirtual 71, 3) := by decide +kernel
theorem dL_slack_7 : decode cL_slack 7 = .ok (.i2l, 1) := by decide +kernel
theorem dL_slack_8 : decode cL_slack 8 = .ok (.lastore, 1) := by decide +kernel
theorem dL_slack_9 : decode cL_slack 9 = .ok (.goto 6, 3) := by decide +kernel
theorem dL_slack_12 : decode cL_slack 12 = .ok (.astore_n 3, 1) := by decide +kernel
theorem dL_slack_13 : decode cL_slack 13 = .ok (.iconst 1, 1) := by decide +kernel
theorem dL_slack_14 : decode cL_slack 14 = .ok (.ireturn, 1) := by decide +kernel
theorem dL_slack_15 : decode cL_slack 15 = .ok (.iconst 0, 1) := by decide +kernel
theorem dL_slack_16 : decode cL_slack 16 = .ok (.ireturn, 1) := by decide +kernel
theorem hs_L_slack : yL_slack.cls ≠ "java/lang/invoke/MethodHandle" ∧ yL_slack.cls ≠ "java/lang/invoke/VarHandle" ∧ (parseMethodDescriptor yL_slack.desc).map (fun d => d.parameters.length) = some 3 := by decide +kernel
set_option maxHeartbeats 4000000 in
set_option maxRecDepth 100000 in
theorem k_L_slack (l : Launch) (hls : l.stackTraces = false) (E : Ev) (K : Kd) (z : Nat) (a_0 : Option Nat) (a_1 : Int32) (a_2 : Option Nat) (w : Wd) {r : Int32} {w' : Wd} (hf : f_L_slack K a_0 a_1 a_2 w = some (r, w')) : Met l yL_slack (Cond.codeWith yL_slack cL_slack 4 (Option.some Jvm.ClassFile.FieldType.int) [(0, 9, 12, 29)] :: bt) ({ frames := 8, cells := 1, slots := 6, locals := 133 } : Room) (va_Pc [rv E a_0, .int a_1, rv E a_2] (HB E K w z)) (QW E K w' r) 1 6 (hA E) := by
  refine MetH_ofW (cc := cL_slack) (maxL := 4) (ret := (Option.some Jvm.ClassFile.FieldType.int)) (hh := [(0, 9, 12, 29)]) (by decide) rfl ?_
  intro p e s m args below meth c s₁ B hml htab hv
  obtain ⟨rfl, hz, hP, hKs, hT, hb0⟩ := hv
  have C : CX p l e s m _ meth c cL_slack 4 RL (Option.some Jvm.ClassFile.FieldType.int) E := ⟨B.exec, B.bytes, hml, findClass_of_methodNamed B.named, fun w h => atoms_spec (ws := Cond.codeWith yL_slack cL_slack 4 (Option.some Jvm.ClassFile.FieldType.int) [(0, 9, 12, 29)] :: bt) B.pre w (List.mem_cons_of_mem _ h), hKs, hT, by rw [hz]; exact hb0, B.notSynchronized, B.returns⟩
  have hH : HQ E K z w s s.heap [] := ⟨hP, va_S.rf, hz⟩
  obtain ⟨hx, hb, hml, hown, hts, hKs, hT, hb0, hlocks, hret⟩ := id C
  have hl := lv_entry [rv E a_0, .int a_1, rv E a_2] (n := 4) (by simp [lg_len_nil, lg_len_i, lg_len_j, lg_len_q, lg_len_f, lg_len_d, lg_len_r])
  rw [lg_entry_eq]
  generalize (lg_sl [rv E a_0, .int a_1, rv E a_2] ++ List.replicate (4 - (lg_sl [rv E a_0, .int a_1, rv E a_2]).length) Slot.unset).toArray = ls at hl ⊢
  replace hl : lv_has ls 4 [(0, rv E a_0), (1, .int a_1), (2, rv E a_2)] := by simpa only [lv_args, cat_q, cat_i, cat_j, reduceIte, Nat.reduceEqDiff, Nat.reduceAdd, Nat.zero_add] using hl
  generalize s.heap = H at hH ⊢
  unfold f_L_slack at hf
  refine hl_aload_n hx hb dL_slack_0 rfl (lv_at hl 2 rfl) ?_
  refine lv_iconst (v := 0) hx hb dL_slack_1 (by decide) ?_
  refine hl_aload_n hx hb dL_slack_2 rfl (lv_at hl 0 rfl) ?_
  refine lv_iload_n hx hb dL_slack_3 rfl (lv_at hl 1 rfl) ?_
  obtain ⟨a1, ha1, hf⟩ := bnd hf
  replace ha1 := chk_some ha1
  obtain ⟨q2, hq2, hf⟩ := bnd hf
  refine hxC_i hx hb hml hown hts hKs hT hb0 hH (As := [.int a_1]) (rest := [.int 0, rv E a_2]) (k_X12_slack l hls E K H.size a1 a_1 w ha1.2 hq2) (gV m6_19 m6_20 m6_21 m1_1 m6_22) hd_X12_slack ⟨Nat.le_of_ble_eq_true rfl, Nat.le_of_ble_eq_true rfl, rfl, rfl⟩ ha1.1 ha1.2 rfl rfl rfl hl.1 rfl (rcI (rcV rc0)) rfl dL_slack_4 ⟨Nat.le_of_ble_eq_true rfl, Nat.le_of_ble_eq_true rfl⟩ (fun c4 hc4 H locs q9 ce9 hH hc9 hv9 hf9 => ?_) (fun v3 hv3 H locs hH => ?_)
  · replace hf := (xh_inr hc4).symm.trans hf
    by_cases h5 : c4 = 1
    · subst h5
      replace hf := (if_pos rfl).symm.trans hf
      refine vx_catch (name := "java/lang/IndexOutOfBoundsException") hown [] ⟨0, 9, 12, 29⟩ [] htab pass0 (by decide) (by decide) (hts _ m5_85) (va_Nw.use rfl (hKs.2.1 _ m5_96)) hc9 hv9 hf9 ?_
      refine lv_astore_n (i := 3) (lv' := [(3, .ref q9), (0, rv E a_0), (1, .int a_1), (2, rv E a_2)]) hx hb dL_slack_12 rfl hl (by decide) (by simp [List.filter_cons, cat_q, cat_i, cat_j, imax, imin]) (fun ls hl => ?_)
      refine lv_iconst (v := 1) hx hb dL_slack_13 (by decide) ?_
      exact hw_wret hx hb (Nat.le_of_ble_eq_true rfl) (Nat.le_of_ble_eq_true rfl) hret hf hH hlocks dL_slack_14
    replace hf := (if_neg h5).symm.trans hf
    cases hf
  · replace hf := (xh_inl hv3).symm.trans hf
    refine lv_i2l (v := (v3.toInt64)) hx hb dL_slack_7 rfl ?_
    obtain ⟨a6, ha6, hf⟩ := bnd hf
    replace ha6 := cha_some ha6
    obtain ⟨j7, hj7, hf⟩ := bnd hf
    obtain ⟨w8, hw8, hf⟩ := bnd hf
    replace hw8 := Option.some.inj hw8
    refine hw_last (x := (v3.toInt64)) hx hb hKs hH ha6.1 ha6.2 hj7 dL_slack_8 (fun H locs hH => ?_)
    rw [hw8] at hH
    refine lv_goto (tgt := 15) hx hb dL_slack_9 (by decide) ?_
    refine lv_iconst (v := 0) hx hb dL_slack_15 (by decide) ?_
    exact hw_wret hx hb (Nat.le_of_ble_eq_true rfl) (Nat.le_of_ble_eq_true rfl) hret hf hH hlocks dL_slack_16

theorem dL_eligible_0 : decode cL_eligible 0 = .ok (.aload_n 2, 1) := by decide +kernel
theorem dL_eligible_1 : decode cL_eligible 1 = .ok (.iconst 0, 1) := by decide +kernel
theorem dL_eligible_2 : decode cL_eligible 2 = .ok (.aload_n 0, 1) := by decide +kernel
theorem dL_eligible_3 : decode cL_eligible 3 = .ok (.iload_n 1, 1) := by decide +kernel
theorem dL_eligible_4 : decode cL_eligible 4 = .ok (.invokevirtual 74, 3) := by decide +kernel
theorem dL_eligible_7 : decode cL_eligible 7 = .ok (.i2l, 1) := by decide +kernel
theorem dL_eligible_8 : decode cL_eligible 8 = .ok (.lastore, 1) := by decide +kernel
theorem dL_eligible_9 : decode cL_eligible 9 = .ok (.goto 6, 3) := by decide +kernel
theorem dL_eligible_12 : decode cL_eligible 12 = .ok (.astore_n 3, 1) := by decide +kernel
theorem dL_eligible_13 : decode cL_eligible 13 = .ok (.iconst 1, 1) := by decide +kernel
theorem dL_eligible_14 : decode cL_eligible 14 = .ok (.ireturn, 1) := by decide +kernel
theorem dL_eligible_15 : decode cL_eligible 15 = .ok (.iconst 0, 1) := by decide +kernel
theorem dL_eligible_16 : decode cL_eligible 16 = .ok (.ireturn, 1) := by decide +kernel
theorem hs_L_eligible : yL_eligible.cls ≠ "java/lang/invoke/MethodHandle" ∧ yL_eligible.cls ≠ "java/lang/invoke/VarHandle" ∧ (parseMethodDescriptor yL_eligible.desc).map (fun d => d.parameters.length) = some 3 := by decide +kernel
set_option maxHeartbeats 4000000 in
set_option maxRecDepth 100000 in
theorem k_L_eligible (l : Launch) (hls : l.stackTraces = false) (E : Ev) (K : Kd) (z : Nat) (a_0 : Option Nat) (a_1 : Int32) (a_2 : Option Nat) (w : Wd) {r : Int32} {w' : Wd} (hf : f_L_eligible K a_0 a_1 a_2 w = some (r, w')) : Met l yL_eligible (Cond.codeWith yL_eligible cL_eligible 4 (Option.some Jvm.ClassFile.FieldType.int) [(0, 9, 12, 29)] :: bt) ({ frames := 8, cells := 1, slots := 6, locals := 133 } : Room) (va_Pc [rv E a_0, .int a_1, rv E a_2] (HB E K w z)) (QW E K w' r) 1 6 (hA E) := by
  refine MetH_ofW (cc := cL_eligible) (maxL := 4) (ret := (Option.some Jvm.ClassFile.FieldType.int)) (hh := [(0, 9, 12, 29)]) (by decide) rfl ?_
  intro p e s m args below meth c s₁ B hml htab hv
  obtain ⟨rfl, hz, hP, hKs, hT, hb0⟩ := hv
  have C : CX p l e s m _ meth c cL_eligible 4 RL (Option.some Jvm.ClassFile.FieldType.int) E := ⟨B.exec, B.bytes, hml, findClass_of_methodNamed B.named, fun w h => atoms_spec (ws := Cond.codeWith yL_eligible cL_eligible 4 (Option.some Jvm.ClassFile.FieldType.int) [(0, 9, 12, 29)] :: bt) B.pre w (List.mem_cons_of_mem _ h), hKs, hT, by rw [hz]; exact hb0, B.notSynchronized, B.returns⟩
  have hH : HQ E K z w s s.heap [] := ⟨hP, va_S.rf, hz⟩
  obtain ⟨hx, hb, hml, hown, hts, hKs, hT, hb0, hlocks, hret⟩ := id C
  have hl := lv_entry [rv E a_0, .int a_1, rv E a_2] (n := 4) (by simp [lg_len_nil, lg_len_i, lg_len_j, lg_len_q, lg_len_f, lg_len_d, lg_len_r])
  rw [lg_entry_eq]
  generalize (lg_sl [rv E a_0, .int a_1, rv E a_2] ++ List.replicate (4 - (lg_sl [rv E a_0, .int a_1, rv E a_2]).length) Slot.unset).toArray = ls at hl ⊢
  replace hl : lv_has ls 4 [(0, rv E a_0), (1, .int a_1), (2, rv E a_2)] := by simpa only [lv_args, cat_q, cat_i, cat_j, reduceIte, Nat.reduceEqDiff, Nat.reduceAdd, Nat.zero_add] using hl
  generalize s.heap = H at hH ⊢
  unfold f_L_eligible at hf
  refine hl_aload_n hx hb dL_eligible_0 rfl (lv_at hl 2 rfl) ?_
  refine lv_iconst (v := 0) hx hb dL_eligible_1 (by decide) ?_
  refine hl_aload_n hx hb dL_eligible_2 rfl (lv_at hl 0 rfl) ?_
  refine lv_iload_n hx hb dL_eligible_3 rfl (lv_at hl 1 rfl) ?_
  obtain ⟨a1, ha1, hf⟩ := bnd hf
  replace ha1 := chk_some ha1
  obtain ⟨q2, hq2, hf⟩ := bnd hf
  refine hxC_i hx hb hml hown hts hKs hT hb0 hH (As := [.int a_1]) (rest := [.int 0, rv E a_2]) (k_X12_eligible l hls E K H.size a1 a_1 w ha1.2 hq2) (gV m6_26 m6_27 m6_28 m1_1 m6_29) hd_X12_eligible ⟨Nat.le_of_ble_eq_true rfl, Nat.le_of_ble_eq_true rfl, rfl, rfl⟩ ha1.1 ha1.2 rfl rfl rfl hl.1 rfl (rcI (rcV rc0)) rfl dL_eligible_4 ⟨Nat.le_of_ble_eq_true rfl, Nat.le_of_ble_eq_true rfl⟩ (fun c4 hc4 H locs q9 ce9 hH hc9 hv9 hf9 => ?_) (fun v3 hv3 H locs hH => ?_)
  · replace hf := (xh_inr hc4).symm.trans hf
    by_cases h5 : c4 = 1
    · subst h5
      replace hf := (if_pos rfl).symm.trans hf
      refine vx_catch (name := "java/lang/IndexOutOfBoundsException") hown [] ⟨0, 9, 12, 29⟩ [] htab pass0 (by decide) (by decide) (hts _ m5_85) (va_Nw.use rfl (hKs.2.1 _ m5_96)) hc9 hv9 hf9 ?_
      refine lv_astore_n (i := 3) (lv' := [(3, .ref q9), (0, rv E a_0), (1, .int a_1), (2, rv E a_2)]) hx hb dL_eligible_12 rfl hl (by decide) (by simp [List.filter_cons, cat_q, cat_i, cat_j, imax, imin]) (fun ls hl => ?_)
      refine lv_iconst (v := 1) hx hb dL_eligible_13 (by decide) ?_
      exact hw_wret hx hb (Nat.le_of_ble_eq_true rfl) (Nat.le_of_ble_eq_true rfl) hret hf hH hlocks dL_eligible_14
    replace hf := (if_neg h5).symm.trans hf
    cases hf
  · replace hf := (xh_inl hv3).symm.trans hf
    refine lv_i2l (v := (v3.toInt64)) hx hb dL_eligible_7 rfl ?_
    obtain ⟨a6, ha6, hf⟩ := bnd hf
    replace ha6 := cha_some ha6
    obtain ⟨j7, hj7, hf⟩ := bnd hf
    obtain ⟨w8, hw8, hf⟩ := bnd hf
    replace hw8 := Option.some.inj hw8
    refine hw_last (x := (v3.toInt64)) hx hb hKs hH ha6.1 ha6.2 hj7 dL_eligible_8 (fun H locs hH => ?_)
    rw [hw8] at hH
    refine lv_goto (tgt := 15) hx hb dL_eligible_9 (by decide) ?_
    refine lv_iconst (v := 0) hx hb dL_eligible_15 (by decide) ?_
    exact hw_wret hx hb (Nat.le_of_ble_eq_true rfl) (Nat.le_of_ble_eq_true rfl) hret hf hH hlocks dL_eligible_16

theorem dL_usage_0 : decode cL_usage 0 = .ok (.aload 4, 2) := by decide +kernel
theorem dL_usage_2 : decode cL_usage 2 = .ok (.iconst 0, 1) := by decide +kernel
theorem dL_usage_3 : decode cL_usage 3 = .ok (.aload_n 0, 1) := by decide +kernel
theorem dL_usage_4 : decode cL_usage 4 = .ok (.iload_n 1, 1) := by decide +kernel
theorem dL_usage_5 : decode cL_usage 5 = .ok (.iload_n 2, 1) := by decide +kernel
theorem dL_usage_6 : decode cL_usage 6 = .ok (.iload_n 3, 1) := by decide +kernel
theorem dL_usage_7 : decode cL_usage 7 = .ok (.invokevirtual 77, 3) := by decide +kernel
theorem dL_usage_10 : decode cL_usage 10 = .ok (.f2d, 1) := by decide +kernel
theorem dL_usage_11 : decode cL_usage 11 = .ok (.dastore, 1) := by decide +kernel
theorem dL_usage_12 : decode cL_usage 12 = .ok (.goto 11, 3) := by decide +kernel
theorem dL_usage_15 : decode cL_usage 15 = .ok (.astore 5, 2) := by decide +kernel
theorem dL_usage_17 : decode cL_usage 17 = .ok (.iconst 1, 1) := by decide +kernel
theorem dL_usage_18 : decode cL_usage 18 = .ok (.ireturn, 1) := by decide +kernel
theorem dL_usage_19 : decode cL_usage 19 = .ok (.astore 5, 2) := by decide +kernel
theorem dL_usage_21 : decode cL_usage 21 = .ok (.iconst 2, 1) := by decide +kernel
theorem dL_usage_22 : decode cL_usage 22 = .ok (.ireturn, 1) := by decide +kernel
theorem dL_usage_23 : decode cL_usage 23 = .ok (.iconst 0, 1) := by decide +kernel
theorem dL_usage_24 : decode cL_usage 24 = .ok (.ireturn, 1) := by decide +kernel
theorem hs_L_usage : yL_usage.cls ≠ "java/lang/invoke/MethodHandle" ∧ yL_usage.cls ≠ "java/lang/invoke/VarHandle" ∧ (parseMethodDescriptor yL_usage.desc).map (fun d => d.parameters.length) = some 5 := by decide +kernel
set_option maxHeartbeats 4000000 in
set_option maxRecDepth 100000 in
theorem k_L_usage (l : Launch) (hls : l.stackTraces = false) (E : Ev) (K : Kd) (z : Nat) (a_0 : Option Nat) (a_1 : Int32) (a_2 : Int32) (a_3 : Int32) (a_4 : Option Nat) (w : Wd) {r : Int32} {w' : Wd} (hf : f_L_usage K a_0 a_1 a_2 a_3 a_4 w = some (r, w')) : Met l yL_usage (Cond.codeWith yL_usage cL_usage 6 (Option.some Jvm.ClassFile.FieldType.int) [(0, 12, 15, 29), (0, 12, 19, 13)] :: bt) ({ frames := 8, cells := 2, slots := 12, locals := 136 } : Room) (va_Pc [rv E a_0, .int a_1, .int a_2, .int a_3, rv E a_4] (HB E K w z)) (QW E K w' r) 2 12 (hA E) := by
  refine MetH_ofW (cc := cL_usage) (maxL := 6) (ret := (Option.some Jvm.ClassFile.FieldType.int)) (hh := [(0, 12, 15, 29), (0, 12, 19, 13)]) (by decide) rfl ?_
  intro p e s m args below meth c s₁ B hml htab hv
  obtain ⟨rfl, hz, hP, hKs, hT, hb0⟩ := hv
  have C : CX p l e s m _ meth c cL_usage 6 RL (Option.some Jvm.ClassFile.FieldType.int) E := ⟨B.exec, B.bytes, hml, findClass_of_methodNamed B.named, fun w h => atoms_spec (ws := Cond.codeWith yL_usage cL_usage 6 (Option.some Jvm.ClassFile.FieldType.int) [(0, 12, 15, 29), (0, 12, 19, 13)] :: bt) B.pre w (List.mem_cons_of_mem _ h), hKs, hT, by rw [hz]; exact hb0, B.notSynchronized, B.returns⟩
  have hH : HQ E K z w s s.heap [] := ⟨hP, va_S.rf, hz⟩
  obtain ⟨hx, hb, hml, hown, hts, hKs, hT, hb0, hlocks, hret⟩ := id C
  have hl := lv_entry [rv E a_0, .int a_1, .int a_2, .int a_3, rv E a_4] (n := 6) (by simp [lg_len_nil, lg_len_i, lg_len_j, lg_len_q, lg_len_f, lg_len_d, lg_len_r])
  rw [lg_entry_eq]
  generalize (lg_sl [rv E a_0, .int a_1, .int a_2, .int a_3, rv E a_4] ++ List.replicate (6 - (lg_sl [rv E a_0, .int a_1, .int a_2, .int a_3, rv E a_4]).length) Slot.unset).toArray = ls at hl ⊢
  replace hl : lv_has ls 6 [(0, rv E a_0), (1, .int a_1), (2, .int a_2), (3, .int a_3), (4, rv E a_4)] := by simpa only [lv_args, cat_q, cat_i, cat_j, reduceIte, Nat.reduceEqDiff, Nat.reduceAdd, Nat.zero_add] using hl
  generalize s.heap = H at hH ⊢
  unfold f_L_usage at hf
  refine hl_aload hx hb dL_usage_0 (lv_at hl 4 rfl) ?_
  refine lv_iconst (v := 0) hx hb dL_usage_2 (by decide) ?_
  refine hl_aload_n hx hb dL_usage_3 rfl (lv_at hl 0 rfl) ?_
  refine lv_iload_n hx hb dL_usage_4 rfl (lv_at hl 1 rfl) ?_
  refine lv_iload_n hx hb dL_usage_5 rfl (lv_at hl 2 rfl) ?_
  refine lv_iload_n hx hb dL_usage_6 rfl (lv_at hl 3 rfl) ?_
  obtain ⟨a1, ha1, hf⟩ := bnd hf
  replace ha1 := chk_some ha1
  obtain ⟨q2, hq2, hf⟩ := bnd hf
  refine hxC_f hx hb hml hown hts hKs hT hb0 hH (As := [.int a_1, .int a_2, .int a_3]) (rest := [.int 0, rv E a_4]) (k_X12_usage l hls E K H.size a1 a_1 a_2 a_3 w ha1.2 hq2) (gV m6_34 m6_35 m6_36 m1_1 m6_37) hd_X12_usage ⟨Nat.le_of_ble_eq_true rfl, Nat.le_of_ble_eq_true rfl, rfl, rfl⟩ ha1.1 ha1.2 rfl rfl rfl hl.1 rfl (rcI (rcV rc0)) rfl dL_usage_7 ⟨Nat.le_of_ble_eq_true rfl, Nat.le_of_ble_eq_true rfl⟩ (fun c4 hc4 H locs q9 ce9 hH hc9 hv9 hf9 => ?_) (fun v3 hv3 H locs hH => ?_)
  · replace hf := (xh_inr hc4).symm.trans hf
    by_cases h5 : c4 = 1
    · subst h5
      replace hf := (if_pos rfl).symm.trans hf
      refine vx_catch (name := "java/lang/IndexOutOfBoundsException") hown [] ⟨0, 12, 15, 29⟩ [⟨0, 12, 19, 13⟩] htab pass0 (by decide) (by decide) (hts _ m5_85) (va_Nw.use rfl (hKs.2.1 _ m5_96)) hc9 hv9 hf9 ?_
      refine lv_astore (i := 5) (lv' := [(5, .ref q9), (0, rv E a_0), (1, .int a_1), (2, .int a_2), (3, .int a_3), (4, rv E a_4)]) hx hb dL_usage_15 hl (by decide) (by simp [List.filter_cons, cat_q, cat_i, cat_j, imax, imin]) (fun ls hl => ?_)
      refine lv_iconst (v := 1) hx hb dL_usage_17 (by decide) ?_
      exact hw_wret hx hb (Nat.le_of_ble_eq_true rfl) (Nat.le_of_ble_eq_true rfl) hret hf hH hlocks dL_usage_18
    replace hf := (if_neg h5).symm.trans hf
    by_cases h6 : c4 = 2
    · subst h6
      replace hf := (if_pos rfl).symm.trans hf
      refine vx_catch (name := "java/lang/IllegalArgumentException") hown [⟨0, 12, 15, 29⟩] ⟨0, 12, 19, 13⟩ [] htab (pass1 (Or.inr ⟨by decide, "java/lang/IndexOutOfBoundsException", hts _ m5_85, hKs.2.2.2.1 ("java/lang/IllegalArgumentException", "java/lang/IndexOutOfBoundsException") (by decide)⟩) pass0) (by decide) (by decide) (hts _ m4_212) (va_Nw.use rfl (hKs.2.1 _ m4_219)) hc9 hv9 hf9 ?_
      refine lv_astore (i := 5) (lv' := [(5, .ref q9), (0, rv E a_0), (1, .int a_1), (2, .int a_2), (3, .int a_3), (4, rv E a_4)]) hx hb dL_usage_19 hl (by decide) (by simp [List.filter_cons, cat_q, cat_i, cat_j, imax, imin]) (fun ls hl => ?_)
      refine lv_iconst (v := 2) hx hb dL_usage_21 (by decide) ?_
      exact hw_wret hx hb (Nat.le_of_ble_eq_true rfl) (Nat.le_of_ble_eq_true rfl) hret hf hH hlocks dL_usage_22
    replace hf := (if_neg h6).symm.trans hf
    cases hf
  · replace hf := (xh_inl hv3).symm.trans hf
    obtain ⟨_, hg7, hf⟩ := bnd hf
    refine lv_f2d hx hb dL_usage_10 (n64_ok (grd_some hg7)) ?_
    obtain ⟨a8, ha8, hf⟩ := bnd hf
    replace ha8 := cha_some ha8
    obtain ⟨j9, hj9, hf⟩ := bnd hf
    obtain ⟨w10, hw10, hf⟩ := bnd hf
    replace hw10 := Option.some.inj hw10
    refine hw_dast (x := (FP.f2d v3)) hx hb hKs hH ha8.1 ha8.2 hj9 dL_usage_11 (fun H locs hH => ?_)
    rw [hw10] at hH
    refine lv_goto (tgt := 23) hx hb dL_usage_12 (by decide) ?_
    refine lv_iconst (v := 0) hx hb dL_usage_23 (by decide) ?_
    exact hw_wret hx hb (Nat.le_of_ble_eq_true rfl) (Nat.le_of_ble_eq_true rfl) hret hf hH hlocks dL_usage_24

theorem dL_pass_0 : decode cL_pass 0 = .ok (.aload_n 2, 1) := by decide +kernel
theorem dL_pass_1 : decode cL_pass 1 = .ok (.iconst 0, 1) := by decide +kernel
theorem dL_pass_2 : decode cL_pass 2 = .ok (.aload_n 0, 1) := by decide +kernel
theorem dL_pass_3 : decode cL_pass 3 = .ok (.iload_n 1, 1) := by decide +kernel
theorem dL_pass_4 : decode cL_pass 4 = .ok (.invokevirtual 81, 3) := by decide +kernel
theorem dL_pass_7 : decode cL_pass 7 = .ok (.i2l, 1) := by decide +kernel
theorem dL_pass_8 : decode cL_pass 8 = .ok (.lastore, 1) := by decide +kernel
theorem dL_pass_9 : decode cL_pass 9 = .ok (.goto 6, 3) := by decide +kernel
theorem dL_pass_12 : decode cL_pass 12 = .ok (.astore_n 3, 1) := by decide +kernel
theorem dL_pass_13 : decode cL_pass 13 = .ok (.iconst 1, 1) := by decide +kernel
theorem dL_pass_14 : decode cL_pass 14 = .ok (.ireturn, 1) := by decide +kernel
theorem dL_pass_15 : decode cL_pass 15 = .ok (.iconst 0, 1) := by decide +kernel
theorem dL_pass_16 : decode cL_pass 16 = .ok (.ireturn, 1) := by decide +kernel
theorem hs_L_pass : yL_pass.cls ≠ "java/lang/invoke/MethodHandle" ∧ yL_pass.cls ≠ "java/lang/invoke/VarHandle" ∧ (parseMethodDescriptor yL_pass.desc).map (fun d => d.parameters.length) = some 3 := by decide +kernel
set_option maxHeartbeats 4000000 in
set_option maxRecDepth 100000 in
theorem k_L_pass (l : Launch) (hls : l.stackTraces = false) (E : Ev) (K : Kd) (z : Nat) (a_0 : Option Nat) (a_1 : Int32) (a_2 : Option Nat) (w : Wd) {r : Int32} {w' : Wd} (hf : f_L_pass K a_0 a_1 a_2 w = some (r, w')) : Met l yL_pass (Cond.codeWith yL_pass cL_pass 4 (Option.some Jvm.ClassFile.FieldType.int) [(0, 9, 12, 13)] :: bt) ({ frames := 8, cells := 1, slots := 6, locals := 146 } : Room) (va_Pc [rv E a_0, .int a_1, rv E a_2] (HB E K w z)) (QW E K w' r) 1 6 (hA E) := by
  refine MetH_ofW (cc := cL_pass) (maxL := 4) (ret := (Option.some Jvm.ClassFile.FieldType.int)) (hh := [(0, 9, 12, 13)]) (by decide) rfl ?_
  intro p e s m args below meth c s₁ B hml htab hv
  obtain ⟨rfl, hz, hP, hKs, hT, hb0⟩ := hv
  have C : CX p l e s m _ meth c cL_pass 4 RL (Option.some Jvm.ClassFile.FieldType.int) E := ⟨B.exec, B.bytes, hml, findClass_of_methodNamed B.named, fun w h => atoms_spec (ws := Cond.codeWith yL_pass cL_pass 4 (Option.some Jvm.ClassFile.FieldType.int) [(0, 9, 12, 13)] :: bt) B.pre w (List.mem_cons_of_mem _ h), hKs, hT, by rw [hz]; exact hb0, B.notSynchronized, B.returns⟩
  have hH : HQ E K z w s s.heap [] := ⟨hP, va_S.rf, hz⟩
  obtain ⟨hx, hb, hml, hown, hts, hKs, hT, hb0, hlocks, hret⟩ := id C
  have hl := lv_entry [rv E a_0, .int a_1, rv E a_2] (n := 4) (by simp [lg_len_nil, lg_len_i, lg_len_j, lg_len_q, lg_len_f, lg_len_d, lg_len_r])
  rw [lg_entry_eq]
  generalize (lg_sl [rv E a_0, .int a_1, rv E a_2] ++ List.replicate (4 - (lg_sl [rv E a_0, .int a_1, rv E a_2]).length) Slot.unset).toArray = ls at hl ⊢
  replace hl : lv_has ls 4 [(0, rv E a_0), (1, .int a_1), (2, rv E a_2)] := by simpa only [lv_args, cat_q, cat_i, cat_j, reduceIte, Nat.reduceEqDiff, Nat.reduceAdd, Nat.zero_add] using hl
  generalize s.heap = H at hH ⊢
  unfold f_L_pass at hf
  refine hl_aload_n hx hb dL_pass_0 rfl (lv_at hl 2 rfl) ?_
  refine lv_iconst (v := 0) hx hb dL_pass_1 (by decide) ?_
  refine hl_aload_n hx hb dL_pass_2 rfl (lv_at hl 0 rfl) ?_
  refine lv_iload_n hx hb dL_pass_3 rfl (lv_at hl 1 rfl) ?_
  obtain ⟨a1, ha1, hf⟩ := bnd hf
  replace ha1 := chk_some ha1
  obtain ⟨q2, hq2, hf⟩ := bnd hf
  refine hxC_i hx hb hml hown hts hKs hT hb0 hH (As := [.int a_1]) (rest := [.int 0, rv E a_2]) (k_X12_pass l hls E K H.size a1 a_1 w ha1.2 hq2) (gV m6_45 m6_46 m6_47 m1_1 m6_48) hd_X12_pass ⟨Nat.le_of_ble_eq_true rfl, Nat.le_of_ble_eq_true rfl, rfl, rfl⟩ ha1.1 ha1.2 rfl rfl rfl hl.1 rfl (rcI (rcV rc0)) rfl dL_pass_4 ⟨Nat.le_of_ble_eq_true rfl, Nat.le_of_ble_eq_true rfl⟩ (fun c4 hc4 H locs q9 ce9 hH hc9 hv9 hf9 => ?_) (fun v3 hv3 H locs hH => ?_)
  · replace hf := (xh_inr hc4).symm.trans hf
    by_cases h5 : c4 = 2
    · subst h5
      replace hf := (if_pos rfl).symm.trans hf
      refine vx_catch (name := "java/lang/IllegalArgumentException") hown [] ⟨0, 9, 12, 13⟩ [] htab pass0 (by decide) (by decide) (hts _ m4_212) (va_Nw.use rfl (hKs.2.1 _ m4_219)) hc9 hv9 hf9 ?_
      refine lv_astore_n (i := 3) (lv' := [(3, .ref q9), (0, rv E a_0), (1, .int a_1), (2, rv E a_2)]) hx hb dL_pass_12 rfl hl (by decide) (by simp [List.filter_cons, cat_q, cat_i, cat_j, imax, imin]) (fun ls hl => ?_)
      refine lv_iconst (v := 1) hx hb dL_pass_13 (by decide) ?_
      exact hw_wret hx hb (Nat.le_of_ble_eq_true rfl) (Nat.le_of_ble_eq_true rfl) hret hf hH hlocks dL_pass_14
    replace hf := (if_neg h5).symm.trans hf
    cases hf
  · replace hf := (xh_inl hv3).symm.trans hf
    refine lv_i2l (v := (v3.toInt64)) hx hb dL_pass_7 rfl ?_
    obtain ⟨a6, ha6, hf⟩ := bnd hf
    replace ha6 := cha_some ha6
    obtain ⟨j7, hj7, hf⟩ := bnd hf
    obtain ⟨w8, hw8, hf⟩ := bnd hf
    replace hw8 := Option.some.inj hw8
    refine hw_last (x := (v3.toInt64)) hx hb hKs hH ha6.1 ha6.2 hj7 dL_pass_8 (fun H locs hH => ?_)
    rw [hw8] at hH
    refine lv_goto (tgt := 15) hx hb dL_pass_9 (by decide) ?_
    refine lv_iconst (v := 0) hx hb dL_pass_15 (by decide) ?_
    exact hw_wret hx hb (Nat.le_of_ble_eq_true rfl) (Nat.le_of_ble_eq_true rfl) hret hf hH hlocks dL_pass_16

theorem dL_adjourn_0 : decode cL_adjourn 0 = .ok (.aload_n 3, 1) := by decide +kernel
theorem dL_adjourn_1 : decode cL_adjourn 1 = .ok (.iconst 0, 1) := by decide +kernel
theorem dL_adjourn_2 : decode cL_adjourn 2 = .ok (.aload_n 0, 1) := by decide +kernel
theorem dL_adjourn_3 : decode cL_adjourn 3 = .ok (.iload_n 1, 1) := by decide +kernel
theorem dL_adjourn_4 : decode cL_adjourn 4 = .ok (.iload_n 2, 1) := by decide +kernel
theorem dL_adjourn_5 : decode cL_adjourn 5 = .ok (.invokevirtual 90, 3) := by decide +kernel
theorem dL_adjourn_8 : decode cL_adjourn 8 = .ok (.i2l, 1) := by decide +kernel
theorem dL_adjourn_9 : decode cL_adjourn 9 = .ok (.lastore, 1) := by decide +kernel
theorem dL_adjourn_10 : decode cL_adjourn 10 = .ok (.goto 15, 3) := by decide +kernel
theorem dL_adjourn_13 : decode cL_adjourn 13 = .ok (.astore 4, 2) := by decide +kernel
theorem dL_adjourn_15 : decode cL_adjourn 15 = .ok (.iconst 1, 1) := by decide +kernel
theorem dL_adjourn_16 : decode cL_adjourn 16 = .ok (.ireturn, 1) := by decide +kernel
theorem dL_adjourn_17 : decode cL_adjourn 17 = .ok (.astore 4, 2) := by decide +kernel
theorem dL_adjourn_19 : decode cL_adjourn 19 = .ok (.iconst 2, 1) := by decide +kernel
theorem dL_adjourn_20 : decode cL_adjourn 20 = .ok (.ireturn, 1) := by decide +kernel
theorem dL_adjourn_21 : decode cL_adjourn 21 = .ok (.astore 4, 2) := by decide +kernel
theorem dL_adjourn_23 : decode cL_adjourn 23 = .ok (.iconst 3, 1) := by decide +kernel
theorem dL_adjourn_24 : decode cL_adjourn 24 = .ok (.ireturn, 1) := by decide +kernel
theorem dL_adjourn_25 : decode cL_adjourn 25 = .ok (.iconst 0, 1) := by decide +kernel
theorem dL_adjourn_26 : decode cL_adjourn 26 = .ok (.ireturn, 1) := by decide +kernel
theorem hs_L_adjourn : yL_adjourn.cls ≠ "java/lang/invoke/MethodHandle" ∧ yL_adjourn.cls ≠ "java/lang/invoke/VarHandle" ∧ (parseMethodDescriptor yL_adjourn.desc).map (fun d => d.parameters.length) = some 4 := by decide +kernel
set_option maxHeartbeats 4000000 in
set_option maxRecDepth 100000 in
theorem k_L_adjourn (l : Launch) (hls : l.stackTraces = false) (E : Ev) (K : Kd) (z : Nat) (a_0 : Option Nat) (a_1 : Int32) (a_2 : Int32) (a_3 : Option Nat) (w : Wd) {r : Int32} {w' : Wd} (hf : f_L_adjourn K a_0 a_1 a_2 a_3 w = some (r, w')) : Met l yL_adjourn (Cond.codeWith yL_adjourn cL_adjourn 5 (Option.some Jvm.ClassFile.FieldType.int) [(0, 10, 13, 29), (0, 10, 17, 13), (0, 10, 21, 58)] :: bt) ({ frames := 8, cells := 3, slots := 18, locals := 148 } : Room) (va_Pc [rv E a_0, .int a_1, .int a_2, rv E a_3] (HB E K w z)) (QW E K w' r) 3 18 (hA E) := by
  refine MetH_ofW (cc := cL_adjourn) (maxL := 5) (ret := (Option.some Jvm.ClassFile.FieldType.int)) (hh := [(0, 10, 13, 29), (0, 10, 17, 13), (0, 10, 21, 58)]) (by decide) rfl ?_
  intro p e s m args below meth c s₁ B hml htab hv
  obtain ⟨rfl, hz, hP, hKs, hT, hb0⟩ := hv
  have C : CX p l e s m _ meth c cL_adjourn 5 RL (Option.some Jvm.ClassFile.FieldType.int) E := ⟨B.exec, B.bytes, hml, findClass_of_methodNamed B.named, fun w h => atoms_spec (ws := Cond.codeWith yL_adjourn cL_adjourn 5 (Option.some Jvm.ClassFile.FieldType.int) [(0, 10, 13, 29), (0, 10, 17, 13), (0, 10, 21, 58)] :: bt) B.pre w (List.mem_cons_of_mem _ h), hKs, hT, by rw [hz]; exact hb0, B.notSynchronized, B.returns⟩
  have hH : HQ E K z w s s.heap [] := ⟨hP, va_S.rf, hz⟩
  obtain ⟨hx, hb, hml, hown, hts, hKs, hT, hb0, hlocks, hret⟩ := id C
  have hl := lv_entry [rv E a_0, .int a_1, .int a_2, rv E a_3] (n := 5) (by simp [lg_len_nil, lg_len_i, lg_len_j, lg_len_q, lg_len_f, lg_len_d, lg_len_r])
  rw [lg_entry_eq]
  generalize (lg_sl [rv E a_0, .int a_1, .int a_2, rv E a_3] ++ List.replicate (5 - (lg_sl [rv E a_0, .int a_1, .int a_2, rv E a_3]).length) Slot.unset).toArray = ls at hl ⊢
  replace hl : lv_has ls 5 [(0, rv E a_0), (1, .int a_1), (2, .int a_2), (3, rv E a_3)] := by simpa only [lv_args, cat_q, cat_i, cat_j, reduceIte, Nat.reduceEqDiff, Nat.reduceAdd, Nat.zero_add] using hl
  generalize s.heap = H at hH ⊢
  unfold f_L_adjourn at hf
  refine hl_aload_n hx hb dL_adjourn_0 rfl (lv_at hl 3 rfl) ?_
  refine lv_iconst (v := 0) hx hb dL_adjourn_1 (by decide) ?_
  refine hl_aload_n hx hb dL_adjourn_2 rfl (lv_at hl 0 rfl) ?_
  refine lv_iload_n hx hb dL_adjourn_3 rfl (lv_at hl 1 rfl) ?_
  refine lv_iload_n hx hb dL_adjourn_4 rfl (lv_at hl 2 rfl) ?_
  obtain ⟨a1, ha1, hf⟩ := bnd hf
  replace ha1 := chk_some ha1
  obtain ⟨q2, hq2, hf⟩ := bnd hf
  refine hxC_i hx hb hml hown hts hKs hT hb0 hH (As := [.int a_1, .int a_2]) (rest := [.int 0, rv E a_3]) (k_X12_adjourn l hls E K H.size a1 a_1 a_2 w ha1.2 hq2) (gV m6_76 m6_77 m6_78 m1_1 m6_79) hd_X12_adjourn ⟨Nat.le_of_ble_eq_true rfl, Nat.le_of_ble_eq_true rfl, rfl, rfl⟩ ha1.1 ha1.2 rfl rfl rfl hl.1 rfl (rcI (rcV rc0)) rfl dL_adjourn_5 ⟨Nat.le_of_ble_eq_true rfl, Nat.le_of_ble_eq_true rfl⟩ (fun c4 hc4 H locs q9 ce9 hH hc9 hv9 hf9 => ?_) (fun v3 hv3 H locs hH => ?_)
  · replace hf := (xh_inr hc4).symm.trans hf
    by_cases h5 : c4 = 1
    · subst h5
      replace hf := (if_pos rfl).symm.trans hf
      refine vx_catch (name := "java/lang/IndexOutOfBoundsException") hown [] ⟨0, 10, 13, 29⟩ [⟨0, 10, 17, 13⟩, ⟨0, 10, 21, 58⟩] htab pass0 (by decide) (by decide) (hts _ m5_85) (va_Nw.use rfl (hKs.2.1 _ m5_96)) hc9 hv9 hf9 ?_
      refine lv_astore (i := 4) (lv' := [(4, .ref q9), (0, rv E a_0), (1, .int a_1), (2, .int a_2), (3, rv E a_3)]) hx hb dL_adjourn_13 hl (by decide) (by simp [List.filter_cons, cat_q, cat_i, cat_j, imax, imin]) (fun ls hl => ?_)
      refine lv_iconst (v := 1) hx hb dL_adjourn_15 (by decide) ?_
      exact hw_wret hx hb (Nat.le_of_ble_eq_true rfl) (Nat.le_of_ble_eq_true rfl) hret hf hH hlocks dL_adjourn_16
    replace hf := (if_neg h5).symm.trans hf
    by_cases h6 : c4 = 2
    · subst h6
      replace hf := (if_pos rfl).symm.trans hf
      refine vx_catch (name := "java/lang/IllegalArgumentException") hown [⟨0, 10, 13, 29⟩] ⟨0, 10, 17, 13⟩ [⟨0, 10, 21, 58⟩] htab (pass1 (Or.inr ⟨by decide, "java/lang/IndexOutOfBoundsException", hts _ m5_85, hKs.2.2.2.1 ("java/lang/IllegalArgumentException", "java/lang/IndexOutOfBoundsException") (by decide)⟩) pass0) (by decide) (by decide) (hts _ m4_212) (va_Nw.use rfl (hKs.2.1 _ m4_219)) hc9 hv9 hf9 ?_
      refine lv_astore (i := 4) (lv' := [(4, .ref q9), (0, rv E a_0), (1, .int a_1), (2, .int a_2), (3, rv E a_3)]) hx hb dL_adjourn_17 hl (by decide) (by simp [List.filter_cons, cat_q, cat_i, cat_j, imax, imin]) (fun ls hl => ?_)
      refine lv_iconst (v := 2) hx hb dL_adjourn_19 (by decide) ?_
      exact hw_wret hx hb (Nat.le_of_ble_eq_true rfl) (Nat.le_of_ble_eq_true rfl) hret hf hH hlocks dL_adjourn_20
    replace hf := (if_neg h6).symm.trans hf
    by_cases h7 : c4 = 3
    · subst h7
      replace hf := (if_pos rfl).symm.trans hf
      refine vx_catch (name := "java/lang/IllegalStateException") hown [⟨0, 10, 13, 29⟩, ⟨0, 10, 17, 13⟩] ⟨0, 10, 21, 58⟩ [] htab (pass1 (Or.inr ⟨by decide, "java/lang/IndexOutOfBoundsException", hts _ m5_85, hKs.2.2.2.1 ("java/lang/IllegalStateException", "java/lang/IndexOutOfBoundsException") (by decide)⟩) (pass1 (Or.inr ⟨by decide, "java/lang/IllegalArgumentException", hts _ m4_212, hKs.2.2.2.1 ("java/lang/IllegalStateException", "java/lang/IllegalArgumentException") (by decide)⟩) pass0)) (by decide) (by decide) (hts _ m5_181) (va_Nw.use rfl (hKs.2.1 _ m5_196)) hc9 hv9 hf9 ?_
      refine lv_astore (i := 4) (lv' := [(4, .ref q9), (0, rv E a_0), (1, .int a_1), (2, .int a_2), (3, rv E a_3)]) hx hb dL_adjourn_21 hl (by decide) (by simp [List.filter_cons, cat_q, cat_i, cat_j, imax, imin]) (fun ls hl => ?_)
      refine lv_iconst (v := 3) hx hb dL_adjourn_23 (by decide) ?_
      exact hw_wret hx hb (Nat.le_of_ble_eq_true rfl) (Nat.le_of_ble_eq_true rfl) hret hf hH hlocks dL_adjourn_24
    replace hf := (if_neg h7).symm.trans hf
    cases hf
  · replace hf := (xh_inl hv3).symm.trans hf
    refine lv_i2l (v := (v3.toInt64)) hx hb dL_adjourn_8 rfl ?_
    obtain ⟨a8, ha8, hf⟩ := bnd hf
    replace ha8 := cha_some ha8
    obtain ⟨j9, hj9, hf⟩ := bnd hf
    obtain ⟨w10, hw10, hf⟩ := bnd hf
    replace hw10 := Option.some.inj hw10
    refine hw_last (x := (v3.toInt64)) hx hb hKs hH ha8.1 ha8.2 hj9 dL_adjourn_9 (fun H locs hH => ?_)
    rw [hw10] at hH
    refine lv_goto (tgt := 25) hx hb dL_adjourn_10 (by decide) ?_
    refine lv_iconst (v := 0) hx hb dL_adjourn_25 (by decide) ?_
    exact hw_wret hx hb (Nat.le_of_ble_eq_true rfl) (Nat.le_of_ble_eq_true rfl) hret hf hH hlocks dL_adjourn_26

theorem dL_withdraw_0 : decode cL_withdraw 0 = .ok (.aload_n 3, 1) := by decide +kernel
theorem dL_withdraw_1 : decode cL_withdraw 1 = .ok (.iconst 0, 1) := by decide +kernel
theorem dL_withdraw_2 : decode cL_withdraw 2 = .ok (.aload_n 0, 1) := by decide +kernel
theorem dL_withdraw_3 : decode cL_withdraw 3 = .ok (.iload_n 1, 1) := by decide +kernel
theorem dL_withdraw_4 : decode cL_withdraw 4 = .ok (.iload_n 2, 1) := by decide +kernel
theorem dL_withdraw_5 : decode cL_withdraw 5 = .ok (.invokevirtual 93, 3) := by decide +kernel
theorem dL_withdraw_8 : decode cL_withdraw 8 = .ok (.i2l, 1) := by decide +kernel
theorem dL_withdraw_9 : decode cL_withdraw 9 = .ok (.lastore, 1) := by decide +kernel
theorem dL_withdraw_10 : decode cL_withdraw 10 = .ok (.goto 11, 3) := by decide +kernel
theorem dL_withdraw_13 : decode cL_withdraw 13 = .ok (.astore 4, 2) := by decide +kernel
theorem dL_withdraw_15 : decode cL_withdraw 15 = .ok (.iconst 1, 1) := by decide +kernel
theorem dL_withdraw_16 : decode cL_withdraw 16 = .ok (.ireturn, 1) := by decide +kernel
theorem dL_withdraw_17 : decode cL_withdraw 17 = .ok (.astore 4, 2) := by decide +kernel
theorem dL_withdraw_19 : decode cL_withdraw 19 = .ok (.iconst 2, 1) := by decide +kernel
theorem dL_withdraw_20 : decode cL_withdraw 20 = .ok (.ireturn, 1) := by decide +kernel
theorem dL_withdraw_21 : decode cL_withdraw 21 = .ok (.iconst 0, 1) := by decide +kernel
theorem dL_withdraw_22 : decode cL_withdraw 22 = .ok (.ireturn, 1) := by decide +kernel
theorem hs_L_withdraw : yL_withdraw.cls ≠ "java/lang/invoke/MethodHandle" ∧ yL_withdraw.cls ≠ "java/lang/invoke/VarHandle" ∧ (parseMethodDescriptor yL_withdraw.desc).map (fun d => d.parameters.length) = some 4 := by decide +kernel
set_option maxHeartbeats 4000000 in
set_option maxRecDepth 100000 in
theorem k_L_withdraw (l : Launch) (hls : l.stackTraces = false) (E : Ev) (K : Kd) (z : Nat) (a_0 : Option Nat) (a_1 : Int32) (a_2 : Int32) (a_3 : Option Nat) (w : Wd) {r : Int32} {w' : Wd} (hf : f_L_withdraw K a_0 a_1 a_2 a_3 w = some (r, w')) : Met l yL_withdraw (Cond.codeWith yL_withdraw cL_withdraw 5 (Option.some Jvm.ClassFile.FieldType.int) [(0, 10, 13, 29), (0, 10, 17, 13)] :: bt) ({ frames := 8, cells := 2, slots := 12, locals := 151 } : Room) (va_Pc [rv E a_0, .int a_1, .int a_2, rv E a_3] (HB E K w z)) (QW E K w' r) 2 12 (hA E) := by
  refine MetH_ofW (cc := cL_withdraw) (maxL := 5) (ret := (Option.some Jvm.ClassFile.FieldType.int)) (hh := [(0, 10, 13, 29), (0, 10, 17, 13)]) (by decide) rfl ?_
  intro p e s m args below meth c s₁ B hml htab hv
  obtain ⟨rfl, hz, hP, hKs, hT, hb0⟩ := hv
  have C : CX p l e s m _ meth c cL_withdraw 5 RL (Option.some Jvm.ClassFile.FieldType.int) E := ⟨B.exec, B.bytes, hml, findClass_of_methodNamed B.named, fun w h => atoms_spec (ws := Cond.codeWith yL_withdraw cL_withdraw 5 (Option.some Jvm.ClassFile.FieldType.int) [(0, 10, 13, 29), (0, 10, 17, 13)] :: bt) B.pre w (List.mem_cons_of_mem _ h), hKs, hT, by rw [hz]; exact hb0, B.notSynchronized, B.returns⟩
  have hH : HQ E K z w s s.heap [] := ⟨hP, va_S.rf, hz⟩
  obtain ⟨hx, hb, hml, hown, hts, hKs, hT, hb0, hlocks, hret⟩ := id C
  have hl := lv_entry [rv E a_0, .int a_1, .int a_2, rv E a_3] (n := 5) (by simp [lg_len_nil, lg_len_i, lg_len_j, lg_len_q, lg_len_f, lg_len_d, lg_len_r])
  rw [lg_entry_eq]
  generalize (lg_sl [rv E a_0, .int a_1, .int a_2, rv E a_3] ++ List.replicate (5 - (lg_sl [rv E a_0, .int a_1, .int a_2, rv E a_3]).length) Slot.unset).toArray = ls at hl ⊢
  replace hl : lv_has ls 5 [(0, rv E a_0), (1, .int a_1), (2, .int a_2), (3, rv E a_3)] := by simpa only [lv_args, cat_q, cat_i, cat_j, reduceIte, Nat.reduceEqDiff, Nat.reduceAdd, Nat.zero_add] using hl
  generalize s.heap = H at hH ⊢
  unfold f_L_withdraw at hf
  refine hl_aload_n hx hb dL_withdraw_0 rfl (lv_at hl 3 rfl) ?_
  refine lv_iconst (v := 0) hx hb dL_withdraw_1 (by decide) ?_
  refine hl_aload_n hx hb dL_withdraw_2 rfl (lv_at hl 0 rfl) ?_
  refine lv_iload_n hx hb dL_withdraw_3 rfl (lv_at hl 1 rfl) ?_
  refine lv_iload_n hx hb dL_withdraw_4 rfl (lv_at hl 2 rfl) ?_
  obtain ⟨a1, ha1, hf⟩ := bnd hf
  replace ha1 := chk_some ha1
  obtain ⟨q2, hq2, hf⟩ := bnd hf
  refine hxC_i hx hb hml hown hts hKs hT hb0 hH (As := [.int a_1, .int a_2]) (rest := [.int 0, rv E a_3]) (k_X12_withdraw l hls E K H.size a1 a_1 a_2 w ha1.2 hq2) (gV m6_93 m6_94 m6_95 m1_1 m6_96) hd_X12_withdraw ⟨Nat.le_of_ble_eq_true rfl, Nat.le_of_ble_eq_true rfl, rfl, rfl⟩ ha1.1 ha1.2 rfl rfl rfl hl.1 rfl (rcI (rcV rc0)) rfl dL_withdraw_5 ⟨Nat.le_of_ble_eq_true rfl, Nat.le_of_ble_eq_true rfl⟩ (fun c4 hc4 H locs q9 ce9 hH hc9 hv9 hf9 => ?_) (fun v3 hv3 H locs hH => ?_)
  · replace hf := (xh_inr hc4).symm.trans hf
    by_cases h5 : c4 = 1
    · subst h5
      replace hf := (if_pos rfl).symm.trans hf
      refine vx_catch (name := "java/lang/IndexOutOfBoundsException") hown [] ⟨0, 10, 13, 29⟩ [⟨0, 10, 17, 13⟩] htab pass0 (by decide) (by decide) (hts _ m5_85) (va_Nw.use rfl (hKs.2.1 _ m5_96)) hc9 hv9 hf9 ?_
      refine lv_astore (i := 4) (lv' := [(4, .ref q9), (0, rv E a_0), (1, .int a_1), (2, .int a_2), (3, rv E a_3)]) hx hb dL_withdraw_13 hl (by decide) (by simp [List.filter_cons, cat_q, cat_i, cat_j, imax, imin]) (fun ls hl => ?_)
      refine lv_iconst (v := 1) hx hb dL_withdraw_15 (by decide) ?_
      exact hw_wret hx hb (Nat.le_of_ble_eq_true rfl) (Nat.le_of_ble_eq_true rfl) hret hf hH hlocks dL_withdraw_16
    replace hf := (if_neg h5).symm.trans hf
    by_cases h6 : c4 = 2
    · subst h6
      replace hf := (if_pos rfl).symm.trans hf
      refine vx_catch (name := "java/lang/IllegalArgumentException") hown [⟨0, 10, 13, 29⟩] ⟨0, 10, 17, 13⟩ [] htab (pass1 (Or.inr ⟨by decide, "java/lang/IndexOutOfBoundsException", hts _ m5_85, hKs.2.2.2.1 ("java/lang/IllegalArgumentException", "java/lang/IndexOutOfBoundsException") (by decide)⟩) pass0) (by decide) (by decide) (hts _ m4_212) (va_Nw.use rfl (hKs.2.1 _ m4_219)) hc9 hv9 hf9 ?_
      refine lv_astore (i := 4) (lv' := [(4, .ref q9), (0, rv E a_0), (1, .int a_1), (2, .int a_2), (3, rv E a_3)]) hx hb dL_withdraw_17 hl (by decide) (by simp [List.filter_cons, cat_q, cat_i, cat_j, imax, imin]) (fun ls hl => ?_)
      refine lv_iconst (v := 2) hx hb dL_withdraw_19 (by decide) ?_
      exact hw_wret hx hb (Nat.le_of_ble_eq_true rfl) (Nat.le_of_ble_eq_true rfl) hret hf hH hlocks dL_withdraw_20
    replace hf := (if_neg h6).symm.trans hf
    cases hf
  · replace hf := (xh_inl hv3).symm.trans hf
    refine lv_i2l (v := (v3.toInt64)) hx hb dL_withdraw_8 rfl ?_
    obtain ⟨a7, ha7, hf⟩ := bnd hf
    replace ha7 := cha_some ha7
    obtain ⟨j8, hj8, hf⟩ := bnd hf
    obtain ⟨w9, hw9, hf⟩ := bnd hf
    replace hw9 := Option.some.inj hw9
    refine hw_last (x := (v3.toInt64)) hx hb hKs hH ha7.1 ha7.2 hj8 dL_withdraw_9 (fun H locs hH => ?_)
    rw [hw9] at hH
    refine lv_goto (tgt := 21) hx hb dL_withdraw_10 (by decide) ?_
    refine lv_iconst (v := 0) hx hb dL_withdraw_21 (by decide) ?_
    exact hw_wret hx hb (Nat.le_of_ble_eq_true rfl) (Nat.le_of_ble_eq_true rfl) hret hf hH hlocks dL_withdraw_22

theorem dL_addHoliday_0 : decode cL_addHoliday 0 = .ok (.aload_n 2, 1) := by decide +kernel
theorem dL_addHoliday_1 : decode cL_addHoliday 1 = .ok (.iconst 0, 1) := by decide +kernel
theorem dL_addHoliday_2 : decode cL_addHoliday 2 = .ok (.aload_n 0, 1) := by decide +kernel
theorem dL_addHoliday_3 : decode cL_addHoliday 3 = .ok (.iload_n 1, 1) := by decide +kernel
theorem dL_addHoliday_4 : decode cL_addHoliday 4 = .ok (.invokevirtual 96, 3) := by decide +kernel
theorem dL_addHoliday_7 : decode cL_addHoliday 7 = .ok (.i2l, 1) := by decide +kernel
theorem dL_addHoliday_8 : decode cL_addHoliday 8 = .ok (.lastore, 1) := by decide +kernel
theorem dL_addHoliday_9 : decode cL_addHoliday 9 = .ok (.goto 9, 3) := by decide +kernel
theorem dL_addHoliday_12 : decode cL_addHoliday 12 = .ok (.astore_n 3, 1) := by decide +kernel
theorem dL_addHoliday_13 : decode cL_addHoliday 13 = .ok (.iconst 1, 1) := by decide +kernel
theorem dL_addHoliday_14 : decode cL_addHoliday 14 = .ok (.ireturn, 1) := by decide +kernel
theorem dL_addHoliday_15 : decode cL_addHoliday 15 = .ok (.astore_n 3, 1) := by decide +kernel
theorem dL_addHoliday_16 : decode cL_addHoliday 16 = .ok (.iconst 2, 1) := by decide +kernel
theorem dL_addHoliday_17 : decode cL_addHoliday 17 = .ok (.ireturn, 1) := by decide +kernel
theorem dL_addHoliday_18 : decode cL_addHoliday 18 = .ok (.iconst 0, 1) := by decide +kernel
theorem dL_addHoliday_19 : decode cL_addHoliday 19 = .ok (.ireturn, 1) := by decide +kernel
theorem hs_L_addHoliday : yL_addHoliday.cls ≠ "java/lang/invoke/MethodHandle" ∧ yL_addHoliday.cls ≠ "java/lang/invoke/VarHandle" ∧ (parseMethodDescriptor yL_addHoliday.desc).map (fun d => d.parameters.length) = some 3 := by decide +kernel
set_option maxHeartbeats 4000000 in
set_option maxRecDepth 100000 in
theorem k_L_addHoliday (l : Launch) (hls : l.stackTraces = false) (E : Ev) (K : Kd) (z : Nat) (a_0 : Option Nat) (a_1 : Int32) (a_2 : Option Nat) (w : Wd) {r : Int32} {w' : Wd} (hf : f_L_addHoliday K a_0 a_1 a_2 w = some (r, w')) : Met l yL_addHoliday (Cond.codeWith yL_addHoliday cL_addHoliday 4 (Option.some Jvm.ClassFile.FieldType.int) [(0, 9, 12, 13), (0, 9, 15, 58)] :: bt) ({ frames := 8, cells := 2, slots := 12, locals := 149 } : Room) (va_Pc [rv E a_0, .int a_1, rv E a_2] (HB E K w z)) (QW E K w' r) 2 12 (hA E) := by
  refine MetH_ofW (cc := cL_addHoliday) (maxL := 4) (ret := (Option.some Jvm.ClassFile.FieldType.int)) (hh := [(0, 9, 12, 13), (0, 9, 15, 58)]) (by decide) rfl ?_
  intro p e s m args below meth c s₁ B hml htab hv
  obtain ⟨rfl, hz, hP, hKs, hT, hb0⟩ := hv
  have C : CX p l e s m _ meth c cL_addHoliday 4 RL (Option.some Jvm.ClassFile.FieldType.int) E := ⟨B.exec, B.bytes, hml, findClass_of_methodNamed B.named, fun w h => atoms_spec (ws := Cond.codeWith yL_addHoliday cL_addHoliday 4 (Option.some Jvm.ClassFile.FieldType.int) [(0, 9, 12, 13), (0, 9, 15, 58)] :: bt) B.pre w (List.mem_cons_of_mem _ h), hKs, hT, by rw [hz]; exact hb0, B.notSynchronized, B.returns⟩
  have hH : HQ E K z w s s.heap [] := ⟨hP, va_S.rf, hz⟩
  obtain ⟨hx, hb, hml, hown, hts, hKs, hT, hb0, hlocks, hret⟩ := id C
  have hl := lv_entry [rv E a_0, .int a_1, rv E a_2] (n := 4) (by simp [lg_len_nil, lg_len_i, lg_len_j, lg_len_q, lg_len_f, lg_len_d, lg_len_r])
  rw [lg_entry_eq]
  generalize (lg_sl [rv E a_0, .int a_1, rv E a_2] ++ List.replicate (4 - (lg_sl [rv E a_0, .int a_1, rv E a_2]).length) Slot.unset).toArray = ls at hl ⊢
  replace hl : lv_has ls 4 [(0, rv E a_0), (1, .int a_1), (2, rv E a_2)] := by simpa only [lv_args, cat_q, cat_i, cat_j, reduceIte, Nat.reduceEqDiff, Nat.reduceAdd, Nat.zero_add] using hl
  generalize s.heap = H at hH ⊢
  unfold f_L_addHoliday at hf
  refine hl_aload_n hx hb dL_addHoliday_0 rfl (lv_at hl 2 rfl) ?_
  refine lv_iconst (v := 0) hx hb dL_addHoliday_1 (by decide) ?_
  refine hl_aload_n hx hb dL_addHoliday_2 rfl (lv_at hl 0 rfl) ?_
  refine lv_iload_n hx hb dL_addHoliday_3 rfl (lv_at hl 1 rfl) ?_
  obtain ⟨a1, ha1, hf⟩ := bnd hf
  replace ha1 := chk_some ha1
  obtain ⟨q2, hq2, hf⟩ := bnd hf
  refine hxC_i hx hb hml hown hts hKs hT hb0 hH (As := [.int a_1]) (rest := [.int 0, rv E a_2]) (k_X12_addHoliday l hls E K H.size a1 a_1 w ha1.2 hq2) (gV m6_105 m6_106 m6_107 m1_1 m6_108) hd_X12_addHoliday ⟨Nat.le_of_ble_eq_true rfl, Nat.le_of_ble_eq_true rfl, rfl, rfl⟩ ha1.1 ha1.2 rfl rfl rfl hl.1 rfl (rcI (rcV rc0)) rfl dL_addHoliday_4 ⟨Nat.le_of_ble_eq_true rfl, Nat.le_of_ble_eq_true rfl⟩ (fun c4 hc4 H locs q9 ce9 hH hc9 hv9 hf9 => ?_) (fun v3 hv3 H locs hH => ?_)
  · replace hf := (xh_inr hc4).symm.trans hf
    by_cases h5 : c4 = 2
    · subst h5
      replace hf := (if_pos rfl).symm.trans hf
      refine vx_catch (name := "java/lang/IllegalArgumentException") hown [] ⟨0, 9, 12, 13⟩ [⟨0, 9, 15, 58⟩] htab pass0 (by decide) (by decide) (hts _ m4_212) (va_Nw.use rfl (hKs.2.1 _ m4_219)) hc9 hv9 hf9 ?_
      refine lv_astore_n (i := 3) (lv' := [(3, .ref q9), (0, rv E a_0), (1, .int a_1), (2, rv E a_2)]) hx hb dL_addHoliday_12 rfl hl (by decide) (by simp [List.filter_cons, cat_q, cat_i, cat_j, imax, imin]) (fun ls hl => ?_)
      refine lv_iconst (v := 1) hx hb dL_addHoliday_13 (by decide) ?_
      exact hw_wret hx hb (Nat.le_of_ble_eq_true rfl) (Nat.le_of_ble_eq_true rfl) hret hf hH hlocks dL_addHoliday_14
    replace hf := (if_neg h5).symm.trans hf
    by_cases h6 : c4 = 3
    · subst h6
      replace hf := (if_pos rfl).symm.trans hf
      refine vx_catch (name := "java/lang/IllegalStateException") hown [⟨0, 9, 12, 13⟩] ⟨0, 9, 15, 58⟩ [] htab (pass1 (Or.inr ⟨by decide, "java/lang/IllegalArgumentException", hts _ m4_212, hKs.2.2.2.1 ("java/lang/IllegalStateException", "java/lang/IllegalArgumentException") (by decide)⟩) pass0) (by decide) (by decide) (hts _ m5_181) (va_Nw.use rfl (hKs.2.1 _ m5_196)) hc9 hv9 hf9 ?_
      refine lv_astore_n (i := 3) (lv' := [(3, .ref q9), (0, rv E a_0), (1, .int a_1), (2, rv E a_2)]) hx hb dL_addHoliday_15 rfl hl (by decide) (by simp [List.filter_cons, cat_q, cat_i, cat_j, imax, imin]) (fun ls hl => ?_)
      refine lv_iconst (v := 2) hx hb dL_addHoliday_16 (by decide) ?_
      exact hw_wret hx hb (Nat.le_of_ble_eq_true rfl) (Nat.le_of_ble_eq_true rfl) hret hf hH hlocks dL_addHoliday_17
    replace hf := (if_neg h6).symm.trans hf
    cases hf
  · replace hf := (xh_inl hv3).symm.trans hf
    refine lv_i2l (v := (v3.toInt64)) hx hb dL_addHoliday_7 rfl ?_
    obtain ⟨a7, ha7, hf⟩ := bnd hf
    replace ha7 := cha_some ha7
    obtain ⟨j8, hj8, hf⟩ := bnd hf
    obtain ⟨w9, hw9, hf⟩ := bnd hf
    replace hw9 := Option.some.inj hw9
    refine hw_last (x := (v3.toInt64)) hx hb hKs hH ha7.1 ha7.2 hj8 dL_addHoliday_8 (fun H locs hH => ?_)
    rw [hw9] at hH
    refine lv_goto (tgt := 18) hx hb dL_addHoliday_9 (by decide) ?_
    refine lv_iconst (v := 0) hx hb dL_addHoliday_18 (by decide) ?_
    exact hw_wret hx hb (Nat.le_of_ble_eq_true rfl) (Nat.le_of_ble_eq_true rfl) hret hf hH hlocks dL_addHoliday_19

theorem dL_addBar_0 : decode cL_addBar 0 = .ok (.aload_n 3, 1) := by decide +kernel
theorem dL_addBar_1 : decode cL_addBar 1 = .ok (.iconst 0, 1) := by decide +kernel
theorem dL_addBar_2 : decode cL_addBar 2 = .ok (.aload_n 0, 1) := by decide +kernel
theorem dL_addBar_3 : decode cL_addBar 3 = .ok (.iload_n 1, 1) := by decide +kernel
theorem dL_addBar_4 : decode cL_addBar 4 = .ok (.iload_n 2, 1) := by decide +kernel
theorem dL_addBar_5 : decode cL_addBar 5 = .ok (.invokevirtual 99, 3) := by decide +kernel
theorem dL_addBar_8 : decode cL_addBar 8 = .ok (.ifCond .eq 7, 3) := by decide +kernel
theorem dL_addBar_11 : decode cL_addBar 11 = .ok (.lconst 1, 1) := by decide +kernel
theorem dL_addBar_12 : decode cL_addBar 12 = .ok (.goto 4, 3) := by decide +kernel
theorem dL_addBar_15 : decode cL_addBar 15 = .ok (.lconst 0, 1) := by decide +kernel
theorem dL_addBar_16 : decode cL_addBar 16 = .ok (.lastore, 1) := by decide +kernel
theorem dL_addBar_17 : decode cL_addBar 17 = .ok (.goto 11, 3) := by decide +kernel
theorem dL_addBar_20 : decode cL_addBar 20 = .ok (.astore 4, 2) := by decide +kernel
theorem dL_addBar_22 : decode cL_addBar 22 = .ok (.iconst 1, 1) := by decide +kernel
theorem dL_addBar_23 : decode cL_addBar 23 = .ok (.ireturn, 1) := by decide +kernel
theorem dL_addBar_24 : decode cL_addBar 24 = .ok (.astore 4, 2) := by decide +kernel
theorem dL_addBar_26 : decode cL_addBar 26 = .ok (.iconst 2, 1) := by decide +kernel
theorem dL_addBar_27 : decode cL_addBar 27 = .ok (.ireturn, 1) := by decide +kernel
theorem dL_addBar_28 : decode cL_addBar 28 = .ok (.iconst 0, 1) := by decide +kernel
theorem dL_addBar_29 : decode cL_addBar 29 = .ok (.ireturn, 1) := by decide +kernel
theorem hs_L_addBar : yL_addBar.cls ≠ "java/lang/invoke/MethodHandle" ∧ yL_addBar.cls ≠ "java/lang/invoke/VarHandle" ∧ (parseMethodDescriptor yL_addBar.desc).map (fun d => d.parameters.length) = some 4 := by decide +kernel
set_option maxHeartbeats 4000000 in
set_option maxRecDepth 100000 in
theorem k_L_addBar (l : Launch) (hls : l.stackTraces = false) (E : Ev) (K : Kd) (z : Nat) (a_0 : Option Nat) (a_1 : Int32) (a_2 : Int32) (a_3 : Option Nat) (w : Wd) {r : Int32} {w' : Wd} (hf : f_L_addBar K a_0 a_1 a_2 a_3 w = some (r, w')) : Met l yL_addBar (Cond.codeWith yL_addBar cL_addBar 5 (Option.some Jvm.ClassFile.FieldType.int) [(0, 17, 20, 29), (0, 17, 24, 58)] :: bt) ({ frames := 8, cells := 3, slots := 18, locals := 149 } : Room) (va_Pc [rv E a_0, .int a_1, .int a_2, rv E a_3] (HB E K w z)) (QW E K w' r) 3 18 (hA E) := by
  refine MetH_ofW (cc := cL_addBar) (maxL := 5) (ret := (Option.some Jvm.ClassFile.FieldType.int)) (hh := [(0, 17, 20, 29), (0, 17, 24, 58)]) (by decide) rfl ?_
  intro p e s m args below meth c s₁ B hml htab hv
  obtain ⟨rfl, hz, hP, hKs, hT, hb0⟩ := hv
  have C : CX p l e s m _ meth c cL_addBar 5 RL (Option.some Jvm.ClassFile.FieldType.int) E := ⟨B.exec, B.bytes, hml, findClass_of_methodNamed B.named, fun w h => atoms_spec (ws := Cond.codeWith yL_addBar cL_addBar 5 (Option.some Jvm.ClassFile.FieldType.int) [(0, 17, 20, 29), (0, 17, 24, 58)] :: bt) B.pre w (List.mem_cons_of_mem _ h), hKs, hT, by rw [hz]; exact hb0, B.notSynchronized, B.returns⟩
  have hH : HQ E K z w s s.heap [] := ⟨hP, va_S.rf, hz⟩
  obtain ⟨hx, hb, hml, hown, hts, hKs, hT, hb0, hlocks, hret⟩ := id C
  have hl := lv_entry [rv E a_0, .int a_1, .int a_2, rv E a_3] (n := 5) (by simp [lg_len_nil, lg_len_i, lg_len_j, lg_len_q, lg_len_f, lg_len_d, lg_len_r])
  rw [lg_entry_eq]
  generalize (lg_sl [rv E a_0, .int a_1, .int a_2, rv E a_3] ++ List.replicate (5 - (lg_sl [rv E a_0, .int a_1, .int a_2, rv E a_3]).length) Slot.unset).toArray = ls at hl ⊢
  replace hl : lv_has ls 5 [(0, rv E a_0), (1, .int a_1), (2, .int a_2), (3, rv E a_3)] := by simpa only [lv_args, cat_q, cat_i, cat_j, reduceIte, Nat.reduceEqDiff, Nat.reduceAdd, Nat.zero_add] using hl
  generalize s.heap = H at hH ⊢
  unfold f_L_addBar at hf
  refine hl_aload_n hx hb dL_addBar_0 rfl (lv_at hl 3 rfl) ?_
  refine lv_iconst (v := 0) hx hb dL_addBar_1 (by decide) ?_
  refine hl_aload_n hx hb dL_addBar_2 rfl (lv_at hl 0 rfl) ?_
  refine lv_iload_n hx hb dL_addBar_3 rfl (lv_at hl 1 rfl) ?_
  refine lv_iload_n hx hb dL_addBar_4 rfl (lv_at hl 2 rfl) ?_
  obtain ⟨a1, ha1, hf⟩ := bnd hf
  replace ha1 := chk_some ha1
  obtain ⟨q2, hq2, hf⟩ := bnd hf
  refine hxC_z hx hb hml hown hts hKs hT hb0 hH (As := [.int a_1, .int a_2]) (rest := [.int 0, rv E a_3]) (k_X12_addBar l hls E K H.size a1 a_1 a_2 w ha1.2 hq2) (gV m6_113 m6_114 m6_115 m1_1 m6_116) hd_X12_addBar ⟨Nat.le_of_ble_eq_true rfl, Nat.le_of_ble_eq_true rfl, rfl, rfl⟩ ha1.1 ha1.2 rfl rfl rfl hl.1 rfl (rcI (rcV rc0)) rfl dL_addBar_5 ⟨Nat.le_of_ble_eq_true rfl, Nat.le_of_ble_eq_true rfl⟩ (fun c4 hc4 H locs q9 ce9 hH hc9 hv9 hf9 => ?_) (fun v3 hv3 H locs hH => ?_)
  · replace hf := (xh_inr hc4).symm.trans hf
    by_cases h5 : c4 = 1
    · subst h5
      replace hf := (if_pos rfl).symm.trans hf
      refine vx_catch (name := "java/lang/IndexOutOfBoundsException") hown [] ⟨0, 17, 20, 29⟩ [⟨0, 17, 24, 58⟩] htab pass0 (by decide) (by decide) (hts _ m5_85) (va_Nw.use rfl (hKs.2.1 _ m5_96)) hc9 hv9 hf9 ?_
      refine lv_astore (i := 4) (lv' := [(4, .ref q9), (0, rv E a_0), (1, .int a_1), (2, .int a_2), (3, rv E a_3)]) hx hb dL_addBar_20 hl (by decide) (by simp [List.filter_cons, cat_q, cat_i, cat_j, imax, imin]) (fun ls hl => ?_)
      refine lv_iconst (v := 1) hx hb dL_addBar_22 (by decide) ?_
      exact hw_wret hx hb (Nat.le_of_ble_eq_true rfl) (Nat.le_of_ble_eq_true rfl) hret hf hH hlocks dL_addBar_23
    replace hf := (if_neg h5).symm.trans hf
    by_cases h6 : c4 = 3
    · subst h6
      replace hf := (if_pos rfl).symm.trans hf
      refine vx_catch (name := "java/lang/IllegalStateException") hown [⟨0, 17, 20, 29⟩] ⟨0, 17, 24, 58⟩ [] htab (pass1 (Or.inr ⟨by decide, "java/lang/IndexOutOfBoundsException", hts _ m5_85, hKs.2.2.2.1 ("java/lang/IllegalStateException", "java/lang/IndexOutOfBoundsException") (by decide)⟩) pass0) (by decide) (by decide) (hts _ m5_181) (va_Nw.use rfl (hKs.2.1 _ m5_196)) hc9 hv9 hf9 ?_
      refine lv_astore (i := 4) (lv' := [(4, .ref q9), (0, rv E a_0), (1, .int a_1), (2, .int a_2), (3, rv E a_3)]) hx hb dL_addBar_24 hl (by decide) (by simp [List.filter_cons, cat_q, cat_i, cat_j, imax, imin]) (fun ls hl => ?_)
      refine lv_iconst (v := 2) hx hb dL_addBar_26 (by decide) ?_
      exact hw_wret hx hb (Nat.le_of_ble_eq_true rfl) (Nat.le_of_ble_eq_true rfl) hret hf hH hlocks dL_addBar_27
    replace hf := (if_neg h6).symm.trans hf
    cases hf
  · replace hf := (xh_inl hv3).symm.trans hf
    refine lv_if_eq (tgt := 15) hx hb dL_addBar_8 (by decide) (fun c7 => ?_) (fun c7 => ?_)
    · replace hf := (if_pos c7).symm.trans hf
      refine lv_lconst (v := 0) hx hb dL_addBar_15 rfl ?_
      obtain ⟨a8, ha8, hf⟩ := bnd hf
      replace ha8 := cha_some ha8
      obtain ⟨j9, hj9, hf⟩ := bnd hf
      obtain ⟨w10, hw10, hf⟩ := bnd hf
      replace hw10 := Option.some.inj hw10
      refine hw_last (x := 0) hx hb hKs hH ha8.1 ha8.2 hj9 dL_addBar_16 (fun H locs hH => ?_)
      rw [hw10] at hH
      refine lv_goto (tgt := 28) hx hb dL_addBar_17 (by decide) ?_
      refine lv_iconst (v := 0) hx hb dL_addBar_28 (by decide) ?_
      exact hw_wret hx hb (Nat.le_of_ble_eq_true rfl) (Nat.le_of_ble_eq_true rfl) hret hf hH hlocks dL_addBar_29
    · replace hf := (if_neg c7).symm.trans hf
      refine lv_lconst (v := 1) hx hb dL_addBar_11 rfl ?_
      refine lv_goto (tgt := 16) hx hb dL_addBar_12 (by decide) ?_
      obtain ⟨a11, ha11, hf⟩ := bnd hf
      replace ha11 := cha_some ha11
      obtain ⟨j12, hj12, hf⟩ := bnd hf
      obtain ⟨w13, hw13, hf⟩ := bnd hf
      replace hw13 := Option.some.inj hw13
      refine hw_last (x := 1) hx hb hKs hH ha11.1 ha11.2 hj12 dL_addBar_16 (fun H locs hH => ?_)
      rw [hw13] at hH
      refine lv_goto (tgt := 28) hx hb dL_addBar_17 (by decide) ?_
      refine lv_iconst (v := 0) hx hb dL_addBar_28 (by decide) ?_
      exact hw_wret hx hb (Nat.le_of_ble_eq_true rfl) (Nat.le_of_ble_eq_true rfl) hret hf hH hlocks dL_addBar_29

theorem dJ0_charAt_5068e_0 : decode cJ0_charAt_5068e 0 = .ok (.aload_n 0, 1) := by decide +kernel
theorem dJ0_charAt_5068e_1 : decode cJ0_charAt_5068e 1 = .ok (.invokevirtual 492, 3) := by decide +kernel
theorem dJ0_charAt_5068e_4 : decode cJ0_charAt_5068e 4 = .ok (.ifCond .eq 12, 3) := by decide +kernel
theorem dJ0_charAt_5068e_7 : decode cJ0_charAt_5068e 7 = .ok (.aload_n 0, 1) := by decide +kernel
theorem dJ0_charAt_5068e_8 : decode cJ0_charAt_5068e 8 = .ok (.getfield 9, 3) := by decide +kernel
theorem dJ0_charAt_5068e_11 : decode cJ0_charAt_5068e 11 = .ok (.iload_n 1, 1) := by decide +kernel
theorem dJ0_charAt_5068e_12 : decode cJ0_charAt_5068e 12 = .ok (.invokestatic 495, 3) := by decide +kernel
theorem dJ0_charAt_5068e_15 : decode cJ0_charAt_5068e 15 = .ok (.ireturn, 1) := by decide +kernel
theorem hd_J0_charAt_5068e : yJ0_charAt_5068e.cls = RJ0 ∧ yJ0_charAt_5068e.cls ≠ "java/lang/invoke/MethodHandle" ∧ yJ0_charAt_5068e.cls ≠ "java/lang/invoke/VarHandle" ∧ (parseMethodDescriptor yJ0_charAt_5068e.desc).map (fun d => d.parameters.length) = some 1 := by decide +kernel
theorem hs_J0_charAt_5068e : yJ0_charAt_5068e.cls ≠ "java/lang/invoke/MethodHandle" ∧ yJ0_charAt_5068e.cls ≠ "java/lang/invoke/VarHandle" ∧ (parseMethodDescriptor yJ0_charAt_5068e.desc).map (fun d => d.parameters.length) = some 1 := by decide +kernel
set_option maxHeartbeats 4000000 in
set_option maxRecDepth 100000 in
theorem k_J0_charAt_5068e (l : Launch) (E : Ev) (K : Kd) (z : Nat) (a_1 : Int32) (w : Wd) {r : Int32} {w' : Wd} (hf : f_J0_charAt_5068e K a_1 w = some (r, w')) : Met l yJ0_charAt_5068e (Cond.code yJ0_charAt_5068e cJ0_charAt_5068e 2 (Option.some Jvm.ClassFile.FieldType.char) :: bt) ({ frames := 3, cells := 0, slots := 0, locals := 64 } : Room) (va_Pc [.ref (E.2.2.2 102), .int a_1] (HB E K w z)) (QI E K z w' r) 0 0 (hA E) := by
  refine Met.ofW (cc := cJ0_charAt_5068e) (maxL := 2) (ret := (Option.some Jvm.ClassFile.FieldType.char)) (by decide) rfl ?_
  intro p e s m args below meth c s₁ B hml hv
  obtain ⟨rfl, hz, hP, hKs, hT, hb0⟩ := hv
  have C : CX p l e s m _ meth c cJ0_charAt_5068e 2 RJ0 (Option.some Jvm.ClassFile.FieldType.char) E := ⟨B.exec, B.bytes, hml, findClass_of_methodNamed B.named, fun w h => atoms_spec (ws := Cond.code yJ0_charAt_5068e cJ0_charAt_5068e 2 (Option.some Jvm.ClassFile.FieldType.char) :: bt) B.pre w (List.mem_cons_of_mem _ h), hKs, hT, by rw [hz]; exact hb0, B.notSynchronized, B.returns⟩
  have hH : HQ E K z w s s.heap [] := ⟨hP, va_S.rf, hz⟩
  obtain ⟨hx, hb, hml, hown, hts, hKs, hT, hb0, hlocks, hret⟩ := id C
  have hl := lv_entry [.ref (E.2.2.2 102), .int a_1] (n := 2) (by simp [lg_len_nil, lg_len_i, lg_len_j, lg_len_q, lg_len_f, lg_len_d, lg_len_r])
  rw [lg_entry_eq]
  generalize (lg_sl [.ref (E.2.2.2 102), .int a_1] ++ List.replicate (2 - (lg_sl [.ref (E.2.2.2 102), .int a_1]).length) Slot.unset).toArray = ls at hl ⊢
  replace hl : lv_has ls 2 [(0, .ref (E.2.2.2 102)), (1, .int a_1)] := by simpa only [lv_args, cat_q, cat_i, cat_j, (show ∀ x : Nat, (Value.ref x).category = 1 from fun _ => rfl), reduceIte, Nat.reduceEqDiff, Nat.reduceAdd, Nat.zero_add] using hl
  generalize s.heap = H at hH ⊢
  unfold f_J0_charAt_5068e at hf
  refine lv_aload_n hx hb dJ0_charAt_5068e_0 rfl (lv_at hl 0 rfl) ?_
  refine hcG_i hH (va_runV (As := []) (rest := []) ⟨hx, hb, hml, hown, hts⟩ (k_J0_isLatin1_aae02 l E K H.size w rfl) (cwV _ hts (gV m9_10 m9_11 m9_12 m1_19 m9_13) rfl rfl rfl hd_J0_isLatin1_aae02 ⟨Nat.le_of_ble_eq_true rfl, Nat.le_of_ble_eq_true rfl⟩) ⟨HB.blind, strRecv hT hH, HB.pre hKs hT hb0 hH⟩ rfl rfl hl.1 rfl (lv_room rc0) dJ0_charAt_5068e_1 ⟨Nat.zero_le _, Nat.zero_le _⟩) (fun H locs hH => ?_)
  refine lv_if_eq (tgt := 16) hx hb dJ0_charAt_5068e_4 (by decide) (fun c1 => ?_) (fun c1 => ?_)
  · exact (by revert c1; decide : False).elim
  · skip
    refine lv_aload_n hx hb dJ0_charAt_5068e_7 rfl (lv_at hl 0 rfl) ?_
    refine hw_value hx hb hts hown hT hH m9_210 dJ0_charAt_5068e_8 ?_
    refine lv_iload_n hx hb dJ0_charAt_5068e_11 rfl (lv_at hl 1 rfl) ?_
    obtain ⟨q2, hq2, hf⟩ := bnd hf
    refine hcS_i hx hb hml hown hts hKs hT hb0 hH (As := [.ref (E.2.2.2 202), .int a_1]) (rest := []) (k_J1_charAt_3b067 l E K H.size a_1 w hq2) (gS m9_14 m9_15 m1_20 m9_16) hs_J1_charAt_3b067 ⟨Nat.le_of_ble_eq_true rfl, Nat.le_of_ble_eq_true rfl, rfl, rfl⟩ hl.1 rfl rc0 rfl dJ0_charAt_5068e_12 ⟨Nat.zero_le _, Nat.zero_le _⟩ (fun H locs hH => ?_)
    obtain ⟨_, hg3, hf⟩ := bnd hf
    exact hw_nret hx hb hret (i2c_n (grd_some hg3)) hf hH hlocks dJ0_charAt_5068e_15

theorem dX12_problem_0 : decode cX12_problem 0 = .ok (.aload_n 0, 1) := by decide +kernel
theorem dX12_problem_1 : decode cX12_problem 1 = .ok (.iload_n 1, 1) := by decide +kernel
theorem dX12_problem_2 : decode cX12_problem 2 = .ok (.iload_n 2, 1) := by decide +kernel
theorem dX12_problem_3 : decode cX12_problem 3 = .ok (.iload_n 3, 1) := by decide +kernel
theorem dX12_problem_4 : decode cX12_problem 4 = .ok (.iload 4, 2) := by decide +kernel
theorem dX12_problem_6 : decode cX12_problem 6 = .ok (.iload 5, 2) := by decide +kernel
theorem dX12_problem_8 : decode cX12_problem 8 = .ok (.invokevirtual 276, 3) := by decide +kernel
theorem dX12_problem_11 : decode cX12_problem 11 = .ok (.aload_n 0, 1) := by decide +kernel
theorem dX12_problem_12 : decode cX12_problem 12 = .ok (.iload_n 1, 1) := by decide +kernel
theorem dX12_problem_13 : decode cX12_problem 13 = .ok (.invokevirtual 280, 3) := by decide +kernel
theorem dX12_problem_16 : decode cX12_problem 16 = .ok (.aload_n 0, 1) := by decide +kernel
theorem dX12_problem_17 : decode cX12_problem 17 = .ok (.getfield 52, 3) := by decide +kernel
theorem dX12_problem_20 : decode cX12_problem 20 = .ok (.aload_n 0, 1) := by decide +kernel
theorem dX12_problem_21 : decode cX12_problem 21 = .ok (.getfield 35, 3) := by decide +kernel
theorem dX12_problem_24 : decode cX12_problem 24 = .ok (.iload_n 1, 1) := by decide +kernel
theorem dX12_problem_25 : decode cX12_problem 25 = .ok (.iload_n 2, 1) := by decide +kernel
theorem dX12_problem_26 : decode cX12_problem 26 = .ok (.iload_n 3, 1) := by decide +kernel
theorem dX12_problem_27 : decode cX12_problem 27 = .ok (.iload 4, 2) := by decide +kernel
theorem dX12_problem_29 : decode cX12_problem 29 = .ok (.iload 5, 2) := by decide +kernel
theorem dX12_problem_31 : decode cX12_problem 31 = .ok (.invokevirtual 283, 3) := by decide +kernel
theorem dX12_problem_34 : decode cX12_problem 34 = .ok (.ireturn, 1) := by decide +kernel
theorem hd_X12_problem : yX12_problem.cls = RX12 ∧ yX12_problem.cls ≠ "java/lang/invoke/MethodHandle" ∧ yX12_problem.cls ≠ "java/lang/invoke/VarHandle" ∧ (parseMethodDescriptor yX12_problem.desc).map (fun d => d.parameters.length) = some 5 := by decide +kernel
theorem hs_X12_problem : yX12_problem.cls ≠ "java/lang/invoke/MethodHandle" ∧ yX12_problem.cls ≠ "java/lang/invoke/VarHandle" ∧ (parseMethodDescriptor yX12_problem.desc).map (fun d => d.parameters.length) = some 5 := by decide +kernel
set_option maxHeartbeats 4000000 in
set_option maxRecDepth 100000 in
theorem k_X12_problem (l : Launch) (hls : l.stackTraces = false) (E : Ev) (K : Kd) (z : Nat) (o : Nat) (a_1 : Int32) (a_2 : Int32) (a_3 : Int32) (a_4 : Int32) (a_5 : Int32) (w : Wd) (ho : K o = some (10, 0)) {r : Int32 ⊕ Nat} {w' : Wd} (hf : f_X12_problem K o a_1 a_2 a_3 a_4 a_5 w = some (r, w')) : vx_Met l yX12_problem (Cond.code yX12_problem cX12_problem 6 (Option.some Jvm.ClassFile.FieldType.int) :: bt) ({ frames := 8, cells := 6, slots := 36, locals := 137 } : Room) (va_Pc [rv E (some o), .int a_1, .int a_2, .int a_3, .int a_4, .int a_5] (HB E K w z)) (XI E K z w' r) (XX E K w' r) 6 36 (hA E) := by
  refine vx_ofW (cc := cX12_problem) (maxL := 6) (ret := (Option.some Jvm.ClassFile.FieldType.int)) (by decide) rfl ?_
  intro p e s m args below meth c s₁ B hml hout hv
  obtain ⟨rfl, hz, hP, hKs, hT, hb0⟩ := hv
  have C : CX p l e s m _ meth c cX12_problem 6 RX12 (Option.some Jvm.ClassFile.FieldType.int) E := ⟨B.exec, B.bytes, hml, findClass_of_methodNamed B.named, fun w h => atoms_spec (ws := Cond.code yX12_problem cX12_problem 6 (Option.some Jvm.ClassFile.FieldType.int) :: bt) B.pre w (List.mem_cons_of_mem _ h), hKs, hT, by rw [hz]; exact hb0, B.notSynchronized, B.returns⟩
  have hH : HQ E K z w s s.heap [] := ⟨hP, va_S.rf, hz⟩
  obtain ⟨hx, hb, hml, hown, hts, hKs, hT, hb0, hlocks, hret⟩ := id C
  have hl := lv_entry [rv E (some o), .int a_1, .int a_2, .int a_3, .int a_4, .int a_5] (n := 6) (by simp [lg_len_nil, lg_len_i, lg_len_j, lg_len_q, lg_len_f, lg_len_d, lg_len_r])
  rw [lg_entry_eq]
  generalize (lg_sl [rv E (some o), .int a_1, .int a_2, .int a_3, .int a_4, .int a_5] ++ List.replicate (6 - (lg_sl [rv E (some o), .int a_1, .int a_2, .int a_3, .int a_4, .int a_5]).length) Slot.unset).toArray = ls at hl ⊢
  replace hl : lv_has ls 6 [(0, rv E (some o)), (1, .int a_1), (2, .int a_2), (3, .int a_3), (4, .int a_4), (5, .int a_5)] := by simpa only [lv_args, cat_q, cat_i, cat_j, reduceIte, Nat.reduceEqDiff, Nat.reduceAdd, Nat.zero_add] using hl
  generalize s.heap = H at hH ⊢
  unfold f_X12_problem at hf
  refine hl_aload_n hx hb dX12_problem_0 rfl (lv_at hl 0 rfl) ?_
  refine lv_iload_n hx hb dX12_problem_1 rfl (lv_at hl 1 rfl) ?_
  refine lv_iload_n hx hb dX12_problem_2 rfl (lv_at hl 2 rfl) ?_
  refine lv_iload_n hx hb dX12_problem_3 rfl (lv_at hl 3 rfl) ?_
  refine lv_iload hx hb dX12_problem_4 (lv_at hl 4 rfl) ?_
  refine lv_iload hx hb dX12_problem_6 (lv_at hl 5 rfl) ?_
  obtain ⟨q1, hq1, hf⟩ := bnd hf
  refine hxV_v hx hb hml hown hts hKs hT hb0 hH (As := [.int a_1, .int a_2, .int a_3, .int a_4, .int a_5]) (rest := []) (k_X12_requireHearing l hls E K H.size o a_1 a_2 a_3 a_4 a_5 w ho hq1) (gV m5_186 m5_188 ms_38 m1_1 m5_189) hd_X12_requireHearing ⟨Nat.le_of_ble_eq_true rfl, Nat.le_of_ble_eq_true rfl, rfl, rfl⟩ rfl ho rfl rfl rfl hl.1 rfl rc0 rfl dX12_problem_8 ⟨Nat.le_of_ble_eq_true rfl, Nat.le_of_ble_eq_true rfl⟩ ⟨Nat.le_of_ble_eq_true rfl, Nat.le_of_ble_eq_true rfl⟩ hout hlocks (fun x hx9 => (fun h9 => ⟨(congrArg Prod.fst h9).symm, (congrArg Prod.snd h9).symm⟩) (Option.some.inj ((xk_inr hx9).symm.trans hf))) (fun v2 hv2 H locs hH => ?_)
  replace hf := (xk_inl hv2).symm.trans hf
  refine hl_aload_n hx hb dX12_problem_11 rfl (lv_at hl 0 rfl) ?_
  refine lv_iload_n hx hb dX12_problem_12 rfl (lv_at hl 1 rfl) ?_
  obtain ⟨q3, hq3, hf⟩ := bnd hf
  refine hxV_v hx hb hml hown hts hKs hT hb0 hH (As := [.int a_1]) (rest := []) (k_X12_requireUnfinished l hls E K H.size o a_1 q1.2 ho hq3) (gV m5_190 m5_192 ms_39 m1_1 m5_193) hd_X12_requireUnfinished ⟨Nat.le_of_ble_eq_true rfl, Nat.le_of_ble_eq_true rfl, rfl, rfl⟩ rfl ho rfl rfl rfl hl.1 rfl rc0 rfl dX12_problem_13 ⟨Nat.le_of_ble_eq_true rfl, Nat.le_of_ble_eq_true rfl⟩ ⟨Nat.le_of_ble_eq_true rfl, Nat.le_of_ble_eq_true rfl⟩ hout hlocks (fun x hx9 => (fun h9 => ⟨(congrArg Prod.fst h9).symm, (congrArg Prod.snd h9).symm⟩) (Option.some.inj ((xk_inr hx9).symm.trans hf))) (fun v4 hv4 H locs hH => ?_)
  replace hf := (xk_inl hv4).symm.trans hf
  refine hl_aload_n hx hb dX12_problem_16 rfl (lv_at hl 0 rfl) ?_
  refine g12_11 hx hb hts hown hKs hH rfl ho m2_230 dX12_problem_17 ?_
  refine hl_aload_n hx hb dX12_problem_20 rfl (lv_at hl 0 rfl) ?_
  refine g12_5 hx hb hts hown hKs hH rfl ho m2_224 dX12_problem_21 ?_
  refine lv_iload_n hx hb dX12_problem_24 rfl (lv_at hl 1 rfl) ?_
  refine lv_iload_n hx hb dX12_problem_25 rfl (lv_at hl 2 rfl) ?_
  refine lv_iload_n hx hb dX12_problem_26 rfl (lv_at hl 3 rfl) ?_
  refine lv_iload hx hb dX12_problem_27 (lv_at hl 4 rfl) ?_
  refine lv_iload hx hb dX12_problem_29 (lv_at hl 5 rfl) ?_
  obtain ⟨a5, ha5, hf⟩ := bnd hf
  replace ha5 := chk_some ha5
  obtain ⟨q6, hq6, hf⟩ := bnd hf
  refine hcV_i hx hb hml hown hts hKs hT hb0 hH (As := [rv E (wR q3.2 1205 o), .int a_1, .int a_2, .int a_3, .int a_4, .int a_5]) (rest := []) (k_X6_faultOf l E K H.size a5 (wR q3.2 1205 o) a_1 a_2 a_3 a_4 a_5 q3.2 ha5.2 hq6) (gV m5_209 m5_210 m5_211 m1_14 m5_212) hd_X6_faultOf ⟨Nat.le_of_ble_eq_true rfl, Nat.le_of_ble_eq_true rfl, rfl, rfl⟩ ha5.1 ha5.2 rfl rfl rfl hl.1 rfl rc0 rfl dX12_problem_31 ⟨Nat.le_of_ble_eq_true rfl, Nat.le_of_ble_eq_true rfl⟩ (fun H locs hH => ?_)
  exact hx_iret hx hb (Nat.le_of_ble_eq_true rfl) (Nat.le_of_ble_eq_true rfl) hret hf hH hlocks dX12_problem_34
end
