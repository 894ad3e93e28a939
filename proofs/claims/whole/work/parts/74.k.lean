section
variable {p : Program} {l : Launch} {e : Env} {s : State} {m : MethodId} {args : Array Value} {below : List Frame} {meth : Method} {c : Code} {E : Ev} {K : Kd} {z : Nat}

theorem dX13_init_0 : decode cX13_init 0 = .ok (.aload_n 0, 1) := by decide +kernel
theorem dX13_init_1 : decode cX13_init 1 = .ok (.invokespecial 1, 3) := by decide +kernel
theorem dX13_init_4 : decode cX13_init 4 = .ok (.aload_n 0, 1) := by decide +kernel
theorem dX13_init_5 : decode cX13_init 5 = .ok (.sipush 170, 3) := by decide +kernel
theorem dX13_init_8 : decode cX13_init 8 = .ok (.newarray .int, 2) := by decide +kernel
theorem dX13_init_10 : decode cX13_init 10 = .ok (.putfield 7, 3) := by decide +kernel
theorem dX13_init_13 : decode cX13_init 13 = .ok (.aload_n 0, 1) := by decide +kernel
theorem dX13_init_14 : decode cX13_init 14 = .ok (.sipush 170, 3) := by decide +kernel
theorem dX13_init_17 : decode cX13_init 17 = .ok (.newarray .int, 2) := by decide +kernel
theorem dX13_init_19 : decode cX13_init 19 = .ok (.putfield 13, 3) := by decide +kernel
theorem dX13_init_22 : decode cX13_init 22 = .ok (.aload_n 0, 1) := by decide +kernel
theorem dX13_init_23 : decode cX13_init 23 = .ok (.sipush 370, 3) := by decide +kernel
theorem dX13_init_26 : decode cX13_init 26 = .ok (.newarray .int, 2) := by decide +kernel
theorem dX13_init_28 : decode cX13_init 28 = .ok (.putfield 16, 3) := by decide +kernel
theorem dX13_init_31 : decode cX13_init 31 = .ok (.aload_n 0, 1) := by decide +kernel
theorem dX13_init_32 : decode cX13_init 32 = .ok (.sipush 370, 3) := by decide +kernel
theorem dX13_init_35 : decode cX13_init 35 = .ok (.newarray .int, 2) := by decide +kernel
theorem dX13_init_37 : decode cX13_init 37 = .ok (.putfield 19, 3) := by decide +kernel
theorem dX13_init_40 : decode cX13_init 40 = .ok (.aload_n 0, 1) := by decide +kernel
theorem dX13_init_41 : decode cX13_init 41 = .ok (.sipush 370, 3) := by decide +kernel
theorem dX13_init_44 : decode cX13_init 44 = .ok (.newarray .int, 2) := by decide +kernel
theorem dX13_init_46 : decode cX13_init 46 = .ok (.putfield 22, 3) := by decide +kernel
theorem dX13_init_49 : decode cX13_init 49 = .ok (.aload_n 0, 1) := by decide +kernel
theorem dX13_init_50 : decode cX13_init 50 = .ok (.sipush 370, 3) := by decide +kernel
theorem dX13_init_53 : decode cX13_init 53 = .ok (.newarray .int, 2) := by decide +kernel
theorem dX13_init_55 : decode cX13_init 55 = .ok (.putfield 25, 3) := by decide +kernel
theorem dX13_init_58 : decode cX13_init 58 = .ok (.aload_n 0, 1) := by decide +kernel
theorem dX13_init_59 : decode cX13_init 59 = .ok (.sipush 370, 3) := by decide +kernel
theorem dX13_init_62 : decode cX13_init 62 = .ok (.newarray .int, 2) := by decide +kernel
theorem dX13_init_64 : decode cX13_init 64 = .ok (.putfield 28, 3) := by decide +kernel
theorem dX13_init_67 : decode cX13_init 67 = .ok (.aload_n 0, 1) := by decide +kernel
theorem dX13_init_68 : decode cX13_init 68 = .ok (.sipush 2960, 3) := by decide +kernel
theorem dX13_init_71 : decode cX13_init 71 = .ok (.newarray .int, 2) := by decide +kernel
theorem dX13_init_73 : decode cX13_init 73 = .ok (.putfield 31, 3) := by decide +kernel
theorem dX13_init_76 : decode cX13_init 76 = .ok (.aload_n 0, 1) := by decide +kernel
theorem dX13_init_77 : decode cX13_init 77 = .ok (.iconst 3, 1) := by decide +kernel
theorem dX13_init_78 : decode cX13_init 78 = .ok (.newarray .long, 2) := by decide +kernel
theorem dX13_init_80 : decode cX13_init 80 = .ok (.putfield 34, 3) := by decide +kernel
theorem dX13_init_83 : decode cX13_init 83 = .ok (.aload_n 0, 1) := by decide +kernel
theorem dX13_init_84 : decode cX13_init 84 = .ok (.bipush 6, 2) := by decide +kernel
theorem dX13_init_86 : decode cX13_init 86 = .ok (.newarray .long, 2) := by decide +kernel
theorem dX13_init_88 : decode cX13_init 88 = .ok (.putfield 38, 3) := by decide +kernel
theorem dX13_init_91 : decode cX13_init 91 = .ok (.aload_n 0, 1) := by decide +kernel
theorem dX13_init_92 : decode cX13_init 92 = .ok (.bipush 12, 2) := by decide +kernel
theorem dX13_init_94 : decode cX13_init 94 = .ok (.newarray .long, 2) := by decide +kernel
theorem dX13_init_96 : decode cX13_init 96 = .ok (.putfield 41, 3) := by decide +kernel
theorem dX13_init_99 : decode cX13_init 99 = .ok (.aload_n 0, 1) := by decide +kernel
theorem dX13_init_100 : decode cX13_init 100 = .ok (.bipush 12, 2) := by decide +kernel
theorem dX13_init_102 : decode cX13_init 102 = .ok (.newarray .long, 2) := by decide +kernel
theorem dX13_init_104 : decode cX13_init 104 = .ok (.putfield 44, 3) := by decide +kernel
theorem dX13_init_107 : decode cX13_init 107 = .ok (.aload_n 0, 1) := by decide +kernel
theorem dX13_init_108 : decode cX13_init 108 = .ok (.iconst (-1), 1) := by decide +kernel
theorem dX13_init_109 : decode cX13_init 109 = .ok (.putfield 47, 3) := by decide +kernel
theorem dX13_init_112 : decode cX13_init 112 = .ok (.aload_n 0, 1) := by decide +kernel
theorem dX13_init_113 : decode cX13_init 113 = .ok (.bipush 12, 2) := by decide +kernel
theorem dX13_init_115 : decode cX13_init 115 = .ok (.newarray .int, 2) := by decide +kernel
theorem dX13_init_117 : decode cX13_init 117 = .ok (.putfield 51, 3) := by decide +kernel
theorem dX13_init_120 : decode cX13_init 120 = .ok (.aload_n 0, 1) := by decide +kernel
theorem dX13_init_121 : decode cX13_init 121 = .ok (.sipush 4096, 3) := by decide +kernel
theorem dX13_init_124 : decode cX13_init 124 = .ok (.newarray .int, 2) := by decide +kernel
theorem dX13_init_126 : decode cX13_init 126 = .ok (.putfield 54, 3) := by decide +kernel
theorem dX13_init_129 : decode cX13_init 129 = .ok (.aload_n 0, 1) := by decide +kernel
theorem dX13_init_130 : decode cX13_init 130 = .ok (.sipush 4096, 3) := by decide +kernel
theorem dX13_init_133 : decode cX13_init 133 = .ok (.newarray .boolean, 2) := by decide +kernel
theorem dX13_init_135 : decode cX13_init 135 = .ok (.putfield 57, 3) := by decide +kernel
theorem dX13_init_138 : decode cX13_init 138 = .ok (.aload_n 0, 1) := by decide +kernel
theorem dX13_init_139 : decode cX13_init 139 = .ok (.sipush 900, 3) := by decide +kernel
theorem dX13_init_142 : decode cX13_init 142 = .ok (.newarray .byte, 2) := by decide +kernel
theorem dX13_init_144 : decode cX13_init 144 = .ok (.putfield 61, 3) := by decide +kernel
theorem dX13_init_147 : decode cX13_init 147 = .ok (.aload_n 0, 1) := by decide +kernel
theorem dX13_init_148 : decode cX13_init 148 = .ok (.iconst (-1), 1) := by decide +kernel
theorem dX13_init_149 : decode cX13_init 149 = .ok (.putfield 65, 3) := by decide +kernel
theorem dX13_init_152 : decode cX13_init 152 = .ok (.aload_n 0, 1) := by decide +kernel
theorem dX13_init_153 : decode cX13_init 153 = .ok (.iconst 3, 1) := by decide +kernel
theorem dX13_init_154 : decode cX13_init 154 = .ok (.newarray .long, 2) := by decide +kernel
theorem dX13_init_156 : decode cX13_init 156 = .ok (.putfield 68, 3) := by decide +kernel
theorem dX13_init_159 : decode cX13_init 159 = .ok (.aload_n 0, 1) := by decide +kernel
theorem dX13_init_160 : decode cX13_init 160 = .ok (.bipush 6, 2) := by decide +kernel
theorem dX13_init_162 : decode cX13_init 162 = .ok (.newarray .long, 2) := by decide +kernel
theorem dX13_init_164 : decode cX13_init 164 = .ok (.putfield 71, 3) := by decide +kernel
theorem dX13_init_167 : decode cX13_init 167 = .ok (.aload_n 0, 1) := by decide +kernel
theorem dX13_init_168 : decode cX13_init 168 = .ok (.bipush 12, 2) := by decide +kernel
theorem dX13_init_170 : decode cX13_init 170 = .ok (.newarray .long, 2) := by decide +kernel
theorem dX13_init_172 : decode cX13_init 172 = .ok (.putfield 74, 3) := by decide +kernel
theorem dX13_init_175 : decode cX13_init 175 = .ok (.aload_n 0, 1) := by decide +kernel
theorem dX13_init_176 : decode cX13_init 176 = .ok (.bipush 12, 2) := by decide +kernel
theorem dX13_init_178 : decode cX13_init 178 = .ok (.newarray .long, 2) := by decide +kernel
theorem dX13_init_180 : decode cX13_init 180 = .ok (.putfield 77, 3) := by decide +kernel
theorem dX13_init_183 : decode cX13_init 183 = .ok (.aload_n 0, 1) := by decide +kernel
theorem dX13_init_184 : decode cX13_init 184 = .ok (.sipush 500, 3) := by decide +kernel
theorem dX13_init_187 : decode cX13_init 187 = .ok (.newarray .byte, 2) := by decide +kernel
theorem dX13_init_189 : decode cX13_init 189 = .ok (.putfield 80, 3) := by decide +kernel
theorem dX13_init_192 : decode cX13_init 192 = .ok (.aload_n 0, 1) := by decide +kernel
theorem dX13_init_193 : decode cX13_init 193 = .ok (.invokevirtual 83, 3) := by decide +kernel
theorem dX13_init_196 : decode cX13_init 196 = .ok (.aload_n 0, 1) := by decide +kernel
theorem dX13_init_197 : decode cX13_init 197 = .ok (.invokevirtual 86, 3) := by decide +kernel
theorem dX13_init_200 : decode cX13_init 200 = .ok (.return_, 1) := by decide +kernel
theorem hd_X13_init : yX13_init.cls = RX13 ∧ yX13_init.cls ≠ "java/lang/invoke/MethodHandle" ∧ yX13_init.cls ≠ "java/lang/invoke/VarHandle" ∧ (parseMethodDescriptor yX13_init.desc).map (fun d => d.parameters.length) = some 0 := by decide +kernel
theorem hs_X13_init : yX13_init.cls ≠ "java/lang/invoke/MethodHandle" ∧ yX13_init.cls ≠ "java/lang/invoke/VarHandle" ∧ (parseMethodDescriptor yX13_init.desc).map (fun d => d.parameters.length) = some 0 := by decide +kernel
set_option maxHeartbeats 4000000 in
set_option maxRecDepth 100000 in
theorem k_X13_init (l : Launch) (E : Ev) (K : Kd) (n : Nat) (o : Nat) (w : Wd) {K' : Kd} {n' : Nat} {w' : Wd} (hf : f_X13_init K n o w = some (K', n', w')) : Met l yX13_init (Cond.code yX13_init cX13_init 1 (Option.none : Option Jvm.ClassFile.FieldType) :: bt) ({ frames := 2, cells := 21, slots := 14820, locals := 43 } : Room) (va_Pc [rv E (some o)] (HB E K w (E.2.1 + n))) (QV E K' (E.2.1 + n') w') 21 14820 (hA E) := by
  refine Met.ofW (cc := cX13_init) (maxL := 1) (ret := (Option.none : Option Jvm.ClassFile.FieldType)) (by decide) rfl ?_
  intro p e s m args below meth c s₁ B hml hv
  have hn2 : meth.name = "<init>" := (name_of_methodNamed B.named B.method).1
  obtain ⟨rfl, hz, hP, hKs, hT, hb0⟩ := hv
  have C : CX p l e s m _ meth c cX13_init 1 RX13 (Option.none : Option Jvm.ClassFile.FieldType) E := ⟨B.exec, B.bytes, hml, findClass_of_methodNamed B.named, fun w h => atoms_spec (ws := Cond.code yX13_init cX13_init 1 (Option.none : Option Jvm.ClassFile.FieldType) :: bt) B.pre w (List.mem_cons_of_mem _ h), hKs, hT, by rw [hz]; exact hb0, B.notSynchronized, B.returns⟩
  have hH : HQ E K (E.2.1 + n) w s s.heap [] := ⟨hP, va_S.rf, hz⟩
  obtain ⟨hx, hb, hml, hown, hts, hKs, hT, hb0, hlocks, hret⟩ := id C
  have hl := lv_entry [rv E (some o)] (n := 1) (by simp [lg_len_nil, lg_len_i, lg_len_j, lg_len_q, lg_len_f, lg_len_d, lg_len_r])
  rw [lg_entry_eq]
  generalize (lg_sl [rv E (some o)] ++ List.replicate (1 - (lg_sl [rv E (some o)]).length) Slot.unset).toArray = ls at hl ⊢
  replace hl : lv_has ls 1 [(0, rv E (some o))] := by simpa only [lv_args, cat_q, cat_i, cat_j, reduceIte, Nat.reduceEqDiff, Nat.reduceAdd, Nat.zero_add] using hl
  generalize s.heap = H at hH ⊢
  unfold f_X13_init at hf
  refine hl_aload_n hx hb dX13_init_0 rfl (lv_at hl 0 rfl) ?_
  refine hw_obj hx hb hml hl.1 hown hts m6_166 m1_37 m1_38 dX13_init_1 (Nat.le_of_ble_eq_true rfl) (Nat.le_of_ble_eq_true rfl) ?_
  refine hl_aload_n hx hb dX13_init_4 rfl (lv_at hl 0 rfl) ?_
  refine lv_sipush (v := 170) hx hb dX13_init_5 (by decide) ?_
  refine hw_newa20 (N := 170) hx hb hts m1_64 hKs hH (by decide) (by decide) (Nat.le_of_ble_eq_true rfl) (Nat.le_of_ble_eq_true rfl) (Nat.le_of_ble_eq_true rfl) dX13_init_8 (fun H hH => ?_)
  obtain ⟨K1, hK1, hf⟩ := bnd hf
  replace hK1 := Option.some.inj hK1
  obtain ⟨w2, hw2, hf⟩ := bnd hf
  replace hw2 := Option.some.inj hw2
  rw [hK1, hw2] at hH
  obtain ⟨a3, ha3, hf⟩ := bnd hf
  replace ha3 := chk_some ha3
  obtain ⟨w4, hw4, hf⟩ := bnd hf
  replace hw4 := Option.some.inj hw4
  refine pf13_1 (v := (some n)) hx hb hts hown hKs hH ha3.1 ha3.2 hn2 m6_182 dX13_init_10 (fun H locs hH => ?_)
  rw [hw4] at hH
  refine hl_aload_n hx hb dX13_init_13 rfl (lv_at hl 0 rfl) ?_
  refine lv_sipush (v := 170) hx hb dX13_init_14 (by decide) ?_
  refine hw_newa20 (N := 170) hx hb hts m1_64 hKs hH (by decide) (by decide) (Nat.le_of_ble_eq_true rfl) (Nat.le_of_ble_eq_true rfl) (Nat.le_of_ble_eq_true rfl) dX13_init_17 (fun H hH => ?_)
  obtain ⟨K5, hK5, hf⟩ := bnd hf
  replace hK5 := Option.some.inj hK5
  obtain ⟨w6, hw6, hf⟩ := bnd hf
  replace hw6 := Option.some.inj hw6
  rw [hK5, hw6] at hH
  obtain ⟨a7, ha7, hf⟩ := bnd hf
  replace ha7 := chk_some ha7
  obtain ⟨w8, hw8, hf⟩ := bnd hf
  replace hw8 := Option.some.inj hw8
  refine pf13_2 (v := (some (n + 1))) hx hb hts hown hKs hH ha7.1 ha7.2 hn2 m6_183 dX13_init_19 (fun H locs hH => ?_)
  rw [hw8] at hH
  refine hl_aload_n hx hb dX13_init_22 rfl (lv_at hl 0 rfl) ?_
  refine lv_sipush (v := 370) hx hb dX13_init_23 (by decide) ?_
  refine hw_newa20 (N := 370) hx hb hts m1_64 hKs hH (by decide) (by decide) (Nat.le_of_ble_eq_true rfl) (Nat.le_of_ble_eq_true rfl) (Nat.le_of_ble_eq_true rfl) dX13_init_26 (fun H hH => ?_)
  obtain ⟨K9, hK9, hf⟩ := bnd hf
  replace hK9 := Option.some.inj hK9
  obtain ⟨w10, hw10, hf⟩ := bnd hf
  replace hw10 := Option.some.inj hw10
  rw [hK9, hw10] at hH
  obtain ⟨a11, ha11, hf⟩ := bnd hf
  replace ha11 := chk_some ha11
  obtain ⟨w12, hw12, hf⟩ := bnd hf
  replace hw12 := Option.some.inj hw12
  refine pf13_3 (v := (some ((n + 1) + 1))) hx hb hts hown hKs hH ha11.1 ha11.2 hn2 m6_184 dX13_init_28 (fun H locs hH => ?_)
  rw [hw12] at hH
  refine hl_aload_n hx hb dX13_init_31 rfl (lv_at hl 0 rfl) ?_
  refine lv_sipush (v := 370) hx hb dX13_init_32 (by decide) ?_
  refine hw_newa20 (N := 370) hx hb hts m1_64 hKs hH (by decide) (by decide) (Nat.le_of_ble_eq_true rfl) (Nat.le_of_ble_eq_true rfl) (Nat.le_of_ble_eq_true rfl) dX13_init_35 (fun H hH => ?_)
  obtain ⟨K13, hK13, hf⟩ := bnd hf
  replace hK13 := Option.some.inj hK13
  obtain ⟨w14, hw14, hf⟩ := bnd hf
  replace hw14 := Option.some.inj hw14
  rw [hK13, hw14] at hH
  obtain ⟨a15, ha15, hf⟩ := bnd hf
  replace ha15 := chk_some ha15
  obtain ⟨w16, hw16, hf⟩ := bnd hf
  replace hw16 := Option.some.inj hw16
  refine pf13_4 (v := (some (((n + 1) + 1) + 1))) hx hb hts hown hKs hH ha15.1 ha15.2 hn2 m6_185 dX13_init_37 (fun H locs hH => ?_)
  rw [hw16] at hH
  refine hl_aload_n hx hb dX13_init_40 rfl (lv_at hl 0 rfl) ?_
  refine lv_sipush (v := 370) hx hb dX13_init_41 (by decide) ?_
  refine hw_newa20 (N := 370) hx hb hts m1_64 hKs hH (by decide) (by decide) (Nat.le_of_ble_eq_true rfl) (Nat.le_of_ble_eq_true rfl) (Nat.le_of_ble_eq_true rfl) dX13_init_44 (fun H hH => ?_)
  obtain ⟨K17, hK17, hf⟩ := bnd hf
  replace hK17 := Option.some.inj hK17
  obtain ⟨w18, hw18, hf⟩ := bnd hf
  replace hw18 := Option.some.inj hw18
  rw [hK17, hw18] at hH
  obtain ⟨a19, ha19, hf⟩ := bnd hf
  replace ha19 := chk_some ha19
  obtain ⟨w20, hw20, hf⟩ := bnd hf
  replace hw20 := Option.some.inj hw20
  refine pf13_5 (v := (some ((((n + 1) + 1) + 1) + 1))) hx hb hts hown hKs hH ha19.1 ha19.2 hn2 m6_186 dX13_init_46 (fun H locs hH => ?_)
  rw [hw20] at hH
  refine hl_aload_n hx hb dX13_init_49 rfl (lv_at hl 0 rfl) ?_
  refine lv_sipush (v := 370) hx hb dX13_init_50 (by decide) ?_
  refine hw_newa20 (N := 370) hx hb hts m1_64 hKs hH (by decide) (by decide) (Nat.le_of_ble_eq_true rfl) (Nat.le_of_ble_eq_true rfl) (Nat.le_of_ble_eq_true rfl) dX13_init_53 (fun H hH => ?_)
  obtain ⟨K21, hK21, hf⟩ := bnd hf
  replace hK21 := Option.some.inj hK21
  obtain ⟨w22, hw22, hf⟩ := bnd hf
  replace hw22 := Option.some.inj hw22
  rw [hK21, hw22] at hH
  obtain ⟨a23, ha23, hf⟩ := bnd hf
  replace ha23 := chk_some ha23
  obtain ⟨w24, hw24, hf⟩ := bnd hf
  replace hw24 := Option.some.inj hw24
  refine pf13_6 (v := (some (((((n + 1) + 1) + 1) + 1) + 1))) hx hb hts hown hKs hH ha23.1 ha23.2 hn2 m6_187 dX13_init_55 (fun H locs hH => ?_)
  rw [hw24] at hH
  refine hl_aload_n hx hb dX13_init_58 rfl (lv_at hl 0 rfl) ?_
  refine lv_sipush (v := 370) hx hb dX13_init_59 (by decide) ?_
  refine hw_newa20 (N := 370) hx hb hts m1_64 hKs hH (by decide) (by decide) (Nat.le_of_ble_eq_true rfl) (Nat.le_of_ble_eq_true rfl) (Nat.le_of_ble_eq_true rfl) dX13_init_62 (fun H hH => ?_)
  obtain ⟨K25, hK25, hf⟩ := bnd hf
  replace hK25 := Option.some.inj hK25
  obtain ⟨w26, hw26, hf⟩ := bnd hf
  replace hw26 := Option.some.inj hw26
  rw [hK25, hw26] at hH
  obtain ⟨a27, ha27, hf⟩ := bnd hf
  replace ha27 := chk_some ha27
  obtain ⟨w28, hw28, hf⟩ := bnd hf
  replace hw28 := Option.some.inj hw28
  refine pf13_7 (v := (some ((((((n + 1) + 1) + 1) + 1) + 1) + 1))) hx hb hts hown hKs hH ha27.1 ha27.2 hn2 m6_188 dX13_init_64 (fun H locs hH => ?_)
  rw [hw28] at hH
  refine hl_aload_n hx hb dX13_init_67 rfl (lv_at hl 0 rfl) ?_
  refine lv_sipush (v := 2960) hx hb dX13_init_68 (by decide) ?_
  refine hw_newa20 (N := 2960) hx hb hts m1_64 hKs hH (by decide) (by decide) (Nat.le_of_ble_eq_true rfl) (Nat.le_of_ble_eq_true rfl) (Nat.le_of_ble_eq_true rfl) dX13_init_71 (fun H hH => ?_)
  obtain ⟨K29, hK29, hf⟩ := bnd hf
  replace hK29 := Option.some.inj hK29
  obtain ⟨w30, hw30, hf⟩ := bnd hf
  replace hw30 := Option.some.inj hw30
  rw [hK29, hw30] at hH
  obtain ⟨a31, ha31, hf⟩ := bnd hf
  replace ha31 := chk_some ha31
  obtain ⟨w32, hw32, hf⟩ := bnd hf
  replace hw32 := Option.some.inj hw32
  refine pf13_8 (v := (some (((((((n + 1) + 1) + 1) + 1) + 1) + 1) + 1))) hx hb hts hown hKs hH ha31.1 ha31.2 hn2 m6_189 dX13_init_73 (fun H locs hH => ?_)
  rw [hw32] at hH
  refine hl_aload_n hx hb dX13_init_76 rfl (lv_at hl 0 rfl) ?_
  refine lv_iconst (v := 3) hx hb dX13_init_77 (by decide) ?_
  refine hw_newa23 (N := 3) hx hb hts m1_81 hKs hH (by decide) (by decide) (Nat.le_of_ble_eq_true rfl) (Nat.le_of_ble_eq_true rfl) (Nat.le_of_ble_eq_true rfl) dX13_init_78 (fun H hH => ?_)
  obtain ⟨K33, hK33, hf⟩ := bnd hf
  replace hK33 := Option.some.inj hK33
  obtain ⟨w34, hw34, hf⟩ := bnd hf
  replace hw34 := Option.some.inj hw34
  rw [hK33, hw34] at hH
  obtain ⟨a35, ha35, hf⟩ := bnd hf
  replace ha35 := chk_some ha35
  obtain ⟨w36, hw36, hf⟩ := bnd hf
  replace hw36 := Option.some.inj hw36
  refine pf13_11 (v := (some ((((((((n + 1) + 1) + 1) + 1) + 1) + 1) + 1) + 1))) hx hb hts hown hKs hH ha35.1 ha35.2 hn2 m6_192 dX13_init_80 (fun H locs hH => ?_)
  rw [hw36] at hH
  refine hl_aload_n hx hb dX13_init_83 rfl (lv_at hl 0 rfl) ?_
  refine lv_bipush (v := 6) hx hb dX13_init_84 (by decide) ?_
  refine hw_newa23 (N := 6) hx hb hts m1_81 hKs hH (by decide) (by decide) (Nat.le_of_ble_eq_true rfl) (Nat.le_of_ble_eq_true rfl) (Nat.le_of_ble_eq_true rfl) dX13_init_86 (fun H hH => ?_)
  obtain ⟨K37, hK37, hf⟩ := bnd hf
  replace hK37 := Option.some.inj hK37
  obtain ⟨w38, hw38, hf⟩ := bnd hf
  replace hw38 := Option.some.inj hw38
  rw [hK37, hw38] at hH
  obtain ⟨a39, ha39, hf⟩ := bnd hf
  replace ha39 := chk_some ha39
  obtain ⟨w40, hw40, hf⟩ := bnd hf
  replace hw40 := Option.some.inj hw40
  refine pf13_12 (v := (some (((((((((n + 1) + 1) + 1) + 1) + 1) + 1) + 1) + 1) + 1))) hx hb hts hown hKs hH ha39.1 ha39.2 hn2 m6_193 dX13_init_88 (fun H locs hH => ?_)
  rw [hw40] at hH
  refine hl_aload_n hx hb dX13_init_91 rfl (lv_at hl 0 rfl) ?_
  refine lv_bipush (v := 12) hx hb dX13_init_92 (by decide) ?_
  refine hw_newa23 (N := 12) hx hb hts m1_81 hKs hH (by decide) (by decide) (Nat.le_of_ble_eq_true rfl) (Nat.le_of_ble_eq_true rfl) (Nat.le_of_ble_eq_true rfl) dX13_init_94 (fun H hH => ?_)
  obtain ⟨K41, hK41, hf⟩ := bnd hf
  replace hK41 := Option.some.inj hK41
  obtain ⟨w42, hw42, hf⟩ := bnd hf
  replace hw42 := Option.some.inj hw42
  rw [hK41, hw42] at hH
  obtain ⟨a43, ha43, hf⟩ := bnd hf
  replace ha43 := chk_some ha43
  obtain ⟨w44, hw44, hf⟩ := bnd hf
  replace hw44 := Option.some.inj hw44
  refine pf13_13 (v := (some ((((((((((n + 1) + 1) + 1) + 1) + 1) + 1) + 1) + 1) + 1) + 1))) hx hb hts hown hKs hH ha43.1 ha43.2 hn2 m6_194 dX13_init_96 (fun H locs hH => ?_)
  rw [hw44] at hH
  refine hl_aload_n hx hb dX13_init_99 rfl (lv_at hl 0 rfl) ?_
  refine lv_bipush (v := 12) hx hb dX13_init_100 (by decide) ?_
  refine hw_newa23 (N := 12) hx hb hts m1_81 hKs hH (by decide) (by decide) (Nat.le_of_ble_eq_true rfl) (Nat.le_of_ble_eq_true rfl) (Nat.le_of_ble_eq_true rfl) dX13_init_102 (fun H hH => ?_)
  obtain ⟨K45, hK45, hf⟩ := bnd hf
  replace hK45 := Option.some.inj hK45
  obtain ⟨w46, hw46, hf⟩ := bnd hf
  replace hw46 := Option.some.inj hw46
  rw [hK45, hw46] at hH
  obtain ⟨a47, ha47, hf⟩ := bnd hf
  replace ha47 := chk_some ha47
  obtain ⟨w48, hw48, hf⟩ := bnd hf
  replace hw48 := Option.some.inj hw48
  refine pf13_14 (v := (some (((((((((((n + 1) + 1) + 1) + 1) + 1) + 1) + 1) + 1) + 1) + 1) + 1))) hx hb hts hown hKs hH ha47.1 ha47.2 hn2 m6_195 dX13_init_104 (fun H locs hH => ?_)
  rw [hw48] at hH
  refine hl_aload_n hx hb dX13_init_107 rfl (lv_at hl 0 rfl) ?_
  refine lv_iconst (v := (-1)) hx hb dX13_init_108 (by decide) ?_
  obtain ⟨w49, hw49, hf⟩ := bnd hf
  replace hw49 := Option.some.inj hw49
  refine p13_15 (v := (-1)) hx hb hts hown hKs hH ha47.1 ha47.2 m6_196 dX13_init_109 (fun H locs hH => ?_)
  rw [hw49] at hH
  refine hl_aload_n hx hb dX13_init_112 rfl (lv_at hl 0 rfl) ?_
  refine lv_bipush (v := 12) hx hb dX13_init_113 (by decide) ?_
  refine hw_newa20 (N := 12) hx hb hts m1_64 hKs hH (by decide) (by decide) (Nat.le_of_ble_eq_true rfl) (Nat.le_of_ble_eq_true rfl) (Nat.le_of_ble_eq_true rfl) dX13_init_115 (fun H hH => ?_)
  obtain ⟨K50, hK50, hf⟩ := bnd hf
  replace hK50 := Option.some.inj hK50
  obtain ⟨w51, hw51, hf⟩ := bnd hf
  replace hw51 := Option.some.inj hw51
  rw [hK50, hw51] at hH
  obtain ⟨a52, ha52, hf⟩ := bnd hf
  replace ha52 := chk_some ha52
  obtain ⟨w53, hw53, hf⟩ := bnd hf
  replace hw53 := Option.some.inj hw53
  refine pf13_20 (v := (some ((((((((((((n + 1) + 1) + 1) + 1) + 1) + 1) + 1) + 1) + 1) + 1) + 1) + 1))) hx hb hts hown hKs hH ha52.1 ha52.2 hn2 m6_201 dX13_init_117 (fun H locs hH => ?_)
  rw [hw53] at hH
  refine hl_aload_n hx hb dX13_init_120 rfl (lv_at hl 0 rfl) ?_
  refine lv_sipush (v := 4096) hx hb dX13_init_121 (by decide) ?_
  refine hw_newa20 (N := 4096) hx hb hts m1_64 hKs hH (by decide) (by decide) (Nat.le_of_ble_eq_true rfl) (Nat.le_of_ble_eq_true rfl) (Nat.le_of_ble_eq_true rfl) dX13_init_124 (fun H hH => ?_)
  obtain ⟨K54, hK54, hf⟩ := bnd hf
  replace hK54 := Option.some.inj hK54
  obtain ⟨w55, hw55, hf⟩ := bnd hf
  replace hw55 := Option.some.inj hw55
  rw [hK54, hw55] at hH
  obtain ⟨a56, ha56, hf⟩ := bnd hf
  replace ha56 := chk_some ha56
  obtain ⟨w57, hw57, hf⟩ := bnd hf
  replace hw57 := Option.some.inj hw57
  refine pf13_21 (v := (some (((((((((((((n + 1) + 1) + 1) + 1) + 1) + 1) + 1) + 1) + 1) + 1) + 1) + 1) + 1))) hx hb hts hown hKs hH ha56.1 ha56.2 hn2 m6_202 dX13_init_126 (fun H locs hH => ?_)
  rw [hw57] at hH
  refine hl_aload_n hx hb dX13_init_129 rfl (lv_at hl 0 rfl) ?_
  refine lv_sipush (v := 4096) hx hb dX13_init_130 (by decide) ?_
  refine hw_newa22 (N := 4096) hx hb hts m7_59 hKs hH (by decide) (by decide) (Nat.le_of_ble_eq_true rfl) (Nat.le_of_ble_eq_true rfl) (Nat.le_of_ble_eq_true rfl) dX13_init_133 (fun H hH => ?_)
  obtain ⟨K58, hK58, hf⟩ := bnd hf
  replace hK58 := Option.some.inj hK58
  obtain ⟨w59, hw59, hf⟩ := bnd hf
  replace hw59 := Option.some.inj hw59
  rw [hK58, hw59] at hH
  obtain ⟨a60, ha60, hf⟩ := bnd hf
  replace ha60 := chk_some ha60
  obtain ⟨w61, hw61, hf⟩ := bnd hf
  replace hw61 := Option.some.inj hw61
  refine pf13_22 (v := (some ((((((((((((((n + 1) + 1) + 1) + 1) + 1) + 1) + 1) + 1) + 1) + 1) + 1) + 1) + 1) + 1))) hx hb hts hown hKs hH ha60.1 ha60.2 hn2 m6_203 dX13_init_135 (fun H locs hH => ?_)
  rw [hw61] at hH
  refine hl_aload_n hx hb dX13_init_138 rfl (lv_at hl 0 rfl) ?_
  refine lv_sipush (v := 900) hx hb dX13_init_139 (by decide) ?_
  refine hw_newa21 (N := 900) hx hb hts m2_27 hKs hH (by decide) (by decide) (Nat.le_of_ble_eq_true rfl) (Nat.le_of_ble_eq_true rfl) (Nat.le_of_ble_eq_true rfl) dX13_init_142 (fun H hH => ?_)
  obtain ⟨K62, hK62, hf⟩ := bnd hf
  replace hK62 := Option.some.inj hK62
  obtain ⟨w63, hw63, hf⟩ := bnd hf
  replace hw63 := Option.some.inj hw63
  rw [hK62, hw63] at hH
  obtain ⟨a64, ha64, hf⟩ := bnd hf
  replace ha64 := chk_some ha64
  obtain ⟨w65, hw65, hf⟩ := bnd hf
  replace hw65 := Option.some.inj hw65
  refine pf13_23 (v := (some (((((((((((((((n + 1) + 1) + 1) + 1) + 1) + 1) + 1) + 1) + 1) + 1) + 1) + 1) + 1) + 1) + 1))) hx hb hts hown hKs hH ha64.1 ha64.2 hn2 m6_204 dX13_init_144 (fun H locs hH => ?_)
  rw [hw65] at hH
  refine hl_aload_n hx hb dX13_init_147 rfl (lv_at hl 0 rfl) ?_
  refine lv_iconst (v := (-1)) hx hb dX13_init_148 (by decide) ?_
  obtain ⟨w66, hw66, hf⟩ := bnd hf
  replace hw66 := Option.some.inj hw66
  refine p13_32 (v := (-1)) hx hb hts hown hKs hH ha64.1 ha64.2 m6_213 dX13_init_149 (fun H locs hH => ?_)
  rw [hw66] at hH
  refine hl_aload_n hx hb dX13_init_152 rfl (lv_at hl 0 rfl) ?_
  refine lv_iconst (v := 3) hx hb dX13_init_153 (by decide) ?_
  refine hw_newa23 (N := 3) hx hb hts m1_81 hKs hH (by decide) (by decide) (Nat.le_of_ble_eq_true rfl) (Nat.le_of_ble_eq_true rfl) (Nat.le_of_ble_eq_true rfl) dX13_init_154 (fun H hH => ?_)
  obtain ⟨K67, hK67, hf⟩ := bnd hf
  replace hK67 := Option.some.inj hK67
  obtain ⟨w68, hw68, hf⟩ := bnd hf
  replace hw68 := Option.some.inj hw68
  rw [hK67, hw68] at hH
  obtain ⟨a69, ha69, hf⟩ := bnd hf
  replace ha69 := chk_some ha69
  obtain ⟨w70, hw70, hf⟩ := bnd hf
  replace hw70 := Option.some.inj hw70
  refine pf13_33 (v := (some ((((((((((((((((n + 1) + 1) + 1) + 1) + 1) + 1) + 1) + 1) + 1) + 1) + 1) + 1) + 1) + 1) + 1) + 1))) hx hb hts hown hKs hH ha69.1 ha69.2 hn2 m6_214 dX13_init_156 (fun H locs hH => ?_)
  rw [hw70] at hH
  refine hl_aload_n hx hb dX13_init_159 rfl (lv_at hl 0 rfl) ?_
  refine lv_bipush (v := 6) hx hb dX13_init_160 (by decide) ?_
  refine hw_newa23 (N := 6) hx hb hts m1_81 hKs hH (by decide) (by decide) (Nat.le_of_ble_eq_true rfl) (Nat.le_of_ble_eq_true rfl) (Nat.le_of_ble_eq_true rfl) dX13_init_162 (fun H hH => ?_)
  obtain ⟨K71, hK71, hf⟩ := bnd hf
  replace hK71 := Option.some.inj hK71
  obtain ⟨w72, hw72, hf⟩ := bnd hf
  replace hw72 := Option.some.inj hw72
  rw [hK71, hw72] at hH
  obtain ⟨a73, ha73, hf⟩ := bnd hf
  replace ha73 := chk_some ha73
  obtain ⟨w74, hw74, hf⟩ := bnd hf
  replace hw74 := Option.some.inj hw74
  refine pf13_34 (v := (some (((((((((((((((((n + 1) + 1) + 1) + 1) + 1) + 1) + 1) + 1) + 1) + 1) + 1) + 1) + 1) + 1) + 1) + 1) + 1))) hx hb hts hown hKs hH ha73.1 ha73.2 hn2 m6_215 dX13_init_164 (fun H locs hH => ?_)
  rw [hw74] at hH
  refine hl_aload_n hx hb dX13_init_167 rfl (lv_at hl 0 rfl) ?_
  refine lv_bipush (v := 12) hx hb dX13_init_168 (by decide) ?_
  refine hw_newa23 (N := 12) hx hb hts m1_81 hKs hH (by decide) (by decide) (Nat.le_of_ble_eq_true rfl) (Nat.le_of_ble_eq_true rfl) (Nat.le_of_ble_eq_true rfl) dX13_init_170 (fun H hH => ?_)
  obtain ⟨K75, hK75, hf⟩ := bnd hf
  replace hK75 := Option.some.inj hK75
  obtain ⟨w76, hw76, hf⟩ := bnd hf
  replace hw76 := Option.some.inj hw76
  rw [hK75, hw76] at hH
  obtain ⟨a77, ha77, hf⟩ := bnd hf
  replace ha77 := chk_some ha77
  obtain ⟨w78, hw78, hf⟩ := bnd hf
  replace hw78 := Option.some.inj hw78
  refine pf13_35 (v := (some ((((((((((((((((((n + 1) + 1) + 1) + 1) + 1) + 1) + 1) + 1) + 1) + 1) + 1) + 1) + 1) + 1) + 1) + 1) + 1) + 1))) hx hb hts hown hKs hH ha77.1 ha77.2 hn2 m6_216 dX13_init_172 (fun H locs hH => ?_)
  rw [hw78] at hH
  refine hl_aload_n hx hb dX13_init_175 rfl (lv_at hl 0 rfl) ?_
  refine lv_bipush (v := 12) hx hb dX13_init_176 (by decide) ?_
  refine hw_newa23 (N := 12) hx hb hts m1_81 hKs hH (by decide) (by decide) (Nat.le_of_ble_eq_true rfl) (Nat.le_of_ble_eq_true rfl) (Nat.le_of_ble_eq_true rfl) dX13_init_178 (fun H hH => ?_)
  obtain ⟨K79, hK79, hf⟩ := bnd hf
  replace hK79 := Option.some.inj hK79
  obtain ⟨w80, hw80, hf⟩ := bnd hf
  replace hw80 := Option.some.inj hw80
  rw [hK79, hw80] at hH
  obtain ⟨a81, ha81, hf⟩ := bnd hf
  replace ha81 := chk_some ha81
  obtain ⟨w82, hw82, hf⟩ := bnd hf
  replace hw82 := Option.some.inj hw82
  refine pf13_36 (v := (some (((((((((((((((((((n + 1) + 1) + 1) + 1) + 1) + 1) + 1) + 1) + 1) + 1) + 1) + 1) + 1) + 1) + 1) + 1) + 1) + 1) + 1))) hx hb hts hown hKs hH ha81.1 ha81.2 hn2 m6_217 dX13_init_180 (fun H locs hH => ?_)
  rw [hw82] at hH
  refine hl_aload_n hx hb dX13_init_183 rfl (lv_at hl 0 rfl) ?_
  refine lv_sipush (v := 500) hx hb dX13_init_184 (by decide) ?_
  refine hw_newa21 (N := 500) hx hb hts m2_27 hKs hH (by decide) (by decide) (Nat.le_of_ble_eq_true rfl) (Nat.le_of_ble_eq_true rfl) (Nat.le_of_ble_eq_true rfl) dX13_init_187 (fun H hH => ?_)
  obtain ⟨K83, hK83, hf⟩ := bnd hf
  replace hK83 := Option.some.inj hK83
  obtain ⟨w84, hw84, hf⟩ := bnd hf
  replace hw84 := Option.some.inj hw84
  rw [hK83, hw84] at hH
  obtain ⟨a85, ha85, hf⟩ := bnd hf
  replace ha85 := chk_some ha85
  obtain ⟨w86, hw86, hf⟩ := bnd hf
  replace hw86 := Option.some.inj hw86
  refine pf13_37 (v := (some ((((((((((((((((((((n + 1) + 1) + 1) + 1) + 1) + 1) + 1) + 1) + 1) + 1) + 1) + 1) + 1) + 1) + 1) + 1) + 1) + 1) + 1) + 1))) hx hb hts hown hKs hH ha85.1 ha85.2 hn2 m6_218 dX13_init_189 (fun H locs hH => ?_)
  rw [hw86] at hH
  refine hl_aload_n hx hb dX13_init_192 rfl (lv_at hl 0 rfl) ?_
  obtain ⟨q87, hq87, hf⟩ := bnd hf
  refine hcV_v hx hb hml hown hts hKs hT hb0 hH (As := []) (rest := []) (k_X13_clears l E K83 H.size a85 w86 ha85.2 hq87) (gV m6_167 m6_169 ms_45 m1_16 m6_170) hd_X13_clears ⟨Nat.le_of_ble_eq_true rfl, Nat.le_of_ble_eq_true rfl, rfl, rfl⟩ ha85.1 ha85.2 rfl rfl rfl hl.1 rfl rc0 rfl dX13_init_193 ⟨Nat.le_of_ble_eq_true rfl, Nat.le_of_ble_eq_true rfl⟩ (fun H locs hH => ?_)
  refine hl_aload_n hx hb dX13_init_196 rfl (lv_at hl 0 rfl) ?_
  obtain ⟨q88, hq88, hf⟩ := bnd hf
  refine hcV_v hx hb hml hown hts hKs hT hb0 hH (As := []) (rest := []) (k_X13_takesDraft l E K83 H.size a85 q87 ha85.2 hq88) (gV m6_171 m6_173 ms_46 m1_16 m6_174) hd_X13_takesDraft ⟨Nat.le_of_ble_eq_true rfl, Nat.le_of_ble_eq_true rfl, rfl, rfl⟩ ha85.1 ha85.2 rfl rfl rfl hl.1 rfl rc0 rfl dX13_init_197 ⟨Nat.le_of_ble_eq_true rfl, Nat.le_of_ble_eq_true rfl⟩ (fun H locs hH => ?_)
  exact hw_aret hx hb (Nat.le_of_ble_eq_true rfl) (Nat.le_of_ble_eq_true rfl) hret hf hH hlocks dX13_init_200

theorem dX1_gives_0 : decode cX1_gives 0 = .ok (.iload_n 2, 1) := by decide +kernel
theorem dX1_gives_1 : decode cX1_gives 1 = .ok (.ifCond .ne 5, 3) := by decide +kernel
theorem dX1_gives_4 : decode cX1_gives 4 = .ok (.iconst 1, 1) := by decide +kernel
theorem dX1_gives_5 : decode cX1_gives 5 = .ok (.ireturn, 1) := by decide +kernel
theorem dX1_gives_6 : decode cX1_gives 6 = .ok (.iload_n 1, 1) := by decide +kernel
theorem dX1_gives_7 : decode cX1_gives 7 = .ok (.bipush 12, 2) := by decide +kernel
theorem dX1_gives_9 : decode cX1_gives 9 = .ok (.if_icmp .lt 5, 3) := by decide +kernel
theorem dX1_gives_12 : decode cX1_gives 12 = .ok (.iconst 0, 1) := by decide +kernel
theorem dX1_gives_13 : decode cX1_gives 13 = .ok (.ireturn, 1) := by decide +kernel
theorem dX1_gives_14 : decode cX1_gives 14 = .ok (.iload_n 3, 1) := by decide +kernel
theorem dX1_gives_15 : decode cX1_gives 15 = .ok (.invokestatic 72, 3) := by decide +kernel
theorem dX1_gives_18 : decode cX1_gives 18 = .ok (.iload 4, 2) := by decide +kernel
theorem dX1_gives_20 : decode cX1_gives 20 = .ok (.if_icmp .ge 13, 3) := by decide +kernel
theorem dX1_gives_23 : decode cX1_gives 23 = .ok (.aload_n 0, 1) := by decide +kernel
theorem dX1_gives_24 : decode cX1_gives 24 = .ok (.getfield 25, 3) := by decide +kernel
theorem dX1_gives_27 : decode cX1_gives 27 = .ok (.invokestatic 32, 3) := by decide +kernel
theorem dX1_gives_30 : decode cX1_gives 30 = .ok (.goto 4, 3) := by decide +kernel
theorem dX1_gives_33 : decode cX1_gives 33 = .ok (.iload_n 3, 1) := by decide +kernel
theorem dX1_gives_34 : decode cX1_gives 34 = .ok (.istore 5, 2) := by decide +kernel
theorem dX1_gives_36 : decode cX1_gives 36 = .ok (.aload_n 0, 1) := by decide +kernel
theorem dX1_gives_37 : decode cX1_gives 37 = .ok (.iload_n 1, 1) := by decide +kernel
theorem dX1_gives_38 : decode cX1_gives 38 = .ok (.iload_n 2, 1) := by decide +kernel
theorem dX1_gives_39 : decode cX1_gives 39 = .ok (.iload 5, 2) := by decide +kernel
theorem dX1_gives_41 : decode cX1_gives 41 = .ok (.invokevirtual 77, 3) := by decide +kernel
theorem dX1_gives_44 : decode cX1_gives 44 = .ok (.istore 6, 2) := by decide +kernel
theorem dX1_gives_46 : decode cX1_gives 46 = .ok (.aload_n 0, 1) := by decide +kernel
theorem dX1_gives_47 : decode cX1_gives 47 = .ok (.getfield 18, 3) := by decide +kernel
theorem dX1_gives_50 : decode cX1_gives 50 = .ok (.iload_n 1, 1) := by decide +kernel
theorem dX1_gives_51 : decode cX1_gives 51 = .ok (.bipush 12, 2) := by decide +kernel
theorem dX1_gives_53 : decode cX1_gives 53 = .ok (.imul, 1) := by decide +kernel
theorem dX1_gives_54 : decode cX1_gives 54 = .ok (.iload 6, 2) := by decide +kernel
theorem dX1_gives_56 : decode cX1_gives 56 = .ok (.iadd, 1) := by decide +kernel
theorem dX1_gives_57 : decode cX1_gives 57 = .ok (.iaload, 1) := by decide +kernel
theorem dX1_gives_58 : decode cX1_gives 58 = .ok (.iload 5, 2) := by decide +kernel
theorem dX1_gives_60 : decode cX1_gives 60 = .ok (.iand, 1) := by decide +kernel
theorem dX1_gives_61 : decode cX1_gives 61 = .ok (.istore 7, 2) := by decide +kernel
theorem dX1_gives_63 : decode cX1_gives 63 = .ok (.iconst 0, 1) := by decide +kernel
theorem dX1_gives_64 : decode cX1_gives 64 = .ok (.istore 8, 2) := by decide +kernel
theorem dX1_gives_66 : decode cX1_gives 66 = .ok (.iload 8, 2) := by decide +kernel
theorem dX1_gives_68 : decode cX1_gives 68 = .ok (.aload_n 0, 1) := by decide +kernel
theorem dX1_gives_69 : decode cX1_gives 69 = .ok (.getfield 25, 3) := by decide +kernel
theorem dX1_gives_72 : decode cX1_gives 72 = .ok (.if_icmp .ge 67, 3) := by decide +kernel
theorem dX1_gives_75 : decode cX1_gives 75 = .ok (.iload 7, 2) := by decide +kernel
theorem dX1_gives_77 : decode cX1_gives 77 = .ok (.iload 8, 2) := by decide +kernel
theorem dX1_gives_79 : decode cX1_gives 79 = .ok (.invokestatic 68, 3) := by decide +kernel
theorem dX1_gives_82 : decode cX1_gives 82 = .ok (.ifCond .eq 51, 3) := by decide +kernel
theorem dX1_gives_85 : decode cX1_gives 85 = .ok (.aload_n 0, 1) := by decide +kernel
theorem dX1_gives_86 : decode cX1_gives 86 = .ok (.iload 8, 2) := by decide +kernel
theorem dX1_gives_88 : decode cX1_gives 88 = .ok (.iload_n 2, 1) := by decide +kernel
theorem dX1_gives_89 : decode cX1_gives 89 = .ok (.iload_n 3, 1) := by decide +kernel
theorem dX1_gives_90 : decode cX1_gives 90 = .ok (.invokevirtual 81, 3) := by decide +kernel
theorem dX1_gives_93 : decode cX1_gives 93 = .ok (.ifCond .ne 40, 3) := by decide +kernel
theorem dX1_gives_96 : decode cX1_gives 96 = .ok (.aload_n 0, 1) := by decide +kernel
theorem dX1_gives_97 : decode cX1_gives 97 = .ok (.iload_n 1, 1) := by decide +kernel
theorem dX1_gives_98 : decode cX1_gives 98 = .ok (.iload 6, 2) := by decide +kernel
theorem dX1_gives_100 : decode cX1_gives 100 = .ok (.iload 8, 2) := by decide +kernel
theorem dX1_gives_102 : decode cX1_gives 102 = .ok (.invokevirtual 85, 3) := by decide +kernel
theorem dX1_gives_105 : decode cX1_gives 105 = .ok (.aload_n 0, 1) := by decide +kernel
theorem dX1_gives_106 : decode cX1_gives 106 = .ok (.iload_n 1, 1) := by decide +kernel
theorem dX1_gives_107 : decode cX1_gives 107 = .ok (.iconst 1, 1) := by decide +kernel
theorem dX1_gives_108 : decode cX1_gives 108 = .ok (.iadd, 1) := by decide +kernel
theorem dX1_gives_109 : decode cX1_gives 109 = .ok (.iload_n 2, 1) := by decide +kernel
theorem dX1_gives_110 : decode cX1_gives 110 = .ok (.iconst 1, 1) := by decide +kernel
theorem dX1_gives_111 : decode cX1_gives 111 = .ok (.iload 6, 2) := by decide +kernel
theorem dX1_gives_113 : decode cX1_gives 113 = .ok (.ishl, 1) := by decide +kernel
theorem dX1_gives_114 : decode cX1_gives 114 = .ok (.iconst (-1), 1) := by decide +kernel
theorem dX1_gives_115 : decode cX1_gives 115 = .ok (.ixor, 1) := by decide +kernel
theorem dX1_gives_116 : decode cX1_gives 116 = .ok (.iand, 1) := by decide +kernel
theorem dX1_gives_117 : decode cX1_gives 117 = .ok (.iload_n 3, 1) := by decide +kernel
theorem dX1_gives_118 : decode cX1_gives 118 = .ok (.iconst 1, 1) := by decide +kernel
theorem dX1_gives_119 : decode cX1_gives 119 = .ok (.iload 8, 2) := by decide +kernel
theorem dX1_gives_121 : decode cX1_gives 121 = .ok (.ishl, 1) := by decide +kernel
theorem dX1_gives_122 : decode cX1_gives 122 = .ok (.ior, 1) := by decide +kernel
theorem dX1_gives_123 : decode cX1_gives 123 = .ok (.iload 4, 2) := by decide +kernel
theorem dX1_gives_125 : decode cX1_gives 125 = .ok (.invokestatic 36, 3) := by decide +kernel
theorem dX1_gives_128 : decode cX1_gives 128 = .ok (.ifCond .eq 5, 3) := by decide +kernel
theorem dX1_gives_131 : decode cX1_gives 131 = .ok (.iconst 1, 1) := by decide +kernel
theorem dX1_gives_132 : decode cX1_gives 132 = .ok (.ireturn, 1) := by decide +kernel
theorem dX1_gives_133 : decode cX1_gives 133 = .ok (.iinc 8 1, 3) := by decide +kernel
theorem dX1_gives_136 : decode cX1_gives 136 = .ok (.goto (-70), 3) := by decide +kernel
theorem dX1_gives_139 : decode cX1_gives 139 = .ok (.iconst 0, 1) := by decide +kernel
theorem dX1_gives_140 : decode cX1_gives 140 = .ok (.ireturn, 1) := by decide +kernel
theorem hs_X1_gives : yX1_gives.cls ≠ "java/lang/invoke/MethodHandle" ∧ yX1_gives.cls ≠ "java/lang/invoke/VarHandle" ∧ (parseMethodDescriptor yX1_gives.desc).map (fun d => d.parameters.length) = some 5 := by decide +kernel
set_option maxHeartbeats 4000000 in
set_option maxRecDepth 100000 in
theorem l_X1_gives_L66 (C : CX p l e s m args meth c cX1_gives 9 RX1 (Option.some Jvm.ClassFile.FieldType.boolean) E) (n9 : Nat) {rc : Option Nat → Int32 → Int32 → Int32 → Int32 → Wd → Option (Bool × Wd)} (hrc : ∀ (b0 : Option Nat) (b1 : Int32) (b2 : Int32) (b3 : Int32) (b4 : Int32) (w : Wd) {r : Bool} {w' : Wd} (z : Nat), rc b0 b1 b2 b3 b4 w = some (r, w') → Met l yX1_gives (Cond.code yX1_gives cX1_gives 9 (Option.some Jvm.ClassFile.FieldType.boolean) :: bt) ({ frames := 2 + n9, cells := 0, slots := 0, locals := 49 + n9 * 28 } : Room) (va_Pc [rv E b0, .int b1, .int b2, .int b3, .int b4] (HB E K w z)) (QI E K z w' (b2i r)) 0 0 (hA E)) {r : Bool} {w' : Wd} (k : Option Nat → Int32 → Int32 → Int32 → Int32 → Int32 → Int32 → Int32 → Int32 → Wd → Option (Bool × Wd)) (hk : ∀ (v0_66 : Option Nat) (v1_66 : Int32) (v2_66 : Int32) (v3_66 : Int32) (v4_66 : Int32) (v5_66 : Int32) (v6_66 : Int32) (v7_66 : Int32) (v8_66 : Int32) (w : Wd) (H : Heap) (locs : List Loc) (ls : Array Slot), HQ E K z w s H locs → lv_has ls 9 [(0, rv E v0_66), (1, .int v1_66), (2, .int v2_66), (3, .int v3_66), (4, .int v4_66), (5, .int v5_66), (6, .int v6_66), (7, .int v7_66), (8, .int v8_66)] → k v0_66 v1_66 v2_66 v3_66 v4_66 v5_66 v6_66 v7_66 v8_66 w = some (r, w') → W p l e ({ frames := 2 + (n9 + 1), cells := 0, slots := 0, locals := 49 + (n9 + 1) * 28 } : Room) s m args below meth c H locs 0 0 (MQ below (QI E K z w' (b2i r)) args s 0 0 (hA E)) (F0 m 139 ls [])) : ∀ (n : Nat) (v0_66 : Option Nat) (v1_66 : Int32) (v2_66 : Int32) (v3_66 : Int32) (v4_66 : Int32) (v5_66 : Int32) (v6_66 : Int32) (v7_66 : Int32) (v8_66 : Int32) (w : Wd) (H : Heap) (locs : List Loc) (ls : Array Slot), HQ E K z w s H locs → lv_has ls 9 [(0, rv E v0_66), (1, .int v1_66), (2, .int v2_66), (3, .int v3_66), (4, .int v4_66), (5, .int v5_66), (6, .int v6_66), (7, .int v7_66), (8, .int v8_66)] → f_X1_gives_L66 K rc k n v0_66 v1_66 v2_66 v3_66 v4_66 v5_66 v6_66 v7_66 v8_66 w = some (r, w') → W p l e ({ frames := 2 + (n9 + 1), cells := 0, slots := 0, locals := 49 + (n9 + 1) * 28 } : Room) s m args below meth c H locs 0 0 (MQ below (QI E K z w' (b2i r)) args s 0 0 (hA E)) (F0 m 66 ls []) := by
  obtain ⟨hx, hb, hml, hown, hts, hKs, hT, hb0, hlocks, hret⟩ := id C
  intro n
  induction n with
  | zero =>
    intro v0_66 v1_66 v2_66 v3_66 v4_66 v5_66 v6_66 v7_66 v8_66 w H locs ls hH hl hf
    cases hf
  | succ n ih =>
    intro v0_66 v1_66 v2_66 v3_66 v4_66 v5_66 v6_66 v7_66 v8_66 w H locs ls hH hl hf
    rw [f_X1_gives_L66] at hf
    refine lv_iload hx hb dX1_gives_66 (lv_at hl 8 rfl) ?_
    refine hl_aload_n hx hb dX1_gives_68 rfl (lv_at hl 0 rfl) ?_
    obtain ⟨a10, ha10, hf⟩ := bnd hf
    replace ha10 := chk_some ha10
    refine g1_4 hx hb hts hown hKs hH ha10.1 ha10.2 m2_207 dX1_gives_69 ?_
    refine lv_icmp_ge (tgt := 139) hx hb dX1_gives_72 (by decide) (fun c11 => ?_) (fun c11 => ?_)
    · replace hf := (if_pos c11).symm.trans hf
      exact hk v0_66 v1_66 v2_66 v3_66 v4_66 v5_66 v6_66 v7_66 v8_66 _ _ _ _ hH (lv_sub hl [0, 1, 2, 3, 4, 5, 6, 7, 8] rfl) hf
    · replace hf := (if_neg c11).symm.trans hf
      refine lv_iload hx hb dX1_gives_75 (lv_at hl 7 rfl) ?_
      refine lv_iload hx hb dX1_gives_77 (lv_at hl 8 rfl) ?_
      obtain ⟨q12, hq12, hf⟩ := bnd hf
      refine hcM_i hx hb hml hown hts hKs hT hb0 hH (As := [.int v7_66, .int v8_66]) (rest := []) (k_X12_has l E K H.size v7_66 v8_66 w hq12) m4_40 m3_194 m1_1 m3_195 hs_X12_has ⟨Nat.le_trans (m := 2) (Nat.le_of_ble_eq_true rfl) (Nat.le_add_right _ _), Nat.le_trans (m := 49) (Nat.le_of_ble_eq_true rfl) (Nat.le_add_right _ _), rfl, rfl⟩ hl.1 rfl rc0 rfl dX1_gives_79 ⟨Nat.zero_le _, Nat.zero_le _⟩ (fun H locs hH => ?_)
      refine lv_if_eq (tgt := 133) hx hb dX1_gives_82 (by decide) (fun c13 => ?_) (fun c13 => ?_)
      · replace hf := (if_pos c13).symm.trans hf
        refine lv_iinc (v := (v8_66 + 1)) (lv' := [(8, .int ((v8_66 + 1))), (0, rv E v0_66), (1, .int v1_66), (2, .int v2_66), (3, .int v3_66), (4, .int v4_66), (5, .int v5_66), (6, .int v6_66), (7, .int v7_66)]) hx hb dX1_gives_133 hl (k := 8) rfl rfl (by decide) rfl (fun ls hl => ?_)
        refine lv_goto (tgt := 66) hx hb dX1_gives_136 (by decide) ?_
        exact ih v0_66 v1_66 v2_66 v3_66 v4_66 v5_66 v6_66 v7_66 (v8_66 + 1) _ _ _ _ hH (lv_sub hl [1, 2, 3, 4, 5, 6, 7, 8, 0] rfl) hf
      · replace hf := (if_neg c13).symm.trans hf
        refine hl_aload_n hx hb dX1_gives_85 rfl (lv_at hl 0 rfl) ?_
        refine lv_iload hx hb dX1_gives_86 (lv_at hl 8 rfl) ?_
        refine lv_iload_n hx hb dX1_gives_88 rfl (lv_at hl 2 rfl) ?_
        refine lv_iload_n hx hb dX1_gives_89 rfl (lv_at hl 3 rfl) ?_
        obtain ⟨q14, hq14, hf⟩ := bnd hf
        refine hcV_i hx hb hml hown hts hKs hT hb0 hH (As := [.int v8_66, .int v2_66, .int v3_66]) (rest := []) (k_X1_isSpare l E K H.size a10 v8_66 v2_66 v3_66 q12.2 ha10.2 hq14) (gV m4_49 m4_51 ms_21 m1_15 m4_52) hd_X1_isSpare ⟨Nat.le_trans (m := 2) (Nat.le_of_ble_eq_true rfl) (Nat.le_add_right _ _), Nat.le_trans (m := 49) (Nat.le_of_ble_eq_true rfl) (Nat.le_add_right _ _), rfl, rfl⟩ ha10.1 ha10.2 rfl rfl rfl hl.1 rfl rc0 rfl dX1_gives_90 ⟨Nat.zero_le _, Nat.zero_le _⟩ (fun H locs hH => ?_)
        refine lv_if_ne (tgt := 133) hx hb dX1_gives_93 (by decide) (fun c15 => ?_) (fun c15 => ?_)
        · replace hf := (if_neg c15).symm.trans hf
          refine lv_iinc (v := (v8_66 + 1)) (lv' := [(8, .int ((v8_66 + 1))), (0, rv E v0_66), (1, .int v1_66), (2, .int v2_66), (3, .int v3_66), (4, .int v4_66), (5, .int v5_66), (6, .int v6_66), (7, .int v7_66)]) hx hb dX1_gives_133 hl (k := 8) rfl rfl (by decide) rfl (fun ls hl => ?_)
          refine lv_goto (tgt := 66) hx hb dX1_gives_136 (by decide) ?_
          exact ih v0_66 v1_66 v2_66 v3_66 v4_66 v5_66 v6_66 v7_66 (v8_66 + 1) _ _ _ _ hH (lv_sub hl [1, 2, 3, 4, 5, 6, 7, 8, 0] rfl) hf
        · replace hf := (if_pos c15).symm.trans hf
          refine hl_aload_n hx hb dX1_gives_96 rfl (lv_at hl 0 rfl) ?_
          refine lv_iload_n hx hb dX1_gives_97 rfl (lv_at hl 1 rfl) ?_
          refine lv_iload hx hb dX1_gives_98 (lv_at hl 6 rfl) ?_
          refine lv_iload hx hb dX1_gives_100 (lv_at hl 8 rfl) ?_
          obtain ⟨q16, hq16, hf⟩ := bnd hf
          refine hcV_v hx hb hml hown hts hKs hT hb0 hH (As := [.int v1_66, .int v6_66, .int v8_66]) (rest := []) (k_X1_giveTo l E K H.size a10 v1_66 v6_66 v8_66 q14.2 ha10.2 hq16) (gV m4_53 m4_55 ms_22 m1_15 m4_56) hd_X1_giveTo ⟨Nat.le_trans (m := 2) (Nat.le_of_ble_eq_true rfl) (Nat.le_add_right _ _), Nat.le_trans (m := 49) (Nat.le_of_ble_eq_true rfl) (Nat.le_add_right _ _), rfl, rfl⟩ ha10.1 ha10.2 rfl rfl rfl hl.1 rfl rc0 rfl dX1_gives_102 ⟨Nat.zero_le _, Nat.zero_le _⟩ (fun H locs hH => ?_)
          refine hl_aload_n hx hb dX1_gives_105 rfl (lv_at hl 0 rfl) ?_
          refine lv_iload_n hx hb dX1_gives_106 rfl (lv_at hl 1 rfl) ?_
          refine lv_iconst (v := 1) hx hb dX1_gives_107 (by decide) ?_
          refine lv_iadd hx hb dX1_gives_108 ?_
          refine lv_iload_n hx hb dX1_gives_109 rfl (lv_at hl 2 rfl) ?_
          refine lv_iconst (v := 1) hx hb dX1_gives_110 (by decide) ?_
          refine lv_iload hx hb dX1_gives_111 (lv_at hl 6 rfl) ?_
          refine lv_ishl hx hb dX1_gives_113 ?_
          refine lv_iconst (v := (-1)) hx hb dX1_gives_114 (by decide) ?_
          refine lv_ixor hx hb dX1_gives_115 ?_
          refine lv_iand hx hb dX1_gives_116 ?_
          refine lv_iload_n hx hb dX1_gives_117 rfl (lv_at hl 3 rfl) ?_
          refine lv_iconst (v := 1) hx hb dX1_gives_118 (by decide) ?_
          refine lv_iload hx hb dX1_gives_119 (lv_at hl 8 rfl) ?_
          refine lv_ishl hx hb dX1_gives_121 ?_
          refine lv_ior hx hb dX1_gives_122 ?_
          refine lv_iload hx hb dX1_gives_123 (lv_at hl 4 rfl) ?_
          obtain ⟨q17, hq17, hf⟩ := bnd hf
          refine hcS_i hx hb hml hown hts hKs hT hb0 hH (As := [rv E v0_66, .int ((v1_66 + 1)), .int ((v2_66 &&& ((1 <<< (v6_66 &&& 31)) ^^^ (-1)))), .int ((v3_66 ||| (1 <<< (v8_66 &&& 31)))), .int v4_66]) (rest := []) (hrc v0_66 (v1_66 + 1) (v2_66 &&& ((1 <<< (v6_66 &&& 31)) ^^^ (-1))) (v3_66 ||| (1 <<< (v8_66 &&& 31))) v4_66 q16 _ hq17) (gS m4_41 m4_42 m1_15 m4_43) hs_X1_gives ⟨by show _ + n9 + 1 ≤ _ + (n9 + 1); omega, by show 8 + (9 + 11) + (_ + n9 * _) ≤ _ + (n9 + 1) * _; omega, rfl, rfl⟩ hl.1 rfl rc0 rfl dX1_gives_125 ⟨Nat.zero_le _, Nat.zero_le _⟩ (fun H locs hH => ?_)
          refine lv_if_eq (tgt := 133) hx hb dX1_gives_128 (by decide) (fun c18 => ?_) (fun c18 => ?_)
          · replace hf := (if_pos c18).symm.trans hf
            refine lv_iinc (v := (v8_66 + 1)) (lv' := [(8, .int ((v8_66 + 1))), (0, rv E v0_66), (1, .int v1_66), (2, .int v2_66), (3, .int v3_66), (4, .int v4_66), (5, .int v5_66), (6, .int v6_66), (7, .int v7_66)]) hx hb dX1_gives_133 hl (k := 8) rfl rfl (by decide) rfl (fun ls hl => ?_)
            refine lv_goto (tgt := 66) hx hb dX1_gives_136 (by decide) ?_
            exact ih v0_66 v1_66 v2_66 v3_66 v4_66 v5_66 v6_66 v7_66 (v8_66 + 1) _ _ _ _ hH (lv_sub hl [1, 2, 3, 4, 5, 6, 7, 8, 0] rfl) hf
          · replace hf := (if_neg c18).symm.trans hf
            refine lv_iconst (v := 1) hx hb dX1_gives_131 (by decide) ?_
            exact hw_zret hx hb hret rfl hf hH hlocks dX1_gives_132
set_option maxHeartbeats 4000000 in
set_option maxRecDepth 100000 in
theorem k_X1_gives (l : Launch) (E : Ev) (K : Kd) : ∀ (n9 : Nat) (z : Nat) (a_0 : Option Nat) (a_1 : Int32) (a_2 : Int32) (a_3 : Int32) (a_4 : Int32) (w : Wd) {r : Bool} {w' : Wd} (hf : f_X1_gives K n9 a_0 a_1 a_2 a_3 a_4 w = some (r, w')), Met l yX1_gives (Cond.code yX1_gives cX1_gives 9 (Option.some Jvm.ClassFile.FieldType.boolean) :: bt) ({ frames := 2 + n9, cells := 0, slots := 0, locals := 49 + n9 * 28 } : Room) (va_Pc [rv E a_0, .int a_1, .int a_2, .int a_3, .int a_4] (HB E K w z)) (QI E K z w' (b2i r)) 0 0 (hA E) := by
  intro n9
  induction n9 with
  | zero => intro z a_0 a_1 a_2 a_3 a_4 w r w' hf; cases hf
  | succ n9 ih =>
  intro z a_0 a_1 a_2 a_3 a_4 w r w' hf
  have hrc : ∀ (b0 : Option Nat) (b1 : Int32) (b2 : Int32) (b3 : Int32) (b4 : Int32) (w : Wd) {r : Bool} {w' : Wd} (z : Nat), f_X1_gives K n9 b0 b1 b2 b3 b4 w = some (r, w') → Met l yX1_gives (Cond.code yX1_gives cX1_gives 9 (Option.some Jvm.ClassFile.FieldType.boolean) :: bt) ({ frames := 2 + n9, cells := 0, slots := 0, locals := 49 + n9 * 28 } : Room) (va_Pc [rv E b0, .int b1, .int b2, .int b3, .int b4] (HB E K w z)) (QI E K z w' (b2i r)) 0 0 (hA E) := fun a_0 a_1 a_2 a_3 a_4 w r w' z hq => ih z a_0 a_1 a_2 a_3 a_4 w hq
  refine Met.ofW (cc := cX1_gives) (maxL := 9) (ret := (Option.some Jvm.ClassFile.FieldType.boolean)) (by decide) rfl ?_
  intro p e s m args below meth c s₁ B hml hv
  obtain ⟨rfl, hz, hP, hKs, hT, hb0⟩ := hv
  have C : CX p l e s m _ meth c cX1_gives 9 RX1 (Option.some Jvm.ClassFile.FieldType.boolean) E := ⟨B.exec, B.bytes, hml, findClass_of_methodNamed B.named, fun w h => atoms_spec (ws := Cond.code yX1_gives cX1_gives 9 (Option.some Jvm.ClassFile.FieldType.boolean) :: bt) B.pre w (List.mem_cons_of_mem _ h), hKs, hT, by rw [hz]; exact hb0, B.notSynchronized, B.returns⟩
  have hH : HQ E K z w s s.heap [] := ⟨hP, va_S.rf, hz⟩
  obtain ⟨hx, hb, hml, hown, hts, hKs, hT, hb0, hlocks, hret⟩ := id C
  have hl := lv_entry [rv E a_0, .int a_1, .int a_2, .int a_3, .int a_4] (n := 9) (by simp [lg_len_nil, lg_len_i, lg_len_j, lg_len_q, lg_len_f, lg_len_d, lg_len_r])
  rw [lg_entry_eq]
  generalize (lg_sl [rv E a_0, .int a_1, .int a_2, .int a_3, .int a_4] ++ List.replicate (9 - (lg_sl [rv E a_0, .int a_1, .int a_2, .int a_3, .int a_4]).length) Slot.unset).toArray = ls at hl ⊢
  replace hl : lv_has ls 9 [(0, rv E a_0), (1, .int a_1), (2, .int a_2), (3, .int a_3), (4, .int a_4)] := by simpa only [lv_args, cat_q, cat_i, cat_j, reduceIte, Nat.reduceEqDiff, Nat.reduceAdd, Nat.zero_add] using hl
  generalize s.heap = H at hH ⊢
  rw [f_X1_gives] at hf
  refine lv_iload_n hx hb dX1_gives_0 rfl (lv_at hl 2 rfl) ?_
  refine lv_if_ne (tgt := 6) hx hb dX1_gives_1 (by decide) (fun c1 => ?_) (fun c1 => ?_)
  · replace hf := (if_neg c1).symm.trans hf
    refine lv_iload_n hx hb dX1_gives_6 rfl (lv_at hl 1 rfl) ?_
    refine lv_bipush (v := 12) hx hb dX1_gives_7 (by decide) ?_
    refine lv_icmp_lt (tgt := 14) hx hb dX1_gives_9 (by decide) (fun c2 => ?_) (fun c2 => ?_)
    · replace hf := (if_pos c2).symm.trans hf
      refine lv_iload_n hx hb dX1_gives_14 rfl (lv_at hl 3 rfl) ?_
      obtain ⟨q3, hq3, hf⟩ := bnd hf
      refine hcS_i hx hb hml hown hts hKs hT hb0 hH (As := [.int a_3]) (rest := []) (k_J6_bitCount_0f7a4 l E K H.size a_3 w hq3) (gS m4_44 m4_8 m1_23 m4_9) hs_J6_bitCount_0f7a4 ⟨Nat.le_trans (m := 2) (Nat.le_of_ble_eq_true rfl) (Nat.le_add_right _ _), Nat.le_trans (m := 49) (Nat.le_of_ble_eq_true rfl) (Nat.le_add_right _ _), rfl, rfl⟩ hl.1 rfl rc0 rfl dX1_gives_15 ⟨Nat.zero_le _, Nat.zero_le _⟩ (fun H locs hH => ?_)
      refine lv_iload hx hb dX1_gives_18 (lv_at hl 4 rfl) ?_
      refine lv_icmp_ge (tgt := 33) hx hb dX1_gives_20 (by decide) (fun c4 => ?_) (fun c4 => ?_)
      · replace hf := (if_pos c4).symm.trans hf
        refine lv_iload_n hx hb dX1_gives_33 rfl (lv_at hl 3 rfl) ?_
        refine lv_istore (i := 5) (lv' := [(5, .int a_3), (0, rv E a_0), (1, .int a_1), (2, .int a_2), (3, .int a_3), (4, .int a_4)]) hx hb dX1_gives_34 hl (by decide) rfl (fun ls hl => ?_)
        refine hl_aload_n hx hb dX1_gives_36 rfl (lv_at hl 1 rfl) ?_
        refine lv_iload_n hx hb dX1_gives_37 rfl (lv_at hl 2 rfl) ?_
        refine lv_iload_n hx hb dX1_gives_38 rfl (lv_at hl 3 rfl) ?_
        refine lv_iload hx hb dX1_gives_39 (lv_at hl 0 rfl) ?_
        obtain ⟨a5, ha5, hf⟩ := bnd hf
        replace ha5 := chk_some ha5
        obtain ⟨q6, hq6, hf⟩ := bnd hf
        refine hcV_i hx hb hml hown hts hKs hT hb0 hH (As := [.int a_1, .int a_2, .int a_3]) (rest := []) (k_X1_hardest l E K H.size a5 a_1 a_2 a_3 q3.2 ha5.2 hq6) (gV m4_45 m4_47 ms_20 m1_15 m4_48) hd_X1_hardest ⟨Nat.le_trans (m := 2) (Nat.le_of_ble_eq_true rfl) (Nat.le_add_right _ _), Nat.le_trans (m := 49) (Nat.le_of_ble_eq_true rfl) (Nat.le_add_right _ _), rfl, rfl⟩ ha5.1 ha5.2 rfl rfl rfl hl.1 rfl rc0 rfl dX1_gives_41 ⟨Nat.zero_le _, Nat.zero_le _⟩ (fun H locs hH => ?_)
        refine lv_istore (i := 6) (lv' := [(6, .int (q6.1)), (5, .int a_3), (0, rv E a_0), (1, .int a_1), (2, .int a_2), (3, .int a_3), (4, .int a_4)]) hx hb dX1_gives_44 hl (by decide) rfl (fun ls hl => ?_)
        refine hl_aload_n hx hb dX1_gives_46 rfl (lv_at hl 2 rfl) ?_
        refine g1_2 hx hb hts hown hKs hH ha5.1 ha5.2 m2_205 dX1_gives_47 ?_
        refine lv_iload_n hx hb dX1_gives_50 rfl (lv_at hl 3 rfl) ?_
        refine lv_bipush (v := 12) hx hb dX1_gives_51 (by decide) ?_
        refine lv_imul hx hb dX1_gives_53 ?_
        refine lv_iload hx hb dX1_gives_54 (lv_at hl 0 rfl) ?_
        refine lv_iadd hx hb dX1_gives_56 ?_
        obtain ⟨a7, ha7, hf⟩ := bnd hf
        replace ha7 := cha_some ha7
        obtain ⟨j8, hj8, hf⟩ := bnd hf
        refine hw_iald hx hb hKs hH ha7.1 ha7.2 hj8 dX1_gives_57 ?_
        refine lv_iload hx hb dX1_gives_58 (lv_at hl 1 rfl) ?_
        refine lv_iand hx hb dX1_gives_60 ?_
        refine lv_istore (i := 7) (lv' := [(7, .int (((aI q6.2 a7.1 j8) &&& a_3))), (6, .int (q6.1)), (5, .int a_3), (0, rv E a_0), (1, .int a_1), (2, .int a_2), (3, .int a_3), (4, .int a_4)]) hx hb dX1_gives_61 hl (by decide) rfl (fun ls hl => ?_)
        refine lv_iconst (v := 0) hx hb dX1_gives_63 (by decide) ?_
        refine lv_istore (i := 8) (lv' := [(8, .int 0), (7, .int (((aI q6.2 a7.1 j8) &&& a_3))), (6, .int (q6.1)), (5, .int a_3), (0, rv E a_0), (1, .int a_1), (2, .int a_2), (3, .int a_3), (4, .int a_4)]) hx hb dX1_gives_64 hl (by decide) rfl (fun ls hl => ?_)
        refine l_X1_gives_L66  C n9 hrc _ (fun v0_66 v1_66 v2_66 v3_66 v4_66 v5_66 v6_66 v7_66 v8_66 w9 H locs ls hH hl hf => ?_) fu a_0 a_1 a_2 a_3 a_4 a_3 q6.1 ((aI q6.2 a7.1 j8) &&& a_3) 0 q6.2 _ _ _ hH (lv_sub hl [4, 5, 6, 7, 8, 3, 2, 1, 0] rfl) hf
        refine lv_iconst (v := 0) hx hb dX1_gives_139 (by decide) ?_
        exact hw_zret hx hb hret rfl hf hH hlocks dX1_gives_140
      · replace hf := (if_neg c4).symm.trans hf
        refine hl_aload_n hx hb dX1_gives_23 rfl (lv_at hl 0 rfl) ?_
        obtain ⟨a19, ha19, hf⟩ := bnd hf
        replace ha19 := chk_some ha19
        refine g1_4 hx hb hts hown hKs hH ha19.1 ha19.2 m2_207 dX1_gives_24 ?_
        obtain ⟨q20, hq20, hf⟩ := bnd hf
        refine hcM_i hx hb hml hown hts hKs hT hb0 hH (As := [.int ((wI q3.2 104 a19))]) (rest := []) (k_X12_allOf l E K H.size (wI q3.2 104 a19) q3.2 hq20) m4_37 m4_38 m1_1 m4_39 hs_X12_allOf ⟨Nat.le_trans (m := 2) (Nat.le_of_ble_eq_true rfl) (Nat.le_add_right _ _), Nat.le_trans (m := 49) (Nat.le_of_ble_eq_true rfl) (Nat.le_add_right _ _), rfl, rfl⟩ hl.1 rfl rc0 rfl dX1_gives_27 ⟨Nat.zero_le _, Nat.zero_le _⟩ (fun H locs hH => ?_)
        refine lv_goto (tgt := 34) hx hb dX1_gives_30 (by decide) ?_
        refine lv_istore (i := 5) (lv' := [(5, .int (q20.1)), (0, rv E a_0), (1, .int a_1), (2, .int a_2), (3, .int a_3), (4, .int a_4)]) hx hb dX1_gives_34 hl (by decide) rfl (fun ls hl => ?_)
        refine hl_aload_n hx hb dX1_gives_36 rfl (lv_at hl 1 rfl) ?_
        refine lv_iload_n hx hb dX1_gives_37 rfl (lv_at hl 2 rfl) ?_
        refine lv_iload_n hx hb dX1_gives_38 rfl (lv_at hl 3 rfl) ?_
        refine lv_iload hx hb dX1_gives_39 (lv_at hl 0 rfl) ?_
        obtain ⟨q21, hq21, hf⟩ := bnd hf
        refine hcV_i hx hb hml hown hts hKs hT hb0 hH (As := [.int a_1, .int a_2, .int (q20.1)]) (rest := []) (k_X1_hardest l E K H.size a19 a_1 a_2 q20.1 q20.2 ha19.2 hq21) (gV m4_45 m4_47 ms_20 m1_15 m4_48) hd_X1_hardest ⟨Nat.le_trans (m := 2) (Nat.le_of_ble_eq_true rfl) (Nat.le_add_right _ _), Nat.le_trans (m := 49) (Nat.le_of_ble_eq_true rfl) (Nat.le_add_right _ _), rfl, rfl⟩ ha19.1 ha19.2 rfl rfl rfl hl.1 rfl rc0 rfl dX1_gives_41 ⟨Nat.zero_le _, Nat.zero_le _⟩ (fun H locs hH => ?_)
        refine lv_istore (i := 6) (lv' := [(6, .int (q21.1)), (5, .int (q20.1)), (0, rv E a_0), (1, .int a_1), (2, .int a_2), (3, .int a_3), (4, .int a_4)]) hx hb dX1_gives_44 hl (by decide) rfl (fun ls hl => ?_)
        refine hl_aload_n hx hb dX1_gives_46 rfl (lv_at hl 2 rfl) ?_
        refine g1_2 hx hb hts hown hKs hH ha19.1 ha19.2 m2_205 dX1_gives_47 ?_
        refine lv_iload_n hx hb dX1_gives_50 rfl (lv_at hl 3 rfl) ?_
        refine lv_bipush (v := 12) hx hb dX1_gives_51 (by decide) ?_
        refine lv_imul hx hb dX1_gives_53 ?_
        refine lv_iload hx hb dX1_gives_54 (lv_at hl 0 rfl) ?_
        refine lv_iadd hx hb dX1_gives_56 ?_
        obtain ⟨a22, ha22, hf⟩ := bnd hf
        replace ha22 := cha_some ha22
        obtain ⟨j23, hj23, hf⟩ := bnd hf
        refine hw_iald hx hb hKs hH ha22.1 ha22.2 hj23 dX1_gives_57 ?_
        refine lv_iload hx hb dX1_gives_58 (lv_at hl 1 rfl) ?_
        refine lv_iand hx hb dX1_gives_60 ?_
        refine lv_istore (i := 7) (lv' := [(7, .int (((aI q21.2 a22.1 j23) &&& q20.1))), (6, .int (q21.1)), (5, .int (q20.1)), (0, rv E a_0), (1, .int a_1), (2, .int a_2), (3, .int a_3), (4, .int a_4)]) hx hb dX1_gives_61 hl (by decide) rfl (fun ls hl => ?_)
        refine lv_iconst (v := 0) hx hb dX1_gives_63 (by decide) ?_
        refine lv_istore (i := 8) (lv' := [(8, .int 0), (7, .int (((aI q21.2 a22.1 j23) &&& q20.1))), (6, .int (q21.1)), (5, .int (q20.1)), (0, rv E a_0), (1, .int a_1), (2, .int a_2), (3, .int a_3), (4, .int a_4)]) hx hb dX1_gives_64 hl (by decide) rfl (fun ls hl => ?_)
        refine l_X1_gives_L66  C n9 hrc _ (fun v0_66 v1_66 v2_66 v3_66 v4_66 v5_66 v6_66 v7_66 v8_66 w24 H locs ls hH hl hf => ?_) fu a_0 a_1 a_2 a_3 a_4 q20.1 q21.1 ((aI q21.2 a22.1 j23) &&& q20.1) 0 q21.2 _ _ _ hH (lv_sub hl [4, 5, 6, 7, 8, 3, 2, 1, 0] rfl) hf
        refine lv_iconst (v := 0) hx hb dX1_gives_139 (by decide) ?_
        exact hw_zret hx hb hret rfl hf hH hlocks dX1_gives_140
    · replace hf := (if_neg c2).symm.trans hf
      refine lv_iconst (v := 0) hx hb dX1_gives_12 (by decide) ?_
      exact hw_zret hx hb hret rfl hf hH hlocks dX1_gives_13
  · replace hf := (if_pos c1).symm.trans hf
    refine lv_iconst (v := 1) hx hb dX1_gives_4 (by decide) ?_
    exact hw_zret hx hb hret rfl hf hH hlocks dX1_gives_5

theorem dX5_takesHoliday_0 : decode cX5_takesHoliday 0 = .ok (.aload_n 0, 1) := by decide +kernel
theorem dX5_takesHoliday_1 : decode cX5_takesHoliday 1 = .ok (.getfield 21, 3) := by decide +kernel
theorem dX5_takesHoliday_4 : decode cX5_takesHoliday 4 = .ok (.getfield 103, 3) := by decide +kernel
theorem dX5_takesHoliday_7 : decode cX5_takesHoliday 7 = .ok (.getfield 107, 3) := by decide +kernel
theorem dX5_takesHoliday_10 : decode cX5_takesHoliday 10 = .ok (.bipush 20, 2) := by decide +kernel
theorem dX5_takesHoliday_12 : decode cX5_takesHoliday 12 = .ok (.if_icmp .lt 9, 3) := by decide +kernel
theorem dX5_takesHoliday_15 : decode cX5_takesHoliday 15 = .ok (.aload_n 0, 1) := by decide +kernel
theorem dX5_takesHoliday_16 : decode cX5_takesHoliday 16 = .ok (.iconst 4, 1) := by decide +kernel
theorem dX5_takesHoliday_17 : decode cX5_takesHoliday 17 = .ok (.invokevirtual 99, 3) := by decide +kernel
theorem dX5_takesHoliday_20 : decode cX5_takesHoliday 20 = .ok (.ireturn, 1) := by decide +kernel
theorem dX5_takesHoliday_21 : decode cX5_takesHoliday 21 = .ok (.aload_n 0, 1) := by decide +kernel
theorem dX5_takesHoliday_22 : decode cX5_takesHoliday 22 = .ok (.getfield 12, 3) := by decide +kernel
theorem dX5_takesHoliday_25 : decode cX5_takesHoliday 25 = .ok (.invokevirtual 112, 3) := by decide +kernel
theorem dX5_takesHoliday_28 : decode cX5_takesHoliday 28 = .ok (.aload_n 0, 1) := by decide +kernel
theorem dX5_takesHoliday_29 : decode cX5_takesHoliday 29 = .ok (.iconst 0, 1) := by decide +kernel
theorem dX5_takesHoliday_30 : decode cX5_takesHoliday 30 = .ok (.sipush 599, 3) := by decide +kernel
theorem dX5_takesHoliday_33 : decode cX5_takesHoliday 33 = .ok (.invokevirtual 115, 3) := by decide +kernel
theorem dX5_takesHoliday_36 : decode cX5_takesHoliday 36 = .ok (.ifCond .ne 5, 3) := by decide +kernel
theorem dX5_takesHoliday_39 : decode cX5_takesHoliday 39 = .ok (.iconst 0, 1) := by decide +kernel
theorem dX5_takesHoliday_40 : decode cX5_takesHoliday 40 = .ok (.ireturn, 1) := by decide +kernel
theorem dX5_takesHoliday_41 : decode cX5_takesHoliday 41 = .ok (.aload_n 0, 1) := by decide +kernel
theorem dX5_takesHoliday_42 : decode cX5_takesHoliday 42 = .ok (.getfield 21, 3) := by decide +kernel
theorem dX5_takesHoliday_45 : decode cX5_takesHoliday 45 = .ok (.getfield 103, 3) := by decide +kernel
theorem dX5_takesHoliday_48 : decode cX5_takesHoliday 48 = .ok (.aload_n 0, 1) := by decide +kernel
theorem dX5_takesHoliday_49 : decode cX5_takesHoliday 49 = .ok (.getfield 12, 3) := by decide +kernel
theorem dX5_takesHoliday_52 : decode cX5_takesHoliday 52 = .ok (.getfield 119, 3) := by decide +kernel
theorem dX5_takesHoliday_55 : decode cX5_takesHoliday 55 = .ok (.invokevirtual 122, 3) := by decide +kernel
theorem dX5_takesHoliday_58 : decode cX5_takesHoliday 58 = .ok (.ifCond .eq 9, 3) := by decide +kernel
theorem dX5_takesHoliday_61 : decode cX5_takesHoliday 61 = .ok (.aload_n 0, 1) := by decide +kernel
theorem dX5_takesHoliday_62 : decode cX5_takesHoliday 62 = .ok (.iconst 3, 1) := by decide +kernel
theorem dX5_takesHoliday_63 : decode cX5_takesHoliday 63 = .ok (.invokevirtual 99, 3) := by decide +kernel
theorem dX5_takesHoliday_66 : decode cX5_takesHoliday 66 = .ok (.ireturn, 1) := by decide +kernel
theorem dX5_takesHoliday_67 : decode cX5_takesHoliday 67 = .ok (.aload_n 0, 1) := by decide +kernel
theorem dX5_takesHoliday_68 : decode cX5_takesHoliday 68 = .ok (.getfield 21, 3) := by decide +kernel
theorem dX5_takesHoliday_71 : decode cX5_takesHoliday 71 = .ok (.getfield 103, 3) := by decide +kernel
theorem dX5_takesHoliday_74 : decode cX5_takesHoliday 74 = .ok (.aload_n 0, 1) := by decide +kernel
theorem dX5_takesHoliday_75 : decode cX5_takesHoliday 75 = .ok (.getfield 12, 3) := by decide +kernel
theorem dX5_takesHoliday_78 : decode cX5_takesHoliday 78 = .ok (.getfield 119, 3) := by decide +kernel
theorem dX5_takesHoliday_81 : decode cX5_takesHoliday 81 = .ok (.invokevirtual 125, 3) := by decide +kernel
theorem dX5_takesHoliday_84 : decode cX5_takesHoliday 84 = .ok (.aload_n 0, 1) := by decide +kernel
theorem dX5_takesHoliday_85 : decode cX5_takesHoliday 85 = .ok (.getfield 12, 3) := by decide +kernel
theorem dX5_takesHoliday_88 : decode cX5_takesHoliday 88 = .ok (.invokevirtual 112, 3) := by decide +kernel
theorem dX5_takesHoliday_91 : decode cX5_takesHoliday 91 = .ok (.iconst 1, 1) := by decide +kernel
theorem dX5_takesHoliday_92 : decode cX5_takesHoliday 92 = .ok (.ireturn, 1) := by decide +kernel
theorem hd_X5_takesHoliday : yX5_takesHoliday.cls = RX5 ∧ yX5_takesHoliday.cls ≠ "java/lang/invoke/MethodHandle" ∧ yX5_takesHoliday.cls ≠ "java/lang/invoke/VarHandle" ∧ (parseMethodDescriptor yX5_takesHoliday.desc).map (fun d => d.parameters.length) = some 0 := by decide +kernel
theorem hs_X5_takesHoliday : yX5_takesHoliday.cls ≠ "java/lang/invoke/MethodHandle" ∧ yX5_takesHoliday.cls ≠ "java/lang/invoke/VarHandle" ∧ (parseMethodDescriptor yX5_takesHoliday.desc).map (fun d => d.parameters.length) = some 0 := by decide +kernel
set_option maxHeartbeats 4000000 in
set_option maxRecDepth 100000 in
theorem k_X5_takesHoliday (l : Launch) (E : Ev) (K : Kd) (z : Nat) (o : Nat) (w : Wd) (ho : K o = some (4, 0)) {r : Bool} {w' : Wd} (hf : f_X5_takesHoliday K o w = some (r, w')) : Met l yX5_takesHoliday (Cond.code yX5_takesHoliday cX5_takesHoliday 1 (Option.some Jvm.ClassFile.FieldType.boolean) :: bt) ({ frames := 2, cells := 0, slots := 0, locals := 43 } : Room) (va_Pc [rv E (some o)] (HB E K w z)) (QI E K z w' (b2i r)) 0 0 (hA E) := by
  refine Met.ofW (cc := cX5_takesHoliday) (maxL := 1) (ret := (Option.some Jvm.ClassFile.FieldType.boolean)) (by decide) rfl ?_
  intro p e s m args below meth c s₁ B hml hv
  obtain ⟨rfl, hz, hP, hKs, hT, hb0⟩ := hv
  have C : CX p l e s m _ meth c cX5_takesHoliday 1 RX5 (Option.some Jvm.ClassFile.FieldType.boolean) E := ⟨B.exec, B.bytes, hml, findClass_of_methodNamed B.named, fun w h => atoms_spec (ws := Cond.code yX5_takesHoliday cX5_takesHoliday 1 (Option.some Jvm.ClassFile.FieldType.boolean) :: bt) B.pre w (List.mem_cons_of_mem _ h), hKs, hT, by rw [hz]; exact hb0, B.notSynchronized, B.returns⟩
  have hH : HQ E K z w s s.heap [] := ⟨hP, va_S.rf, hz⟩
  obtain ⟨hx, hb, hml, hown, hts, hKs, hT, hb0, hlocks, hret⟩ := id C
  have hl := lv_entry [rv E (some o)] (n := 1) (by simp [lg_len_nil, lg_len_i, lg_len_j, lg_len_q, lg_len_f, lg_len_d, lg_len_r])
  rw [lg_entry_eq]
  generalize (lg_sl [rv E (some o)] ++ List.replicate (1 - (lg_sl [rv E (some o)]).length) Slot.unset).toArray = ls at hl ⊢
  replace hl : lv_has ls 1 [(0, rv E (some o))] := by simpa only [lv_args, cat_q, cat_i, cat_j, reduceIte, Nat.reduceEqDiff, Nat.reduceAdd, Nat.zero_add] using hl
  generalize s.heap = H at hH ⊢
  unfold f_X5_takesHoliday at hf
  refine hl_aload_n hx hb dX5_takesHoliday_0 rfl (lv_at hl 0 rfl) ?_
  refine g5_1 hx hb hts hown hKs hH rfl ho m2_31 dX5_takesHoliday_1 ?_
  obtain ⟨a1, ha1, hf⟩ := bnd hf
  replace ha1 := chk_some ha1
  refine gn9_10 hx hb hts hown hKs hH ha1.1 ha1.2 m1_183 dX5_takesHoliday_4 ?_
  obtain ⟨a2, ha2, hf⟩ := bnd hf
  replace ha2 := chk_some ha2
  refine gn2_1 hx hb hts hown hKs hH ha2.1 ha2.2 m1_57 dX5_takesHoliday_7 ?_
  refine lv_bipush (v := 20) hx hb dX5_takesHoliday_10 (by decide) ?_
  refine lv_icmp_lt (tgt := 21) hx hb dX5_takesHoliday_12 (by decide) (fun c3 => ?_) (fun c3 => ?_)
  · replace hf := (if_pos c3).symm.trans hf
    refine hl_aload_n hx hb dX5_takesHoliday_21 rfl (lv_at hl 0 rfl) ?_
    refine g5_0 hx hb hts hown hKs hH rfl ho m2_30 dX5_takesHoliday_22 ?_
    obtain ⟨a4, ha4, hf⟩ := bnd hf
    replace ha4 := chk_some ha4
    obtain ⟨q5, hq5, hf⟩ := bnd hf
    refine hcV_v hx hb hml hown hts hKs hT hb0 hH (As := []) (rest := []) (k_X8_advance l E K H.size a4 w ha4.2 hq5) (gV m3_100 m3_57 m3_58 m1_9 m3_59) hd_X8_advance ⟨Nat.le_of_ble_eq_true rfl, Nat.le_of_ble_eq_true rfl, rfl, rfl⟩ ha4.1 ha4.2 rfl rfl rfl hl.1 rfl rc0 rfl dX5_takesHoliday_25 ⟨Nat.zero_le _, Nat.zero_le _⟩ (fun H locs hH => ?_)
    refine hl_aload_n hx hb dX5_takesHoliday_28 rfl (lv_at hl 0 rfl) ?_
    refine lv_iconst (v := 0) hx hb dX5_takesHoliday_29 (by decide) ?_
    refine lv_sipush (v := 599) hx hb dX5_takesHoliday_30 (by decide) ?_
    obtain ⟨q6, hq6, hf⟩ := bnd hf
    refine hcV_i hx hb hml hown hts hKs hT hb0 hH (As := [.int 0, .int 599]) (rest := []) (k_X5_seesNumber l E K H.size o 0 599 q5 ho hq6) (gV m3_101 m3_103 ms_4 m1_8 m3_104) hd_X5_seesNumber ⟨Nat.le_of_ble_eq_true rfl, Nat.le_of_ble_eq_true rfl, rfl, rfl⟩ rfl ho rfl rfl rfl hl.1 rfl rc0 rfl dX5_takesHoliday_33 ⟨Nat.zero_le _, Nat.zero_le _⟩ (fun H locs hH => ?_)
    refine lv_if_ne (tgt := 41) hx hb dX5_takesHoliday_36 (by decide) (fun c7 => ?_) (fun c7 => ?_)
    · replace hf := (if_neg c7).symm.trans hf
      refine hl_aload_n hx hb dX5_takesHoliday_41 rfl (lv_at hl 0 rfl) ?_
      refine g5_1 hx hb hts hown hKs hH rfl ho m2_31 dX5_takesHoliday_42 ?_
      obtain ⟨a8, ha8, hf⟩ := bnd hf
      replace ha8 := chk_some ha8
      refine gn9_10 hx hb hts hown hKs hH ha8.1 ha8.2 m1_183 dX5_takesHoliday_45 ?_
      refine hl_aload_n hx hb dX5_takesHoliday_48 rfl (lv_at hl 0 rfl) ?_
      refine g5_0 hx hb hts hown hKs hH rfl ho m2_30 dX5_takesHoliday_49 ?_
      obtain ⟨a9, ha9, hf⟩ := bnd hf
      replace ha9 := chk_some ha9
      refine gn8_6 hx hb hts hown hKs hH ha9.1 ha9.2 m2_11 dX5_takesHoliday_52 ?_
      obtain ⟨a10, ha10, hf⟩ := bnd hf
      replace ha10 := chk_some ha10
      obtain ⟨q11, hq11, hf⟩ := bnd hf
      refine hcV_i hx hb hml hown hts hKs hT hb0 hH (As := [.int ((wI q6.2 806 a9))]) (rest := []) (k_X2_contains l E K H.size a10 (wI q6.2 806 a9) q6.2 ha10.2 hq11) (gV m3_106 m3_107 m3_108 m1_3 m3_109) hd_X2_contains ⟨Nat.le_of_ble_eq_true rfl, Nat.le_of_ble_eq_true rfl, rfl, rfl⟩ ha10.1 ha10.2 rfl rfl rfl hl.1 rfl rc0 rfl dX5_takesHoliday_55 ⟨Nat.zero_le _, Nat.zero_le _⟩ (fun H locs hH => ?_)
      refine lv_if_eq (tgt := 67) hx hb dX5_takesHoliday_58 (by decide) (fun c12 => ?_) (fun c12 => ?_)
      · replace hf := (if_pos c12).symm.trans hf
        refine hl_aload_n hx hb dX5_takesHoliday_67 rfl (lv_at hl 0 rfl) ?_
        refine g5_1 hx hb hts hown hKs hH rfl ho m2_31 dX5_takesHoliday_68 ?_
        obtain ⟨a13, ha13, hf⟩ := bnd hf
        replace ha13 := chk_some ha13
        refine gn9_10 hx hb hts hown hKs hH ha13.1 ha13.2 m1_183 dX5_takesHoliday_71 ?_
        refine hl_aload_n hx hb dX5_takesHoliday_74 rfl (lv_at hl 0 rfl) ?_
        refine g5_0 hx hb hts hown hKs hH rfl ho m2_30 dX5_takesHoliday_75 ?_
        obtain ⟨a14, ha14, hf⟩ := bnd hf
        replace ha14 := chk_some ha14
        refine gn8_6 hx hb hts hown hKs hH ha14.1 ha14.2 m2_11 dX5_takesHoliday_78 ?_
        obtain ⟨a15, ha15, hf⟩ := bnd hf
        replace ha15 := chk_some ha15
        obtain ⟨q16, hq16, hf⟩ := bnd hf
        refine hcV_v hx hb hml hown hts hKs hT hb0 hH (As := [.int ((wI q11.2 806 a14))]) (rest := []) (k_X2_add l E K H.size a15 (wI q11.2 806 a14) q11.2 ha15.2 hq16) (gV m3_110 m3_111 m3_112 m1_3 m3_113) hd_X2_add ⟨Nat.le_of_ble_eq_true rfl, Nat.le_of_ble_eq_true rfl, rfl, rfl⟩ ha15.1 ha15.2 rfl rfl rfl hl.1 rfl rc0 rfl dX5_takesHoliday_81 ⟨Nat.zero_le _, Nat.zero_le _⟩ (fun H locs hH => ?_)
        refine hl_aload_n hx hb dX5_takesHoliday_84 rfl (lv_at hl 0 rfl) ?_
        refine g5_0 hx hb hts hown hKs hH rfl ho m2_30 dX5_takesHoliday_85 ?_
        obtain ⟨a17, ha17, hf⟩ := bnd hf
        replace ha17 := chk_some ha17
        obtain ⟨q18, hq18, hf⟩ := bnd hf
        refine hcV_v hx hb hml hown hts hKs hT hb0 hH (As := []) (rest := []) (k_X8_advance l E K H.size a17 q16 ha17.2 hq18) (gV m3_100 m3_57 m3_58 m1_9 m3_59) hd_X8_advance ⟨Nat.le_of_ble_eq_true rfl, Nat.le_of_ble_eq_true rfl, rfl, rfl⟩ ha17.1 ha17.2 rfl rfl rfl hl.1 rfl rc0 rfl dX5_takesHoliday_88 ⟨Nat.zero_le _, Nat.zero_le _⟩ (fun H locs hH => ?_)
        refine lv_iconst (v := 1) hx hb dX5_takesHoliday_91 (by decide) ?_
        exact hw_zret hx hb hret rfl hf hH hlocks dX5_takesHoliday_92
      · replace hf := (if_neg c12).symm.trans hf
        refine hl_aload_n hx hb dX5_takesHoliday_61 rfl (lv_at hl 0 rfl) ?_
        refine lv_iconst (v := 3) hx hb dX5_takesHoliday_62 (by decide) ?_
        obtain ⟨q19, hq19, hf⟩ := bnd hf
        refine hcV_i hx hb hml hown hts hKs hT hb0 hH (As := [.int 3]) (rest := []) (k_X5_fail l E K H.size o 3 q11.2 ho hq19) (gV m3_96 m3_98 ms_3 m1_8 m3_99) hd_X5_fail ⟨Nat.le_of_ble_eq_true rfl, Nat.le_of_ble_eq_true rfl, rfl, rfl⟩ rfl ho rfl rfl rfl hl.1 rfl rc0 rfl dX5_takesHoliday_63 ⟨Nat.zero_le _, Nat.zero_le _⟩ (fun H locs hH => ?_)
        exact hw_zret hx hb hret rfl hf hH hlocks dX5_takesHoliday_66
    · replace hf := (if_pos c7).symm.trans hf
      refine lv_iconst (v := 0) hx hb dX5_takesHoliday_39 (by decide) ?_
      exact hw_zret hx hb hret rfl hf hH hlocks dX5_takesHoliday_40
  · replace hf := (if_neg c3).symm.trans hf
    refine hl_aload_n hx hb dX5_takesHoliday_15 rfl (lv_at hl 0 rfl) ?_
    refine lv_iconst (v := 4) hx hb dX5_takesHoliday_16 (by decide) ?_
    obtain ⟨q20, hq20, hf⟩ := bnd hf
    refine hcV_i hx hb hml hown hts hKs hT hb0 hH (As := [.int 4]) (rest := []) (k_X5_fail l E K H.size o 4 w ho hq20) (gV m3_96 m3_98 ms_3 m1_8 m3_99) hd_X5_fail ⟨Nat.le_of_ble_eq_true rfl, Nat.le_of_ble_eq_true rfl, rfl, rfl⟩ rfl ho rfl rfl rfl hl.1 rfl rc0 rfl dX5_takesHoliday_17 ⟨Nat.zero_le _, Nat.zero_le _⟩ (fun H locs hH => ?_)
    exact hw_zret hx hb hret rfl hf hH hlocks dX5_takesHoliday_20

theorem dX5_takesNeeds_0 : decode cX5_takesNeeds 0 = .ok (.iconst 0, 1) := by decide +kernel
theorem dX5_takesNeeds_1 : decode cX5_takesNeeds 1 = .ok (.istore_n 2, 1) := by decide +kernel
theorem dX5_takesNeeds_2 : decode cX5_takesNeeds 2 = .ok (.aload_n 0, 1) := by decide +kernel
theorem dX5_takesNeeds_3 : decode cX5_takesNeeds 3 = .ok (.getfield 12, 3) := by decide +kernel
theorem dX5_takesNeeds_6 : decode cX5_takesNeeds 6 = .ok (.getfield 39, 3) := by decide +kernel
theorem dX5_takesNeeds_9 : decode cX5_takesNeeds 9 = .ok (.getstatic 214, 3) := by decide +kernel
theorem dX5_takesNeeds_12 : decode cX5_takesNeeds 12 = .ok (.if_acmp .ne 79, 3) := by decide +kernel
theorem dX5_takesNeeds_15 : decode cX5_takesNeeds 15 = .ok (.iload_n 2, 1) := by decide +kernel
theorem dX5_takesNeeds_16 : decode cX5_takesNeeds 16 = .ok (.iconst 4, 1) := by decide +kernel
theorem dX5_takesNeeds_17 : decode cX5_takesNeeds 17 = .ok (.if_icmp .lt 9, 3) := by decide +kernel
theorem dX5_takesNeeds_20 : decode cX5_takesNeeds 20 = .ok (.aload_n 0, 1) := by decide +kernel
theorem dX5_takesNeeds_21 : decode cX5_takesNeeds 21 = .ok (.iconst 4, 1) := by decide +kernel
theorem dX5_takesNeeds_22 : decode cX5_takesNeeds 22 = .ok (.invokevirtual 99, 3) := by decide +kernel
theorem dX5_takesNeeds_25 : decode cX5_takesNeeds 25 = .ok (.ireturn, 1) := by decide +kernel
theorem dX5_takesNeeds_26 : decode cX5_takesNeeds 26 = .ok (.aload_n 0, 1) := by decide +kernel
theorem dX5_takesNeeds_27 : decode cX5_takesNeeds 27 = .ok (.getfield 12, 3) := by decide +kernel
theorem dX5_takesNeeds_30 : decode cX5_takesNeeds 30 = .ok (.invokevirtual 112, 3) := by decide +kernel
theorem dX5_takesNeeds_33 : decode cX5_takesNeeds 33 = .ok (.aload_n 0, 1) := by decide +kernel
theorem dX5_takesNeeds_34 : decode cX5_takesNeeds 34 = .ok (.iconst 2, 1) := by decide +kernel
theorem dX5_takesNeeds_35 : decode cX5_takesNeeds 35 = .ok (.invokevirtual 217, 3) := by decide +kernel
theorem dX5_takesNeeds_38 : decode cX5_takesNeeds 38 = .ok (.ifCond .ne 5, 3) := by decide +kernel
theorem dX5_takesNeeds_41 : decode cX5_takesNeeds 41 = .ok (.iconst 0, 1) := by decide +kernel
theorem dX5_takesNeeds_42 : decode cX5_takesNeeds 42 = .ok (.ireturn, 1) := by decide +kernel
theorem dX5_takesNeeds_43 : decode cX5_takesNeeds 43 = .ok (.aload_n 1, 1) := by decide +kernel
theorem dX5_takesNeeds_44 : decode cX5_takesNeeds 44 = .ok (.getfield 220, 3) := by decide +kernel
theorem dX5_takesNeeds_47 : decode cX5_takesNeeds 47 = .ok (.aload_n 0, 1) := by decide +kernel
theorem dX5_takesNeeds_48 : decode cX5_takesNeeds 48 = .ok (.getfield 186, 3) := by decide +kernel
theorem dX5_takesNeeds_51 : decode cX5_takesNeeds 51 = .ok (.invokestatic 223, 3) := by decide +kernel
theorem dX5_takesNeeds_54 : decode cX5_takesNeeds 54 = .ok (.ifCond .eq 9, 3) := by decide +kernel
theorem dX5_takesNeeds_57 : decode cX5_takesNeeds 57 = .ok (.aload_n 0, 1) := by decide +kernel
theorem dX5_takesNeeds_58 : decode cX5_takesNeeds 58 = .ok (.iconst 3, 1) := by decide +kernel
theorem dX5_takesNeeds_59 : decode cX5_takesNeeds 59 = .ok (.invokevirtual 99, 3) := by decide +kernel
theorem dX5_takesNeeds_62 : decode cX5_takesNeeds 62 = .ok (.ireturn, 1) := by decide +kernel
theorem dX5_takesNeeds_63 : decode cX5_takesNeeds 63 = .ok (.aload_n 1, 1) := by decide +kernel
theorem dX5_takesNeeds_64 : decode cX5_takesNeeds 64 = .ok (.dup, 1) := by decide +kernel
theorem dX5_takesNeeds_65 : decode cX5_takesNeeds 65 = .ok (.getfield 220, 3) := by decide +kernel
theorem dX5_takesNeeds_68 : decode cX5_takesNeeds 68 = .ok (.iconst 1, 1) := by decide +kernel
theorem dX5_takesNeeds_69 : decode cX5_takesNeeds 69 = .ok (.aload_n 0, 1) := by decide +kernel
theorem dX5_takesNeeds_70 : decode cX5_takesNeeds 70 = .ok (.getfield 186, 3) := by decide +kernel
theorem dX5_takesNeeds_73 : decode cX5_takesNeeds 73 = .ok (.ishl, 1) := by decide +kernel
theorem dX5_takesNeeds_74 : decode cX5_takesNeeds 74 = .ok (.ior, 1) := by decide +kernel
theorem dX5_takesNeeds_75 : decode cX5_takesNeeds 75 = .ok (.putfield 220, 3) := by decide +kernel
theorem dX5_takesNeeds_78 : decode cX5_takesNeeds 78 = .ok (.aload_n 0, 1) := by decide +kernel
theorem dX5_takesNeeds_79 : decode cX5_takesNeeds 79 = .ok (.getfield 12, 3) := by decide +kernel
theorem dX5_takesNeeds_82 : decode cX5_takesNeeds 82 = .ok (.invokevirtual 112, 3) := by decide +kernel
theorem dX5_takesNeeds_85 : decode cX5_takesNeeds 85 = .ok (.iinc 2 1, 3) := by decide +kernel
theorem dX5_takesNeeds_88 : decode cX5_takesNeeds 88 = .ok (.goto (-86), 3) := by decide +kernel
theorem dX5_takesNeeds_91 : decode cX5_takesNeeds 91 = .ok (.iconst 1, 1) := by decide +kernel
theorem dX5_takesNeeds_92 : decode cX5_takesNeeds 92 = .ok (.ireturn, 1) := by decide +kernel
theorem hd_X5_takesNeeds : yX5_takesNeeds.cls = RX5 ∧ yX5_takesNeeds.cls ≠ "java/lang/invoke/MethodHandle" ∧ yX5_takesNeeds.cls ≠ "java/lang/invoke/VarHandle" ∧ (parseMethodDescriptor yX5_takesNeeds.desc).map (fun d => d.parameters.length) = some 1 := by decide +kernel
theorem hs_X5_takesNeeds : yX5_takesNeeds.cls ≠ "java/lang/invoke/MethodHandle" ∧ yX5_takesNeeds.cls ≠ "java/lang/invoke/VarHandle" ∧ (parseMethodDescriptor yX5_takesNeeds.desc).map (fun d => d.parameters.length) = some 1 := by decide +kernel
set_option maxHeartbeats 4000000 in
set_option maxRecDepth 100000 in
theorem l_X5_takesNeeds_L2 (C : CX p l e s m args meth c cX5_takesNeeds 3 RX5 (Option.some Jvm.ClassFile.FieldType.boolean) E) {o : Nat} (ho : K o = some (4, 0)) {r : Bool} {w' : Wd} (k : Option Nat → Int32 → Wd → Option (Bool × Wd)) (hk : ∀ (v1_2 : Option Nat) (v2_2 : Int32) (w : Wd) (H : Heap) (locs : List Loc) (ls : Array Slot), HQ E K z w s H locs → lv_has ls 3 [(1, rv E v1_2), (2, .int v2_2), (0, rv E (some o))] → k v1_2 v2_2 w = some (r, w') → W p l e ({ frames := 2, cells := 0, slots := 0, locals := 44 } : Room) s m args below meth c H locs 0 0 (MQ below (QI E K z w' (b2i r)) args s 0 0 (hA E)) (F0 m 91 ls [])) : ∀ (n : Nat) (v1_2 : Option Nat) (v2_2 : Int32) (w : Wd) (H : Heap) (locs : List Loc) (ls : Array Slot), HQ E K z w s H locs → lv_has ls 3 [(1, rv E v1_2), (2, .int v2_2), (0, rv E (some o))] → f_X5_takesNeeds_L2 K o k n v1_2 v2_2 w = some (r, w') → W p l e ({ frames := 2, cells := 0, slots := 0, locals := 44 } : Room) s m args below meth c H locs 0 0 (MQ below (QI E K z w' (b2i r)) args s 0 0 (hA E)) (F0 m 2 ls []) := by
  obtain ⟨hx, hb, hml, hown, hts, hKs, hT, hb0, hlocks, hret⟩ := id C
  intro n
  induction n with
  | zero =>
    intro v1_2 v2_2 w H locs ls hH hl hf
    cases hf
  | succ n ih =>
    intro v1_2 v2_2 w H locs ls hH hl hf
    rw [f_X5_takesNeeds_L2] at hf
    refine hl_aload_n hx hb dX5_takesNeeds_2 rfl (lv_at hl 2 rfl) ?_
    refine g5_0 hx hb hts hown hKs hH rfl ho m2_30 dX5_takesNeeds_3 ?_
    obtain ⟨a2, ha2, hf⟩ := bnd hf
    replace ha2 := chk_some ha2
    refine gn8_4 hx hb hts hown hKs hH ha2.1 ha2.2 m2_7 dX5_takesNeeds_6 ?_
    refine hw_tok hx hb 11 (by decide) hts hown hT hH m3_187 dX5_takesNeeds_9 ?_
    obtain ⟨_, hg3, hf⟩ := bnd hf
    refine hw_acmp_ne (tgt := 91) hx hb hT (grd_some hg3) rfl dX5_takesNeeds_12 (by decide) (fun c4 => ?_) (fun c4 => ?_)
    · replace hf := (if_neg c4).symm.trans hf
      exact hk v1_2 v2_2 _ _ _ _ hH (lv_sub hl [0, 1, 2] rfl) hf
    · replace hf := (if_pos c4).symm.trans hf
      refine lv_iload_n hx hb dX5_takesNeeds_15 rfl (lv_at hl 1 rfl) ?_
      refine lv_iconst (v := 4) hx hb dX5_takesNeeds_16 (by decide) ?_
      refine lv_icmp_lt (tgt := 26) hx hb dX5_takesNeeds_17 (by decide) (fun c5 => ?_) (fun c5 => ?_)
      · replace hf := (if_pos c5).symm.trans hf
        refine hl_aload_n hx hb dX5_takesNeeds_26 rfl (lv_at hl 2 rfl) ?_
        refine g5_0 hx hb hts hown hKs hH rfl ho m2_30 dX5_takesNeeds_27 ?_
        obtain ⟨q6, hq6, hf⟩ := bnd hf
        refine hcV_v hx hb hml hown hts hKs hT hb0 hH (As := []) (rest := []) (k_X8_advance l E K H.size a2 w ha2.2 hq6) (gV m3_100 m3_57 m3_58 m1_9 m3_59) hd_X8_advance ⟨Nat.le_of_ble_eq_true rfl, Nat.le_of_ble_eq_true rfl, rfl, rfl⟩ ha2.1 ha2.2 rfl rfl rfl hl.1 rfl rc0 rfl dX5_takesNeeds_30 ⟨Nat.zero_le _, Nat.zero_le _⟩ (fun H locs hH => ?_)
        refine hl_aload_n hx hb dX5_takesNeeds_33 rfl (lv_at hl 2 rfl) ?_
        refine lv_iconst (v := 2) hx hb dX5_takesNeeds_34 (by decide) ?_
        obtain ⟨q7, hq7, hf⟩ := bnd hf
        refine hcV_i hx hb hml hown hts hKs hT hb0 hH (As := [.int 2]) (rest := []) (k_X5_seesToldName l E K H.size o 2 q6 ho hq7) (gV m3_189 m3_191 ms_14 m1_8 m3_192) hd_X5_seesToldName ⟨Nat.le_of_ble_eq_true rfl, Nat.le_of_ble_eq_true rfl, rfl, rfl⟩ rfl ho rfl rfl rfl hl.1 rfl rc0 rfl dX5_takesNeeds_35 ⟨Nat.zero_le _, Nat.zero_le _⟩ (fun H locs hH => ?_)
        refine lv_if_ne (tgt := 43) hx hb dX5_takesNeeds_38 (by decide) (fun c8 => ?_) (fun c8 => ?_)
        · replace hf := (if_neg c8).symm.trans hf
          refine hl_aload_n hx hb dX5_takesNeeds_43 rfl (lv_at hl 0 rfl) ?_
          obtain ⟨a9, ha9, hf⟩ := bnd hf
          replace ha9 := chk_some ha9
          refine gn3_4 hx hb hts hown hKs hH ha9.1 ha9.2 m1_107 dX5_takesNeeds_44 ?_
          refine hl_aload_n hx hb dX5_takesNeeds_47 rfl (lv_at hl 2 rfl) ?_
          refine g5_4 hx hb hts hown hKs hH rfl ho m2_36 dX5_takesNeeds_48 ?_
          obtain ⟨q10, hq10, hf⟩ := bnd hf
          refine hcM_i hx hb hml hown hts hKs hT hb0 hH (As := [.int ((wI q7.2 304 a9)), .int ((wI q7.2 504 o))]) (rest := []) (k_X12_has l E K H.size (wI q7.2 304 a9) (wI q7.2 504 o) q7.2 hq10) m3_193 m3_194 m1_1 m3_195 hs_X12_has ⟨Nat.le_of_ble_eq_true rfl, Nat.le_of_ble_eq_true rfl, rfl, rfl⟩ hl.1 rfl rc0 rfl dX5_takesNeeds_51 ⟨Nat.zero_le _, Nat.zero_le _⟩ (fun H locs hH => ?_)
          refine lv_if_eq (tgt := 63) hx hb dX5_takesNeeds_54 (by decide) (fun c11 => ?_) (fun c11 => ?_)
          · replace hf := (if_pos c11).symm.trans hf
            refine hl_aload_n hx hb dX5_takesNeeds_63 rfl (lv_at hl 0 rfl) ?_
            refine lv_dup hx hb dX5_takesNeeds_64 rv_cat ?_
            refine gn3_4 hx hb hts hown hKs hH ha9.1 ha9.2 m1_107 dX5_takesNeeds_65 ?_
            refine lv_iconst (v := 1) hx hb dX5_takesNeeds_68 (by decide) ?_
            refine hl_aload_n hx hb dX5_takesNeeds_69 rfl (lv_at hl 2 rfl) ?_
            refine g5_4 hx hb hts hown hKs hH rfl ho m2_36 dX5_takesNeeds_70 ?_
            refine lv_ishl hx hb dX5_takesNeeds_73 ?_
            refine lv_ior hx hb dX5_takesNeeds_74 ?_
            obtain ⟨w12, hw12, hf⟩ := bnd hf
            replace hw12 := Option.some.inj hw12
            refine pn3_4 (v := ((wI q10.2 304 a9) ||| (1 <<< ((wI q10.2 504 o) &&& 31)))) hx hb hts hown hKs hH ha9.1 ha9.2 m1_107 dX5_takesNeeds_75 (fun H locs hH => ?_)
            rw [hw12] at hH
            refine hl_aload_n hx hb dX5_takesNeeds_78 rfl (lv_at hl 2 rfl) ?_
            refine g5_0 hx hb hts hown hKs hH rfl ho m2_30 dX5_takesNeeds_79 ?_
            obtain ⟨a13, ha13, hf⟩ := bnd hf
            replace ha13 := chk_some ha13
            obtain ⟨q14, hq14, hf⟩ := bnd hf
            refine hcV_v hx hb hml hown hts hKs hT hb0 hH (As := []) (rest := []) (k_X8_advance l E K H.size a13 w12 ha13.2 hq14) (gV m3_100 m3_57 m3_58 m1_9 m3_59) hd_X8_advance ⟨Nat.le_of_ble_eq_true rfl, Nat.le_of_ble_eq_true rfl, rfl, rfl⟩ ha13.1 ha13.2 rfl rfl rfl hl.1 rfl rc0 rfl dX5_takesNeeds_82 ⟨Nat.zero_le _, Nat.zero_le _⟩ (fun H locs hH => ?_)
            refine lv_iinc (v := (v2_2 + 1)) (lv' := [(2, .int ((v2_2 + 1))), (1, rv E v1_2), (0, rv E (some o))]) hx hb dX5_takesNeeds_85 hl (k := 1) rfl rfl (by decide) (by simp [List.filter_cons, cat_q, cat_i, cat_j, imax, imin]) (fun ls hl => ?_)
            refine lv_goto (tgt := 2) hx hb dX5_takesNeeds_88 (by decide) ?_
            exact ih v1_2 (v2_2 + 1) _ _ _ _ hH (lv_sub hl [1, 0, 2] rfl) hf
          · replace hf := (if_neg c11).symm.trans hf
            refine hl_aload_n hx hb dX5_takesNeeds_57 rfl (lv_at hl 2 rfl) ?_
            refine lv_iconst (v := 3) hx hb dX5_takesNeeds_58 (by decide) ?_
            obtain ⟨q15, hq15, hf⟩ := bnd hf
            refine hcV_i hx hb hml hown hts hKs hT hb0 hH (As := [.int 3]) (rest := []) (k_X5_fail l E K H.size o 3 q10.2 ho hq15) (gV m3_96 m3_98 ms_3 m1_8 m3_99) hd_X5_fail ⟨Nat.le_of_ble_eq_true rfl, Nat.le_of_ble_eq_true rfl, rfl, rfl⟩ rfl ho rfl rfl rfl hl.1 rfl rc0 rfl dX5_takesNeeds_59 ⟨Nat.zero_le _, Nat.zero_le _⟩ (fun H locs hH => ?_)
            exact hw_zret hx hb hret rfl hf hH hlocks dX5_takesNeeds_62
        · replace hf := (if_pos c8).symm.trans hf
          refine lv_iconst (v := 0) hx hb dX5_takesNeeds_41 (by decide) ?_
          exact hw_zret hx hb hret rfl hf hH hlocks dX5_takesNeeds_42
      · replace hf := (if_neg c5).symm.trans hf
        refine hl_aload_n hx hb dX5_takesNeeds_20 rfl (lv_at hl 2 rfl) ?_
        refine lv_iconst (v := 4) hx hb dX5_takesNeeds_21 (by decide) ?_
        obtain ⟨q16, hq16, hf⟩ := bnd hf
        refine hcV_i hx hb hml hown hts hKs hT hb0 hH (As := [.int 4]) (rest := []) (k_X5_fail l E K H.size o 4 w ho hq16) (gV m3_96 m3_98 ms_3 m1_8 m3_99) hd_X5_fail ⟨Nat.le_of_ble_eq_true rfl, Nat.le_of_ble_eq_true rfl, rfl, rfl⟩ rfl ho rfl rfl rfl hl.1 rfl rc0 rfl dX5_takesNeeds_22 ⟨Nat.zero_le _, Nat.zero_le _⟩ (fun H locs hH => ?_)
        exact hw_zret hx hb hret rfl hf hH hlocks dX5_takesNeeds_25
set_option maxHeartbeats 4000000 in
set_option maxRecDepth 100000 in
theorem k_X5_takesNeeds (l : Launch) (E : Ev) (K : Kd) (z : Nat) (o : Nat) (a_1 : Option Nat) (w : Wd) (ho : K o = some (4, 0)) {r : Bool} {w' : Wd} (hf : f_X5_takesNeeds K o a_1 w = some (r, w')) : Met l yX5_takesNeeds (Cond.code yX5_takesNeeds cX5_takesNeeds 3 (Option.some Jvm.ClassFile.FieldType.boolean) :: bt) ({ frames := 2, cells := 0, slots := 0, locals := 44 } : Room) (va_Pc [rv E (some o), rv E a_1] (HB E K w z)) (QI E K z w' (b2i r)) 0 0 (hA E) := by
  refine Met.ofW (cc := cX5_takesNeeds) (maxL := 3) (ret := (Option.some Jvm.ClassFile.FieldType.boolean)) (by decide) rfl ?_
  intro p e s m args below meth c s₁ B hml hv
  obtain ⟨rfl, hz, hP, hKs, hT, hb0⟩ := hv
  have C : CX p l e s m _ meth c cX5_takesNeeds 3 RX5 (Option.some Jvm.ClassFile.FieldType.boolean) E := ⟨B.exec, B.bytes, hml, findClass_of_methodNamed B.named, fun w h => atoms_spec (ws := Cond.code yX5_takesNeeds cX5_takesNeeds 3 (Option.some Jvm.ClassFile.FieldType.boolean) :: bt) B.pre w (List.mem_cons_of_mem _ h), hKs, hT, by rw [hz]; exact hb0, B.notSynchronized, B.returns⟩
  have hH : HQ E K z w s s.heap [] := ⟨hP, va_S.rf, hz⟩
  obtain ⟨hx, hb, hml, hown, hts, hKs, hT, hb0, hlocks, hret⟩ := id C
  have hl := lv_entry [rv E (some o), rv E a_1] (n := 3) (by simp [lg_len_nil, lg_len_i, lg_len_j, lg_len_q, lg_len_f, lg_len_d, lg_len_r])
  rw [lg_entry_eq]
  generalize (lg_sl [rv E (some o), rv E a_1] ++ List.replicate (3 - (lg_sl [rv E (some o), rv E a_1]).length) Slot.unset).toArray = ls at hl ⊢
  replace hl : lv_has ls 3 [(0, rv E (some o)), (1, rv E a_1)] := by simpa only [lv_args, cat_q, cat_i, cat_j, reduceIte, Nat.reduceEqDiff, Nat.reduceAdd, Nat.zero_add] using hl
  generalize s.heap = H at hH ⊢
  unfold f_X5_takesNeeds at hf
  refine lv_iconst (v := 0) hx hb dX5_takesNeeds_0 (by decide) ?_
  refine lv_istore_n (i := 2) (lv' := [(2, .int 0), (0, rv E (some o)), (1, rv E a_1)]) hx hb dX5_takesNeeds_1 rfl hl (by decide) (by simp [List.filter_cons, cat_q, cat_i, cat_j, imax, imin]) (fun ls hl => ?_)
  refine l_X5_takesNeeds_L2  C ho _ (fun v1_2 v2_2 w1 H locs ls hH hl hf => ?_) fu a_1 0 w _ _ _ hH (lv_sub hl [2, 0, 1] rfl) hf
  refine lv_iconst (v := 1) hx hb dX5_takesNeeds_91 (by decide) ?_
  exact hw_zret hx hb hret rfl hf hH hlocks dX5_takesNeeds_92

theorem dX5_takesBar_0 : decode cX5_takesBar 0 = .ok (.aload_n 0, 1) := by decide +kernel
theorem dX5_takesBar_1 : decode cX5_takesBar 1 = .ok (.getfield 12, 3) := by decide +kernel
theorem dX5_takesBar_4 : decode cX5_takesBar 4 = .ok (.invokevirtual 112, 3) := by decide +kernel
theorem dX5_takesBar_7 : decode cX5_takesBar 7 = .ok (.aload_n 0, 1) := by decide +kernel
theorem dX5_takesBar_8 : decode cX5_takesBar 8 = .ok (.iconst 1, 1) := by decide +kernel
theorem dX5_takesBar_9 : decode cX5_takesBar 9 = .ok (.invokevirtual 217, 3) := by decide +kernel
theorem dX5_takesBar_12 : decode cX5_takesBar 12 = .ok (.ifCond .ne 5, 3) := by decide +kernel
theorem dX5_takesBar_15 : decode cX5_takesBar 15 = .ok (.iconst 0, 1) := by decide +kernel
theorem dX5_takesBar_16 : decode cX5_takesBar 16 = .ok (.ireturn, 1) := by decide +kernel
theorem dX5_takesBar_17 : decode cX5_takesBar 17 = .ok (.aload_n 0, 1) := by decide +kernel
theorem dX5_takesBar_18 : decode cX5_takesBar 18 = .ok (.getfield 186, 3) := by decide +kernel
theorem dX5_takesBar_21 : decode cX5_takesBar 21 = .ok (.istore_n 1, 1) := by decide +kernel
theorem dX5_takesBar_22 : decode cX5_takesBar 22 = .ok (.aload_n 0, 1) := by decide +kernel
theorem dX5_takesBar_23 : decode cX5_takesBar 23 = .ok (.getfield 12, 3) := by decide +kernel
theorem dX5_takesBar_26 : decode cX5_takesBar 26 = .ok (.invokevirtual 112, 3) := by decide +kernel
theorem dX5_takesBar_29 : decode cX5_takesBar 29 = .ok (.aload_n 0, 1) := by decide +kernel
theorem dX5_takesBar_30 : decode cX5_takesBar 30 = .ok (.iconst 3, 1) := by decide +kernel
theorem dX5_takesBar_31 : decode cX5_takesBar 31 = .ok (.invokevirtual 217, 3) := by decide +kernel
theorem dX5_takesBar_34 : decode cX5_takesBar 34 = .ok (.ifCond .ne 5, 3) := by decide +kernel
theorem dX5_takesBar_37 : decode cX5_takesBar 37 = .ok (.iconst 0, 1) := by decide +kernel
theorem dX5_takesBar_38 : decode cX5_takesBar 38 = .ok (.ireturn, 1) := by decide +kernel
theorem dX5_takesBar_39 : decode cX5_takesBar 39 = .ok (.aload_n 0, 1) := by decide +kernel
theorem dX5_takesBar_40 : decode cX5_takesBar 40 = .ok (.getfield 21, 3) := by decide +kernel
theorem dX5_takesBar_43 : decode cX5_takesBar 43 = .ok (.getfield 176, 3) := by decide +kernel
theorem dX5_takesBar_46 : decode cX5_takesBar 46 = .ok (.aload_n 0, 1) := by decide +kernel
theorem dX5_takesBar_47 : decode cX5_takesBar 47 = .ok (.getfield 186, 3) := by decide +kernel
theorem dX5_takesBar_50 : decode cX5_takesBar 50 = .ok (.aaload, 1) := by decide +kernel
theorem dX5_takesBar_51 : decode cX5_takesBar 51 = .ok (.astore_n 2, 1) := by decide +kernel
theorem dX5_takesBar_52 : decode cX5_takesBar 52 = .ok (.aload_n 2, 1) := by decide +kernel
theorem dX5_takesBar_53 : decode cX5_takesBar 53 = .ok (.getfield 226, 3) := by decide +kernel
theorem dX5_takesBar_56 : decode cX5_takesBar 56 = .ok (.iload_n 1, 1) := by decide +kernel
theorem dX5_takesBar_57 : decode cX5_takesBar 57 = .ok (.invokestatic 223, 3) := by decide +kernel
theorem dX5_takesBar_60 : decode cX5_takesBar 60 = .ok (.ifCond .eq 9, 3) := by decide +kernel
theorem dX5_takesBar_63 : decode cX5_takesBar 63 = .ok (.aload_n 0, 1) := by decide +kernel
theorem dX5_takesBar_64 : decode cX5_takesBar 64 = .ok (.iconst 3, 1) := by decide +kernel
theorem dX5_takesBar_65 : decode cX5_takesBar 65 = .ok (.invokevirtual 99, 3) := by decide +kernel
theorem dX5_takesBar_68 : decode cX5_takesBar 68 = .ok (.ireturn, 1) := by decide +kernel
theorem dX5_takesBar_69 : decode cX5_takesBar 69 = .ok (.aload_n 2, 1) := by decide +kernel
theorem dX5_takesBar_70 : decode cX5_takesBar 70 = .ok (.dup, 1) := by decide +kernel
theorem dX5_takesBar_71 : decode cX5_takesBar 71 = .ok (.getfield 226, 3) := by decide +kernel
theorem dX5_takesBar_74 : decode cX5_takesBar 74 = .ok (.iconst 1, 1) := by decide +kernel
theorem dX5_takesBar_75 : decode cX5_takesBar 75 = .ok (.iload_n 1, 1) := by decide +kernel
theorem dX5_takesBar_76 : decode cX5_takesBar 76 = .ok (.ishl, 1) := by decide +kernel
theorem dX5_takesBar_77 : decode cX5_takesBar 77 = .ok (.ior, 1) := by decide +kernel
theorem dX5_takesBar_78 : decode cX5_takesBar 78 = .ok (.putfield 226, 3) := by decide +kernel
theorem dX5_takesBar_81 : decode cX5_takesBar 81 = .ok (.aload_n 0, 1) := by decide +kernel
theorem dX5_takesBar_82 : decode cX5_takesBar 82 = .ok (.getfield 12, 3) := by decide +kernel
theorem dX5_takesBar_85 : decode cX5_takesBar 85 = .ok (.invokevirtual 112, 3) := by decide +kernel
theorem dX5_takesBar_88 : decode cX5_takesBar 88 = .ok (.iconst 1, 1) := by decide +kernel
theorem dX5_takesBar_89 : decode cX5_takesBar 89 = .ok (.ireturn, 1) := by decide +kernel
theorem hd_X5_takesBar : yX5_takesBar.cls = RX5 ∧ yX5_takesBar.cls ≠ "java/lang/invoke/MethodHandle" ∧ yX5_takesBar.cls ≠ "java/lang/invoke/VarHandle" ∧ (parseMethodDescriptor yX5_takesBar.desc).map (fun d => d.parameters.length) = some 0 := by decide +kernel
theorem hs_X5_takesBar : yX5_takesBar.cls ≠ "java/lang/invoke/MethodHandle" ∧ yX5_takesBar.cls ≠ "java/lang/invoke/VarHandle" ∧ (parseMethodDescriptor yX5_takesBar.desc).map (fun d => d.parameters.length) = some 0 := by decide +kernel
set_option maxHeartbeats 4000000 in
set_option maxRecDepth 100000 in
theorem k_X5_takesBar (l : Launch) (E : Ev) (K : Kd) (z : Nat) (o : Nat) (w : Wd) (ho : K o = some (4, 0)) {r : Bool} {w' : Wd} (hf : f_X5_takesBar K o w = some (r, w')) : Met l yX5_takesBar (Cond.code yX5_takesBar cX5_takesBar 3 (Option.some Jvm.ClassFile.FieldType.boolean) :: bt) ({ frames := 2, cells := 0, slots := 0, locals := 44 } : Room) (va_Pc [rv E (some o)] (HB E K w z)) (QI E K z w' (b2i r)) 0 0 (hA E) := by
  refine Met.ofW (cc := cX5_takesBar) (maxL := 3) (ret := (Option.some Jvm.ClassFile.FieldType.boolean)) (by decide) rfl ?_
  intro p e s m args below meth c s₁ B hml hv
  obtain ⟨rfl, hz, hP, hKs, hT, hb0⟩ := hv
  have C : CX p l e s m _ meth c cX5_takesBar 3 RX5 (Option.some Jvm.ClassFile.FieldType.boolean) E := ⟨B.exec, B.bytes, hml, findClass_of_methodNamed B.named, fun w h => atoms_spec (ws := Cond.code yX5_takesBar cX5_takesBar 3 (Option.some Jvm.ClassFile.FieldType.boolean) :: bt) B.pre w (List.mem_cons_of_mem _ h), hKs, hT, by rw [hz]; exact hb0, B.notSynchronized, B.returns⟩
  have hH : HQ E K z w s s.heap [] := ⟨hP, va_S.rf, hz⟩
  obtain ⟨hx, hb, hml, hown, hts, hKs, hT, hb0, hlocks, hret⟩ := id C
  have hl := lv_entry [rv E (some o)] (n := 3) (by simp [lg_len_nil, lg_len_i, lg_len_j, lg_len_q, lg_len_f, lg_len_d, lg_len_r])
  rw [lg_entry_eq]
  generalize (lg_sl [rv E (some o)] ++ List.replicate (3 - (lg_sl [rv E (some o)]).length) Slot.unset).toArray = ls at hl ⊢
  replace hl : lv_has ls 3 [(0, rv E (some o))] := by simpa only [lv_args, cat_q, cat_i, cat_j, reduceIte, Nat.reduceEqDiff, Nat.reduceAdd, Nat.zero_add] using hl
  generalize s.heap = H at hH ⊢
  unfold f_X5_takesBar at hf
  refine hl_aload_n hx hb dX5_takesBar_0 rfl (lv_at hl 0 rfl) ?_
  refine g5_0 hx hb hts hown hKs hH rfl ho m2_30 dX5_takesBar_1 ?_
  obtain ⟨a1, ha1, hf⟩ := bnd hf
  replace ha1 := chk_some ha1
  obtain ⟨q2, hq2, hf⟩ := bnd hf
  refine hcV_v hx hb hml hown hts hKs hT hb0 hH (As := []) (rest := []) (k_X8_advance l E K H.size a1 w ha1.2 hq2) (gV m3_100 m3_57 m3_58 m1_9 m3_59) hd_X8_advance ⟨Nat.le_of_ble_eq_true rfl, Nat.le_of_ble_eq_true rfl, rfl, rfl⟩ ha1.1 ha1.2 rfl rfl rfl hl.1 rfl rc0 rfl dX5_takesBar_4 ⟨Nat.zero_le _, Nat.zero_le _⟩ (fun H locs hH => ?_)
  refine hl_aload_n hx hb dX5_takesBar_7 rfl (lv_at hl 0 rfl) ?_
  refine lv_iconst (v := 1) hx hb dX5_takesBar_8 (by decide) ?_
  obtain ⟨q3, hq3, hf⟩ := bnd hf
  refine hcV_i hx hb hml hown hts hKs hT hb0 hH (As := [.int 1]) (rest := []) (k_X5_seesToldName l E K H.size o 1 q2 ho hq3) (gV m3_189 m3_191 ms_14 m1_8 m3_192) hd_X5_seesToldName ⟨Nat.le_of_ble_eq_true rfl, Nat.le_of_ble_eq_true rfl, rfl, rfl⟩ rfl ho rfl rfl rfl hl.1 rfl rc0 rfl dX5_takesBar_9 ⟨Nat.zero_le _, Nat.zero_le _⟩ (fun H locs hH => ?_)
  refine lv_if_ne (tgt := 17) hx hb dX5_takesBar_12 (by decide) (fun c4 => ?_) (fun c4 => ?_)
  · replace hf := (if_neg c4).symm.trans hf
    refine hl_aload_n hx hb dX5_takesBar_17 rfl (lv_at hl 0 rfl) ?_
    refine g5_4 hx hb hts hown hKs hH rfl ho m2_36 dX5_takesBar_18 ?_
    refine lv_istore_n (i := 1) (lv' := [(1, .int ((wI q3.2 504 o))), (0, rv E (some o))]) hx hb dX5_takesBar_21 rfl hl (by decide) rfl (fun ls hl => ?_)
    refine hl_aload_n hx hb dX5_takesBar_22 rfl (lv_at hl 1 rfl) ?_
    refine g5_0 hx hb hts hown hKs hH rfl ho m2_30 dX5_takesBar_23 ?_
    obtain ⟨a5, ha5, hf⟩ := bnd hf
    replace ha5 := chk_some ha5
    obtain ⟨q6, hq6, hf⟩ := bnd hf
    refine hcV_v hx hb hml hown hts hKs hT hb0 hH (As := []) (rest := []) (k_X8_advance l E K H.size a5 q3.2 ha5.2 hq6) (gV m3_100 m3_57 m3_58 m1_9 m3_59) hd_X8_advance ⟨Nat.le_of_ble_eq_true rfl, Nat.le_of_ble_eq_true rfl, rfl, rfl⟩ ha5.1 ha5.2 rfl rfl rfl hl.1 rfl rc0 rfl dX5_takesBar_26 ⟨Nat.zero_le _, Nat.zero_le _⟩ (fun H locs hH => ?_)
    refine hl_aload_n hx hb dX5_takesBar_29 rfl (lv_at hl 1 rfl) ?_
    refine lv_iconst (v := 3) hx hb dX5_takesBar_30 (by decide) ?_
    obtain ⟨q7, hq7, hf⟩ := bnd hf
    refine hcV_i hx hb hml hown hts hKs hT hb0 hH (As := [.int 3]) (rest := []) (k_X5_seesToldName l E K H.size o 3 q6 ho hq7) (gV m3_189 m3_191 ms_14 m1_8 m3_192) hd_X5_seesToldName ⟨Nat.le_of_ble_eq_true rfl, Nat.le_of_ble_eq_true rfl, rfl, rfl⟩ rfl ho rfl rfl rfl hl.1 rfl rc0 rfl dX5_takesBar_31 ⟨Nat.zero_le _, Nat.zero_le _⟩ (fun H locs hH => ?_)
    refine lv_if_ne (tgt := 39) hx hb dX5_takesBar_34 (by decide) (fun c8 => ?_) (fun c8 => ?_)
    · replace hf := (if_neg c8).symm.trans hf
      refine hl_aload_n hx hb dX5_takesBar_39 rfl (lv_at hl 1 rfl) ?_
      refine g5_1 hx hb hts hown hKs hH rfl ho m2_31 dX5_takesBar_40 ?_
      obtain ⟨a9, ha9, hf⟩ := bnd hf
      replace ha9 := chk_some ha9
      refine gn9_9 hx hb hts hown hKs hH ha9.1 ha9.2 m1_179 dX5_takesBar_43 ?_
      refine hl_aload_n hx hb dX5_takesBar_46 rfl (lv_at hl 1 rfl) ?_
      refine g5_4 hx hb hts hown hKs hH rfl ho m2_36 dX5_takesBar_47 ?_
      obtain ⟨a10, ha10, hf⟩ := bnd hf
      replace ha10 := cha_some ha10
      obtain ⟨j11, hj11, hf⟩ := bnd hf
      refine hw_aald25 hx hb hKs hH ha10.1 ha10.2 hj11 dX5_takesBar_50 ?_
      refine hl_astore_n (i := 2) (lv' := [(2, rv E (aR q7.2 a10.1 j11)), (1, .int ((wI q3.2 504 o))), (0, rv E (some o))]) hx hb dX5_takesBar_51 rfl hl (by decide) rfl (fun ls hl => ?_)
      refine hl_aload_n hx hb dX5_takesBar_52 rfl (lv_at hl 0 rfl) ?_
      obtain ⟨a12, ha12, hf⟩ := bnd hf
      replace ha12 := chk_some ha12
      refine gn3_6 hx hb hts hown hKs hH ha12.1 ha12.2 m1_118 dX5_takesBar_53 ?_
      refine lv_iload_n hx hb dX5_takesBar_56 rfl (lv_at hl 1 rfl) ?_
      obtain ⟨q13, hq13, hf⟩ := bnd hf
      refine hcM_i hx hb hml hown hts hKs hT hb0 hH (As := [.int ((wI q7.2 306 a12)), .int ((wI q3.2 504 o))]) (rest := []) (k_X12_has l E K H.size (wI q7.2 306 a12) (wI q3.2 504 o) q7.2 hq13) m3_193 m3_194 m1_1 m3_195 hs_X12_has ⟨Nat.le_of_ble_eq_true rfl, Nat.le_of_ble_eq_true rfl, rfl, rfl⟩ hl.1 rfl rc0 rfl dX5_takesBar_57 ⟨Nat.zero_le _, Nat.zero_le _⟩ (fun H locs hH => ?_)
      refine lv_if_eq (tgt := 69) hx hb dX5_takesBar_60 (by decide) (fun c14 => ?_) (fun c14 => ?_)
      · replace hf := (if_pos c14).symm.trans hf
        refine hl_aload_n hx hb dX5_takesBar_69 rfl (lv_at hl 0 rfl) ?_
        refine lv_dup hx hb dX5_takesBar_70 rv_cat ?_
        refine gn3_6 hx hb hts hown hKs hH ha12.1 ha12.2 m1_118 dX5_takesBar_71 ?_
        refine lv_iconst (v := 1) hx hb dX5_takesBar_74 (by decide) ?_
        refine lv_iload_n hx hb dX5_takesBar_75 rfl (lv_at hl 1 rfl) ?_
        refine lv_ishl hx hb dX5_takesBar_76 ?_
        refine lv_ior hx hb dX5_takesBar_77 ?_
        obtain ⟨w15, hw15, hf⟩ := bnd hf
        replace hw15 := Option.some.inj hw15
        refine pn3_6 (v := ((wI q13.2 306 a12) ||| (1 <<< ((wI q3.2 504 o) &&& 31)))) hx hb hts hown hKs hH ha12.1 ha12.2 m1_118 dX5_takesBar_78 (fun H locs hH => ?_)
        rw [hw15] at hH
        refine hl_aload_n hx hb dX5_takesBar_81 rfl (lv_at hl 2 rfl) ?_
        refine g5_0 hx hb hts hown hKs hH rfl ho m2_30 dX5_takesBar_82 ?_
        obtain ⟨a16, ha16, hf⟩ := bnd hf
        replace ha16 := chk_some ha16
        obtain ⟨q17, hq17, hf⟩ := bnd hf
        refine hcV_v hx hb hml hown hts hKs hT hb0 hH (As := []) (rest := []) (k_X8_advance l E K H.size a16 w15 ha16.2 hq17) (gV m3_100 m3_57 m3_58 m1_9 m3_59) hd_X8_advance ⟨Nat.le_of_ble_eq_true rfl, Nat.le_of_ble_eq_true rfl, rfl, rfl⟩ ha16.1 ha16.2 rfl rfl rfl hl.1 rfl rc0 rfl dX5_takesBar_85 ⟨Nat.zero_le _, Nat.zero_le _⟩ (fun H locs hH => ?_)
        refine lv_iconst (v := 1) hx hb dX5_takesBar_88 (by decide) ?_
        exact hw_zret hx hb hret rfl hf hH hlocks dX5_takesBar_89
      · replace hf := (if_neg c14).symm.trans hf
        refine hl_aload_n hx hb dX5_takesBar_63 rfl (lv_at hl 2 rfl) ?_
        refine lv_iconst (v := 3) hx hb dX5_takesBar_64 (by decide) ?_
        obtain ⟨q18, hq18, hf⟩ := bnd hf
        refine hcV_i hx hb hml hown hts hKs hT hb0 hH (As := [.int 3]) (rest := []) (k_X5_fail l E K H.size o 3 q13.2 ho hq18) (gV m3_96 m3_98 ms_3 m1_8 m3_99) hd_X5_fail ⟨Nat.le_of_ble_eq_true rfl, Nat.le_of_ble_eq_true rfl, rfl, rfl⟩ rfl ho rfl rfl rfl hl.1 rfl rc0 rfl dX5_takesBar_65 ⟨Nat.zero_le _, Nat.zero_le _⟩ (fun H locs hH => ?_)
        exact hw_zret hx hb hret rfl hf hH hlocks dX5_takesBar_68
    · replace hf := (if_pos c8).symm.trans hf
      refine lv_iconst (v := 0) hx hb dX5_takesBar_37 (by decide) ?_
      exact hw_zret hx hb hret rfl hf hH hlocks dX5_takesBar_38
  · replace hf := (if_pos c4).symm.trans hf
    refine lv_iconst (v := 0) hx hb dX5_takesBar_15 (by decide) ?_
    exact hw_zret hx hb hret rfl hf hH hlocks dX5_takesBar_16

theorem dX5_takesConflict_0 : decode cX5_takesConflict 0 = .ok (.aload_n 0, 1) := by decide +kernel
theorem dX5_takesConflict_1 : decode cX5_takesConflict 1 = .ok (.getfield 12, 3) := by decide +kernel
theorem dX5_takesConflict_4 : decode cX5_takesConflict 4 = .ok (.invokevirtual 112, 3) := by decide +kernel
theorem dX5_takesConflict_7 : decode cX5_takesConflict 7 = .ok (.aload_n 0, 1) := by decide +kernel
theorem dX5_takesConflict_8 : decode cX5_takesConflict 8 = .ok (.iconst 3, 1) := by decide +kernel
theorem dX5_takesConflict_9 : decode cX5_takesConflict 9 = .ok (.invokevirtual 217, 3) := by decide +kernel
theorem dX5_takesConflict_12 : decode cX5_takesConflict 12 = .ok (.ifCond .ne 5, 3) := by decide +kernel
theorem dX5_takesConflict_15 : decode cX5_takesConflict 15 = .ok (.iconst 0, 1) := by decide +kernel
theorem dX5_takesConflict_16 : decode cX5_takesConflict 16 = .ok (.ireturn, 1) := by decide +kernel
theorem dX5_takesConflict_17 : decode cX5_takesConflict 17 = .ok (.aload_n 0, 1) := by decide +kernel
theorem dX5_takesConflict_18 : decode cX5_takesConflict 18 = .ok (.getfield 186, 3) := by decide +kernel
theorem dX5_takesConflict_21 : decode cX5_takesConflict 21 = .ok (.istore_n 1, 1) := by decide +kernel
theorem dX5_takesConflict_22 : decode cX5_takesConflict 22 = .ok (.aload_n 0, 1) := by decide +kernel
theorem dX5_takesConflict_23 : decode cX5_takesConflict 23 = .ok (.getfield 12, 3) := by decide +kernel
theorem dX5_takesConflict_26 : decode cX5_takesConflict 26 = .ok (.invokevirtual 112, 3) := by decide +kernel
theorem dX5_takesConflict_29 : decode cX5_takesConflict 29 = .ok (.aload_n 0, 1) := by decide +kernel
theorem dX5_takesConflict_30 : decode cX5_takesConflict 30 = .ok (.iconst 3, 1) := by decide +kernel
theorem dX5_takesConflict_31 : decode cX5_takesConflict 31 = .ok (.invokevirtual 217, 3) := by decide +kernel
theorem dX5_takesConflict_34 : decode cX5_takesConflict 34 = .ok (.ifCond .ne 5, 3) := by decide +kernel
theorem dX5_takesConflict_37 : decode cX5_takesConflict 37 = .ok (.iconst 0, 1) := by decide +kernel
theorem dX5_takesConflict_38 : decode cX5_takesConflict 38 = .ok (.ireturn, 1) := by decide +kernel
theorem dX5_takesConflict_39 : decode cX5_takesConflict 39 = .ok (.aload_n 0, 1) := by decide +kernel
theorem dX5_takesConflict_40 : decode cX5_takesConflict 40 = .ok (.getfield 186, 3) := by decide +kernel
theorem dX5_takesConflict_43 : decode cX5_takesConflict 43 = .ok (.istore_n 2, 1) := by decide +kernel
theorem dX5_takesConflict_44 : decode cX5_takesConflict 44 = .ok (.iload_n 2, 1) := by decide +kernel
theorem dX5_takesConflict_45 : decode cX5_takesConflict 45 = .ok (.iload_n 1, 1) := by decide +kernel
theorem dX5_takesConflict_46 : decode cX5_takesConflict 46 = .ok (.if_icmp .eq 22, 3) := by decide +kernel
theorem dX5_takesConflict_49 : decode cX5_takesConflict 49 = .ok (.aload_n 0, 1) := by decide +kernel
theorem dX5_takesConflict_50 : decode cX5_takesConflict 50 = .ok (.getfield 21, 3) := by decide +kernel
theorem dX5_takesConflict_53 : decode cX5_takesConflict 53 = .ok (.getfield 176, 3) := by decide +kernel
theorem dX5_takesConflict_56 : decode cX5_takesConflict 56 = .ok (.iload_n 1, 1) := by decide +kernel
theorem dX5_takesConflict_57 : decode cX5_takesConflict 57 = .ok (.aaload, 1) := by decide +kernel
theorem dX5_takesConflict_58 : decode cX5_takesConflict 58 = .ok (.getfield 229, 3) := by decide +kernel
theorem dX5_takesConflict_61 : decode cX5_takesConflict 61 = .ok (.iload_n 2, 1) := by decide +kernel
theorem dX5_takesConflict_62 : decode cX5_takesConflict 62 = .ok (.invokestatic 223, 3) := by decide +kernel
theorem dX5_takesConflict_65 : decode cX5_takesConflict 65 = .ok (.ifCond .eq 9, 3) := by decide +kernel
theorem dX5_takesConflict_68 : decode cX5_takesConflict 68 = .ok (.aload_n 0, 1) := by decide +kernel
theorem dX5_takesConflict_69 : decode cX5_takesConflict 69 = .ok (.iconst 3, 1) := by decide +kernel
theorem dX5_takesConflict_70 : decode cX5_takesConflict 70 = .ok (.invokevirtual 99, 3) := by decide +kernel
theorem dX5_takesConflict_73 : decode cX5_takesConflict 73 = .ok (.ireturn, 1) := by decide +kernel
theorem dX5_takesConflict_74 : decode cX5_takesConflict 74 = .ok (.aload_n 0, 1) := by decide +kernel
theorem dX5_takesConflict_75 : decode cX5_takesConflict 75 = .ok (.getfield 21, 3) := by decide +kernel
theorem dX5_takesConflict_78 : decode cX5_takesConflict 78 = .ok (.getfield 176, 3) := by decide +kernel
theorem dX5_takesConflict_81 : decode cX5_takesConflict 81 = .ok (.iload_n 1, 1) := by decide +kernel
theorem dX5_takesConflict_82 : decode cX5_takesConflict 82 = .ok (.aaload, 1) := by decide +kernel
theorem dX5_takesConflict_83 : decode cX5_takesConflict 83 = .ok (.dup, 1) := by decide +kernel
theorem dX5_takesConflict_84 : decode cX5_takesConflict 84 = .ok (.getfield 229, 3) := by decide +kernel
theorem dX5_takesConflict_87 : decode cX5_takesConflict 87 = .ok (.iconst 1, 1) := by decide +kernel
theorem dX5_takesConflict_88 : decode cX5_takesConflict 88 = .ok (.iload_n 2, 1) := by decide +kernel
theorem dX5_takesConflict_89 : decode cX5_takesConflict 89 = .ok (.ishl, 1) := by decide +kernel
theorem dX5_takesConflict_90 : decode cX5_takesConflict 90 = .ok (.ior, 1) := by decide +kernel
theorem dX5_takesConflict_91 : decode cX5_takesConflict 91 = .ok (.putfield 229, 3) := by decide +kernel
theorem dX5_takesConflict_94 : decode cX5_takesConflict 94 = .ok (.aload_n 0, 1) := by decide +kernel
theorem dX5_takesConflict_95 : decode cX5_takesConflict 95 = .ok (.getfield 21, 3) := by decide +kernel
theorem dX5_takesConflict_98 : decode cX5_takesConflict 98 = .ok (.getfield 176, 3) := by decide +kernel
theorem dX5_takesConflict_101 : decode cX5_takesConflict 101 = .ok (.iload_n 2, 1) := by decide +kernel
theorem dX5_takesConflict_102 : decode cX5_takesConflict 102 = .ok (.aaload, 1) := by decide +kernel
theorem dX5_takesConflict_103 : decode cX5_takesConflict 103 = .ok (.dup, 1) := by decide +kernel
theorem dX5_takesConflict_104 : decode cX5_takesConflict 104 = .ok (.getfield 229, 3) := by decide +kernel
theorem dX5_takesConflict_107 : decode cX5_takesConflict 107 = .ok (.iconst 1, 1) := by decide +kernel
theorem dX5_takesConflict_108 : decode cX5_takesConflict 108 = .ok (.iload_n 1, 1) := by decide +kernel
theorem dX5_takesConflict_109 : decode cX5_takesConflict 109 = .ok (.ishl, 1) := by decide +kernel
theorem dX5_takesConflict_110 : decode cX5_takesConflict 110 = .ok (.ior, 1) := by decide +kernel
theorem dX5_takesConflict_111 : decode cX5_takesConflict 111 = .ok (.putfield 229, 3) := by decide +kernel
theorem dX5_takesConflict_114 : decode cX5_takesConflict 114 = .ok (.aload_n 0, 1) := by decide +kernel
theorem dX5_takesConflict_115 : decode cX5_takesConflict 115 = .ok (.getfield 12, 3) := by decide +kernel
theorem dX5_takesConflict_118 : decode cX5_takesConflict 118 = .ok (.invokevirtual 112, 3) := by decide +kernel
theorem dX5_takesConflict_121 : decode cX5_takesConflict 121 = .ok (.iconst 1, 1) := by decide +kernel
theorem dX5_takesConflict_122 : decode cX5_takesConflict 122 = .ok (.ireturn, 1) := by decide +kernel
theorem hd_X5_takesConflict : yX5_takesConflict.cls = RX5 ∧ yX5_takesConflict.cls ≠ "java/lang/invoke/MethodHandle" ∧ yX5_takesConflict.cls ≠ "java/lang/invoke/VarHandle" ∧ (parseMethodDescriptor yX5_takesConflict.desc).map (fun d => d.parameters.length) = some 0 := by decide +kernel
theorem hs_X5_takesConflict : yX5_takesConflict.cls ≠ "java/lang/invoke/MethodHandle" ∧ yX5_takesConflict.cls ≠ "java/lang/invoke/VarHandle" ∧ (parseMethodDescriptor yX5_takesConflict.desc).map (fun d => d.parameters.length) = some 0 := by decide +kernel
set_option maxHeartbeats 4000000 in
set_option maxRecDepth 100000 in
theorem k_X5_takesConflict (l : Launch) (E : Ev) (K : Kd) (z : Nat) (o : Nat) (w : Wd) (ho : K o = some (4, 0)) {r : Bool} {w' : Wd} (hf : f_X5_takesConflict K o w = some (r, w')) : Met l yX5_takesConflict (Cond.code yX5_takesConflict cX5_takesConflict 3 (Option.some Jvm.ClassFile.FieldType.boolean) :: bt) ({ frames := 2, cells := 0, slots := 0, locals := 44 } : Room) (va_Pc [rv E (some o)] (HB E K w z)) (QI E K z w' (b2i r)) 0 0 (hA E) := by
  refine Met.ofW (cc := cX5_takesConflict) (maxL := 3) (ret := (Option.some Jvm.ClassFile.FieldType.boolean)) (by decide) rfl ?_
  intro p e s m args below meth c s₁ B hml hv
  obtain ⟨rfl, hz, hP, hKs, hT, hb0⟩ := hv
  have C : CX p l e s m _ meth c cX5_takesConflict 3 RX5 (Option.some Jvm.ClassFile.FieldType.boolean) E := ⟨B.exec, B.bytes, hml, findClass_of_methodNamed B.named, fun w h => atoms_spec (ws := Cond.code yX5_takesConflict cX5_takesConflict 3 (Option.some Jvm.ClassFile.FieldType.boolean) :: bt) B.pre w (List.mem_cons_of_mem _ h), hKs, hT, by rw [hz]; exact hb0, B.notSynchronized, B.returns⟩
  have hH : HQ E K z w s s.heap [] := ⟨hP, va_S.rf, hz⟩
  obtain ⟨hx, hb, hml, hown, hts, hKs, hT, hb0, hlocks, hret⟩ := id C
  have hl := lv_entry [rv E (some o)] (n := 3) (by simp [lg_len_nil, lg_len_i, lg_len_j, lg_len_q, lg_len_f, lg_len_d, lg_len_r])
  rw [lg_entry_eq]
  generalize (lg_sl [rv E (some o)] ++ List.replicate (3 - (lg_sl [rv E (some o)]).length) Slot.unset).toArray = ls at hl ⊢
  replace hl : lv_has ls 3 [(0, rv E (some o))] := by simpa only [lv_args, cat_q, cat_i, cat_j, reduceIte, Nat.reduceEqDiff, Nat.reduceAdd, Nat.zero_add] using hl
  generalize s.heap = H at hH ⊢
  unfold f_X5_takesConflict at hf
  refine hl_aload_n hx hb dX5_takesConflict_0 rfl (lv_at hl 0 rfl) ?_
  refine g5_0 hx hb hts hown hKs hH rfl ho m2_30 dX5_takesConflict_1 ?_
  obtain ⟨a1, ha1, hf⟩ := bnd hf
  replace ha1 := chk_some ha1
  obtain ⟨q2, hq2, hf⟩ := bnd hf
  refine hcV_v hx hb hml hown hts hKs hT hb0 hH (As := []) (rest := []) (k_X8_advance l E K H.size a1 w ha1.2 hq2) (gV m3_100 m3_57 m3_58 m1_9 m3_59) hd_X8_advance ⟨Nat.le_of_ble_eq_true rfl, Nat.le_of_ble_eq_true rfl, rfl, rfl⟩ ha1.1 ha1.2 rfl rfl rfl hl.1 rfl rc0 rfl dX5_takesConflict_4 ⟨Nat.zero_le _, Nat.zero_le _⟩ (fun H locs hH => ?_)
  refine hl_aload_n hx hb dX5_takesConflict_7 rfl (lv_at hl 0 rfl) ?_
  refine lv_iconst (v := 3) hx hb dX5_takesConflict_8 (by decide) ?_
  obtain ⟨q3, hq3, hf⟩ := bnd hf
  refine hcV_i hx hb hml hown hts hKs hT hb0 hH (As := [.int 3]) (rest := []) (k_X5_seesToldName l E K H.size o 3 q2 ho hq3) (gV m3_189 m3_191 ms_14 m1_8 m3_192) hd_X5_seesToldName ⟨Nat.le_of_ble_eq_true rfl, Nat.le_of_ble_eq_true rfl, rfl, rfl⟩ rfl ho rfl rfl rfl hl.1 rfl rc0 rfl dX5_takesConflict_9 ⟨Nat.zero_le _, Nat.zero_le _⟩ (fun H locs hH => ?_)
  refine lv_if_ne (tgt := 17) hx hb dX5_takesConflict_12 (by decide) (fun c4 => ?_) (fun c4 => ?_)
  · replace hf := (if_neg c4).symm.trans hf
    refine hl_aload_n hx hb dX5_takesConflict_17 rfl (lv_at hl 0 rfl) ?_
    refine g5_4 hx hb hts hown hKs hH rfl ho m2_36 dX5_takesConflict_18 ?_
    refine lv_istore_n (i := 1) (lv' := [(1, .int ((wI q3.2 504 o))), (0, rv E (some o))]) hx hb dX5_takesConflict_21 rfl hl (by decide) rfl (fun ls hl => ?_)
    refine hl_aload_n hx hb dX5_takesConflict_22 rfl (lv_at hl 1 rfl) ?_
    refine g5_0 hx hb hts hown hKs hH rfl ho m2_30 dX5_takesConflict_23 ?_
    obtain ⟨a5, ha5, hf⟩ := bnd hf
    replace ha5 := chk_some ha5
    obtain ⟨q6, hq6, hf⟩ := bnd hf
    refine hcV_v hx hb hml hown hts hKs hT hb0 hH (As := []) (rest := []) (k_X8_advance l E K H.size a5 q3.2 ha5.2 hq6) (gV m3_100 m3_57 m3_58 m1_9 m3_59) hd_X8_advance ⟨Nat.le_of_ble_eq_true rfl, Nat.le_of_ble_eq_true rfl, rfl, rfl⟩ ha5.1 ha5.2 rfl rfl rfl hl.1 rfl rc0 rfl dX5_takesConflict_26 ⟨Nat.zero_le _, Nat.zero_le _⟩ (fun H locs hH => ?_)
    refine hl_aload_n hx hb dX5_takesConflict_29 rfl (lv_at hl 1 rfl) ?_
    refine lv_iconst (v := 3) hx hb dX5_takesConflict_30 (by decide) ?_
    obtain ⟨q7, hq7, hf⟩ := bnd hf
    refine hcV_i hx hb hml hown hts hKs hT hb0 hH (As := [.int 3]) (rest := []) (k_X5_seesToldName l E K H.size o 3 q6 ho hq7) (gV m3_189 m3_191 ms_14 m1_8 m3_192) hd_X5_seesToldName ⟨Nat.le_of_ble_eq_true rfl, Nat.le_of_ble_eq_true rfl, rfl, rfl⟩ rfl ho rfl rfl rfl hl.1 rfl rc0 rfl dX5_takesConflict_31 ⟨Nat.zero_le _, Nat.zero_le _⟩ (fun H locs hH => ?_)
    refine lv_if_ne (tgt := 39) hx hb dX5_takesConflict_34 (by decide) (fun c8 => ?_) (fun c8 => ?_)
    · replace hf := (if_neg c8).symm.trans hf
      refine hl_aload_n hx hb dX5_takesConflict_39 rfl (lv_at hl 1 rfl) ?_
      refine g5_4 hx hb hts hown hKs hH rfl ho m2_36 dX5_takesConflict_40 ?_
      refine lv_istore_n (i := 2) (lv' := [(2, .int ((wI q7.2 504 o))), (1, .int ((wI q3.2 504 o))), (0, rv E (some o))]) hx hb dX5_takesConflict_43 rfl hl (by decide) rfl (fun ls hl => ?_)
      refine lv_iload_n hx hb dX5_takesConflict_44 rfl (lv_at hl 0 rfl) ?_
      refine lv_iload_n hx hb dX5_takesConflict_45 rfl (lv_at hl 1 rfl) ?_
      refine lv_icmp_eq (tgt := 68) hx hb dX5_takesConflict_46 (by decide) (fun c9 => ?_) (fun c9 => ?_)
      · replace hf := (if_pos c9).symm.trans hf
        refine hl_aload_n hx hb dX5_takesConflict_68 rfl (lv_at hl 2 rfl) ?_
        refine lv_iconst (v := 3) hx hb dX5_takesConflict_69 (by decide) ?_
        obtain ⟨q10, hq10, hf⟩ := bnd hf
        refine hcV_i hx hb hml hown hts hKs hT hb0 hH (As := [.int 3]) (rest := []) (k_X5_fail l E K H.size o 3 q7.2 ho hq10) (gV m3_96 m3_98 ms_3 m1_8 m3_99) hd_X5_fail ⟨Nat.le_of_ble_eq_true rfl, Nat.le_of_ble_eq_true rfl, rfl, rfl⟩ rfl ho rfl rfl rfl hl.1 rfl rc0 rfl dX5_takesConflict_70 ⟨Nat.zero_le _, Nat.zero_le _⟩ (fun H locs hH => ?_)
        exact hw_zret hx hb hret rfl hf hH hlocks dX5_takesConflict_73
      · replace hf := (if_neg c9).symm.trans hf
        refine hl_aload_n hx hb dX5_takesConflict_49 rfl (lv_at hl 2 rfl) ?_
        refine g5_1 hx hb hts hown hKs hH rfl ho m2_31 dX5_takesConflict_50 ?_
        obtain ⟨a11, ha11, hf⟩ := bnd hf
        replace ha11 := chk_some ha11
        refine gn9_9 hx hb hts hown hKs hH ha11.1 ha11.2 m1_179 dX5_takesConflict_53 ?_
        refine lv_iload_n hx hb dX5_takesConflict_56 rfl (lv_at hl 1 rfl) ?_
        obtain ⟨a12, ha12, hf⟩ := bnd hf
        replace ha12 := cha_some ha12
        obtain ⟨j13, hj13, hf⟩ := bnd hf
        refine hw_aald25 hx hb hKs hH ha12.1 ha12.2 hj13 dX5_takesConflict_57 ?_
        obtain ⟨a14, ha14, hf⟩ := bnd hf
        replace ha14 := chk_some ha14
        refine gn3_5 hx hb hts hown hKs hH ha14.1 ha14.2 m1_113 dX5_takesConflict_58 ?_
        refine lv_iload_n hx hb dX5_takesConflict_61 rfl (lv_at hl 0 rfl) ?_
        obtain ⟨q15, hq15, hf⟩ := bnd hf
        refine hcM_i hx hb hml hown hts hKs hT hb0 hH (As := [.int ((wI q7.2 305 a14)), .int ((wI q7.2 504 o))]) (rest := []) (k_X12_has l E K H.size (wI q7.2 305 a14) (wI q7.2 504 o) q7.2 hq15) m3_193 m3_194 m1_1 m3_195 hs_X12_has ⟨Nat.le_of_ble_eq_true rfl, Nat.le_of_ble_eq_true rfl, rfl, rfl⟩ hl.1 rfl rc0 rfl dX5_takesConflict_62 ⟨Nat.zero_le _, Nat.zero_le _⟩ (fun H locs hH => ?_)
        refine lv_if_eq (tgt := 74) hx hb dX5_takesConflict_65 (by decide) (fun c16 => ?_) (fun c16 => ?_)
        · replace hf := (if_pos c16).symm.trans hf
          refine hl_aload_n hx hb dX5_takesConflict_74 rfl (lv_at hl 2 rfl) ?_
          refine g5_1 hx hb hts hown hKs hH rfl ho m2_31 dX5_takesConflict_75 ?_
          obtain ⟨a17, ha17, hf⟩ := bnd hf
          replace ha17 := chk_some ha17
          refine gn9_9 hx hb hts hown hKs hH ha17.1 ha17.2 m1_179 dX5_takesConflict_78 ?_
          refine lv_iload_n hx hb dX5_takesConflict_81 rfl (lv_at hl 1 rfl) ?_
          obtain ⟨a18, ha18, hf⟩ := bnd hf
          replace ha18 := cha_some ha18
          obtain ⟨j19, hj19, hf⟩ := bnd hf
          refine hw_aald25 hx hb hKs hH ha18.1 ha18.2 hj19 dX5_takesConflict_82 ?_
          refine lv_dup hx hb dX5_takesConflict_83 rv_cat ?_
          obtain ⟨a20, ha20, hf⟩ := bnd hf
          replace ha20 := chk_some ha20
          refine gn3_5 hx hb hts hown hKs hH ha20.1 ha20.2 m1_113 dX5_takesConflict_84 ?_
          refine lv_iconst (v := 1) hx hb dX5_takesConflict_87 (by decide) ?_
          refine lv_iload_n hx hb dX5_takesConflict_88 rfl (lv_at hl 0 rfl) ?_
          refine lv_ishl hx hb dX5_takesConflict_89 ?_
          refine lv_ior hx hb dX5_takesConflict_90 ?_
          obtain ⟨w21, hw21, hf⟩ := bnd hf
          replace hw21 := Option.some.inj hw21
          refine pn3_5 (v := ((wI q15.2 305 a20) ||| (1 <<< ((wI q7.2 504 o) &&& 31)))) hx hb hts hown hKs hH ha20.1 ha20.2 m1_113 dX5_takesConflict_91 (fun H locs hH => ?_)
          rw [hw21] at hH
          refine hl_aload_n hx hb dX5_takesConflict_94 rfl (lv_at hl 2 rfl) ?_
          refine g5_1 hx hb hts hown hKs hH rfl ho m2_31 dX5_takesConflict_95 ?_
          obtain ⟨a22, ha22, hf⟩ := bnd hf
          replace ha22 := chk_some ha22
          refine gn9_9 hx hb hts hown hKs hH ha22.1 ha22.2 m1_179 dX5_takesConflict_98 ?_
          refine lv_iload_n hx hb dX5_takesConflict_101 rfl (lv_at hl 0 rfl) ?_
          obtain ⟨a23, ha23, hf⟩ := bnd hf
          replace ha23 := cha_some ha23
          obtain ⟨j24, hj24, hf⟩ := bnd hf
          refine hw_aald25 hx hb hKs hH ha23.1 ha23.2 hj24 dX5_takesConflict_102 ?_
          refine lv_dup hx hb dX5_takesConflict_103 rv_cat ?_
          obtain ⟨a25, ha25, hf⟩ := bnd hf
          replace ha25 := chk_some ha25
          refine gn3_5 hx hb hts hown hKs hH ha25.1 ha25.2 m1_113 dX5_takesConflict_104 ?_
          refine lv_iconst (v := 1) hx hb dX5_takesConflict_107 (by decide) ?_
          refine lv_iload_n hx hb dX5_takesConflict_108 rfl (lv_at hl 1 rfl) ?_
          refine lv_ishl hx hb dX5_takesConflict_109 ?_
          refine lv_ior hx hb dX5_takesConflict_110 ?_
          obtain ⟨w26, hw26, hf⟩ := bnd hf
          replace hw26 := Option.some.inj hw26
          refine pn3_5 (v := ((wI w21 305 a25) ||| (1 <<< ((wI q3.2 504 o) &&& 31)))) hx hb hts hown hKs hH ha25.1 ha25.2 m1_113 dX5_takesConflict_111 (fun H locs hH => ?_)
          rw [hw26] at hH
          refine hl_aload_n hx hb dX5_takesConflict_114 rfl (lv_at hl 2 rfl) ?_
          refine g5_0 hx hb hts hown hKs hH rfl ho m2_30 dX5_takesConflict_115 ?_
          obtain ⟨a27, ha27, hf⟩ := bnd hf
          replace ha27 := chk_some ha27
          obtain ⟨q28, hq28, hf⟩ := bnd hf
          refine hcV_v hx hb hml hown hts hKs hT hb0 hH (As := []) (rest := []) (k_X8_advance l E K H.size a27 w26 ha27.2 hq28) (gV m3_100 m3_57 m3_58 m1_9 m3_59) hd_X8_advance ⟨Nat.le_of_ble_eq_true rfl, Nat.le_of_ble_eq_true rfl, rfl, rfl⟩ ha27.1 ha27.2 rfl rfl rfl hl.1 rfl rc0 rfl dX5_takesConflict_118 ⟨Nat.zero_le _, Nat.zero_le _⟩ (fun H locs hH => ?_)
          refine lv_iconst (v := 1) hx hb dX5_takesConflict_121 (by decide) ?_
          exact hw_zret hx hb hret rfl hf hH hlocks dX5_takesConflict_122
        · replace hf := (if_neg c16).symm.trans hf
          refine hl_aload_n hx hb dX5_takesConflict_68 rfl (lv_at hl 2 rfl) ?_
          refine lv_iconst (v := 3) hx hb dX5_takesConflict_69 (by decide) ?_
          obtain ⟨q29, hq29, hf⟩ := bnd hf
          refine hcV_i hx hb hml hown hts hKs hT hb0 hH (As := [.int 3]) (rest := []) (k_X5_fail l E K H.size o 3 q15.2 ho hq29) (gV m3_96 m3_98 ms_3 m1_8 m3_99) hd_X5_fail ⟨Nat.le_of_ble_eq_true rfl, Nat.le_of_ble_eq_true rfl, rfl, rfl⟩ rfl ho rfl rfl rfl hl.1 rfl rc0 rfl dX5_takesConflict_70 ⟨Nat.zero_le _, Nat.zero_le _⟩ (fun H locs hH => ?_)
          exact hw_zret hx hb hret rfl hf hH hlocks dX5_takesConflict_73
    · replace hf := (if_pos c8).symm.trans hf
      refine lv_iconst (v := 0) hx hb dX5_takesConflict_37 (by decide) ?_
      exact hw_zret hx hb hret rfl hf hH hlocks dX5_takesConflict_38
  · replace hf := (if_pos c4).symm.trans hf
    refine lv_iconst (v := 0) hx hb dX5_takesConflict_15 (by decide) ?_
    exact hw_zret hx hb hret rfl hf hH hlocks dX5_takesConflict_16

theorem dX5_takes_0 : decode cX5_takes 0 = .ok (.aload_n 0, 1) := by decide +kernel
theorem dX5_takes_1 : decode cX5_takes 1 = .ok (.getfield 12, 3) := by decide +kernel
theorem dX5_takes_4 : decode cX5_takes 4 = .ok (.getfield 39, 3) := by decide +kernel
theorem dX5_takes_7 : decode cX5_takes 7 = .ok (.aload_n 1, 1) := by decide +kernel
theorem dX5_takes_8 : decode cX5_takes 8 = .ok (.if_acmp .eq 9, 3) := by decide +kernel
theorem dX5_takes_11 : decode cX5_takes 11 = .ok (.aload_n 0, 1) := by decide +kernel
theorem dX5_takes_12 : decode cX5_takes 12 = .ok (.iconst 1, 1) := by decide +kernel
theorem dX5_takes_13 : decode cX5_takes 13 = .ok (.invokevirtual 99, 3) := by decide +kernel
theorem dX5_takes_16 : decode cX5_takes 16 = .ok (.ireturn, 1) := by decide +kernel
theorem dX5_takes_17 : decode cX5_takes 17 = .ok (.aload_n 0, 1) := by decide +kernel
theorem dX5_takes_18 : decode cX5_takes 18 = .ok (.getfield 12, 3) := by decide +kernel
theorem dX5_takes_21 : decode cX5_takes 21 = .ok (.invokevirtual 112, 3) := by decide +kernel
theorem dX5_takes_24 : decode cX5_takes 24 = .ok (.iconst 1, 1) := by decide +kernel
theorem dX5_takes_25 : decode cX5_takes 25 = .ok (.ireturn, 1) := by decide +kernel
theorem hd_X5_takes : yX5_takes.cls = RX5 ∧ yX5_takes.cls ≠ "java/lang/invoke/MethodHandle" ∧ yX5_takes.cls ≠ "java/lang/invoke/VarHandle" ∧ (parseMethodDescriptor yX5_takes.desc).map (fun d => d.parameters.length) = some 1 := by decide +kernel
theorem hs_X5_takes : yX5_takes.cls ≠ "java/lang/invoke/MethodHandle" ∧ yX5_takes.cls ≠ "java/lang/invoke/VarHandle" ∧ (parseMethodDescriptor yX5_takes.desc).map (fun d => d.parameters.length) = some 1 := by decide +kernel
set_option maxHeartbeats 4000000 in
set_option maxRecDepth 100000 in
theorem k_X5_takes (l : Launch) (E : Ev) (K : Kd) (z : Nat) (o : Nat) (a_1 : Option Nat) (w : Wd) (ho : K o = some (4, 0)) {r : Bool} {w' : Wd} (hf : f_X5_takes K o a_1 w = some (r, w')) : Met l yX5_takes (Cond.code yX5_takes cX5_takes 2 (Option.some Jvm.ClassFile.FieldType.boolean) :: bt) ({ frames := 2, cells := 0, slots := 0, locals := 42 } : Room) (va_Pc [rv E (some o), re E a_1] (HB E K w z)) (QI E K z w' (b2i r)) 0 0 (hA E) := by
  refine Met.ofW (cc := cX5_takes) (maxL := 2) (ret := (Option.some Jvm.ClassFile.FieldType.boolean)) (by decide) rfl ?_
  intro p e s m args below meth c s₁ B hml hv
  obtain ⟨rfl, hz, hP, hKs, hT, hb0⟩ := hv
  have C : CX p l e s m _ meth c cX5_takes 2 RX5 (Option.some Jvm.ClassFile.FieldType.boolean) E := ⟨B.exec, B.bytes, hml, findClass_of_methodNamed B.named, fun w h => atoms_spec (ws := Cond.code yX5_takes cX5_takes 2 (Option.some Jvm.ClassFile.FieldType.boolean) :: bt) B.pre w (List.mem_cons_of_mem _ h), hKs, hT, by rw [hz]; exact hb0, B.notSynchronized, B.returns⟩
  have hH : HQ E K z w s s.heap [] := ⟨hP, va_S.rf, hz⟩
  obtain ⟨hx, hb, hml, hown, hts, hKs, hT, hb0, hlocks, hret⟩ := id C
  have hl := lv_entry [rv E (some o), re E a_1] (n := 2) (by simp [lg_len_nil, lg_len_i, lg_len_j, lg_len_q, lg_len_f, lg_len_d, lg_len_r])
  rw [lg_entry_eq]
  generalize (lg_sl [rv E (some o), re E a_1] ++ List.replicate (2 - (lg_sl [rv E (some o), re E a_1]).length) Slot.unset).toArray = ls at hl ⊢
  replace hl : lv_has ls 2 [(0, rv E (some o)), (1, re E a_1)] := by simpa only [lv_args, cat_q, cat_i, cat_j, reduceIte, Nat.reduceEqDiff, Nat.reduceAdd, Nat.zero_add] using hl
  generalize s.heap = H at hH ⊢
  unfold f_X5_takes at hf
  refine hl_aload_n hx hb dX5_takes_0 rfl (lv_at hl 0 rfl) ?_
  refine g5_0 hx hb hts hown hKs hH rfl ho m2_30 dX5_takes_1 ?_
  obtain ⟨a1, ha1, hf⟩ := bnd hf
  replace ha1 := chk_some ha1
  refine gn8_4 hx hb hts hown hKs hH ha1.1 ha1.2 m2_7 dX5_takes_4 ?_
  refine hl_aload_n hx hb dX5_takes_7 rfl (lv_at hl 1 rfl) ?_
  obtain ⟨_, hg2, hf⟩ := bnd hf
  obtain ⟨_, hg3, hf⟩ := bnd hf
  refine hw_acmp_eq (tgt := 17) hx hb hT (grd_some hg2) (grd_some hg3) dX5_takes_8 (by decide) (fun c4 => ?_) (fun c4 => ?_)
  · replace hf := (if_pos c4).symm.trans hf
    refine hl_aload_n hx hb dX5_takes_17 rfl (lv_at hl 0 rfl) ?_
    refine g5_0 hx hb hts hown hKs hH rfl ho m2_30 dX5_takes_18 ?_
    obtain ⟨q5, hq5, hf⟩ := bnd hf
    refine hcV_v hx hb hml hown hts hKs hT hb0 hH (As := []) (rest := []) (k_X8_advance l E K H.size a1 w ha1.2 hq5) (gV m3_100 m3_57 m3_58 m1_9 m3_59) hd_X8_advance ⟨Nat.le_of_ble_eq_true rfl, Nat.le_of_ble_eq_true rfl, rfl, rfl⟩ ha1.1 ha1.2 rfl rfl rfl hl.1 rfl rc0 rfl dX5_takes_21 ⟨Nat.zero_le _, Nat.zero_le _⟩ (fun H locs hH => ?_)
    refine lv_iconst (v := 1) hx hb dX5_takes_24 (by decide) ?_
    exact hw_zret hx hb hret rfl hf hH hlocks dX5_takes_25
  · replace hf := (if_neg c4).symm.trans hf
    refine hl_aload_n hx hb dX5_takes_11 rfl (lv_at hl 0 rfl) ?_
    refine lv_iconst (v := 1) hx hb dX5_takes_12 (by decide) ?_
    obtain ⟨q6, hq6, hf⟩ := bnd hf
    refine hcV_i hx hb hml hown hts hKs hT hb0 hH (As := [.int 1]) (rest := []) (k_X5_fail l E K H.size o 1 w ho hq6) (gV m3_96 m3_98 ms_3 m1_8 m3_99) hd_X5_fail ⟨Nat.le_of_ble_eq_true rfl, Nat.le_of_ble_eq_true rfl, rfl, rfl⟩ rfl ho rfl rfl rfl hl.1 rfl rc0 rfl dX5_takes_13 ⟨Nat.zero_le _, Nat.zero_le _⟩ (fun H locs hH => ?_)
    exact hw_zret hx hb hret rfl hf hH hlocks dX5_takes_16

theorem dX5_takesNewName_0 : decode cX5_takesNewName 0 = .ok (.aload_n 0, 1) := by decide +kernel
theorem dX5_takesNewName_1 : decode cX5_takesNewName 1 = .ok (.getfield 21, 3) := by decide +kernel
theorem dX5_takesNewName_4 : decode cX5_takesNewName 4 = .ok (.getfield 244, 3) := by decide +kernel
theorem dX5_takesNewName_7 : decode cX5_takesNewName 7 = .ok (.iload_n 1, 1) := by decide +kernel
theorem dX5_takesNewName_8 : decode cX5_takesNewName 8 = .ok (.aaload, 1) := by decide +kernel
theorem dX5_takesNewName_9 : decode cX5_takesNewName 9 = .ok (.astore_n 2, 1) := by decide +kernel
theorem dX5_takesNewName_10 : decode cX5_takesNewName 10 = .ok (.aload_n 2, 1) := by decide +kernel
theorem dX5_takesNewName_11 : decode cX5_takesNewName 11 = .ok (.invokevirtual 248, 3) := by decide +kernel
theorem dX5_takesNewName_14 : decode cX5_takesNewName 14 = .ok (.ifCond .eq 9, 3) := by decide +kernel
theorem dX5_takesNewName_17 : decode cX5_takesNewName 17 = .ok (.aload_n 0, 1) := by decide +kernel
theorem dX5_takesNewName_18 : decode cX5_takesNewName 18 = .ok (.iconst 4, 1) := by decide +kernel
theorem dX5_takesNewName_19 : decode cX5_takesNewName 19 = .ok (.invokevirtual 99, 3) := by decide +kernel
theorem dX5_takesNewName_22 : decode cX5_takesNewName 22 = .ok (.ireturn, 1) := by decide +kernel
theorem dX5_takesNewName_23 : decode cX5_takesNewName 23 = .ok (.aload_n 0, 1) := by decide +kernel
theorem dX5_takesNewName_24 : decode cX5_takesNewName 24 = .ok (.getfield 12, 3) := by decide +kernel
theorem dX5_takesNewName_27 : decode cX5_takesNewName 27 = .ok (.invokevirtual 112, 3) := by decide +kernel
theorem dX5_takesNewName_30 : decode cX5_takesNewName 30 = .ok (.aload_n 0, 1) := by decide +kernel
theorem dX5_takesNewName_31 : decode cX5_takesNewName 31 = .ok (.getfield 12, 3) := by decide +kernel
theorem dX5_takesNewName_34 : decode cX5_takesNewName 34 = .ok (.getfield 39, 3) := by decide +kernel
theorem dX5_takesNewName_37 : decode cX5_takesNewName 37 = .ok (.getstatic 253, 3) := by decide +kernel
theorem dX5_takesNewName_40 : decode cX5_takesNewName 40 = .ok (.if_acmp .eq 9, 3) := by decide +kernel
theorem dX5_takesNewName_43 : decode cX5_takesNewName 43 = .ok (.aload_n 0, 1) := by decide +kernel
theorem dX5_takesNewName_44 : decode cX5_takesNewName 44 = .ok (.iconst 1, 1) := by decide +kernel
theorem dX5_takesNewName_45 : decode cX5_takesNewName 45 = .ok (.invokevirtual 99, 3) := by decide +kernel
theorem dX5_takesNewName_48 : decode cX5_takesNewName 48 = .ok (.ireturn, 1) := by decide +kernel
theorem dX5_takesNewName_49 : decode cX5_takesNewName 49 = .ok (.aload_n 2, 1) := by decide +kernel
theorem dX5_takesNewName_50 : decode cX5_takesNewName 50 = .ok (.aload_n 0, 1) := by decide +kernel
theorem dX5_takesNewName_51 : decode cX5_takesNewName 51 = .ok (.getfield 12, 3) := by decide +kernel
theorem dX5_takesNewName_54 : decode cX5_takesNewName 54 = .ok (.getfield 256, 3) := by decide +kernel
theorem dX5_takesNewName_57 : decode cX5_takesNewName 57 = .ok (.invokevirtual 260, 3) := by decide +kernel
theorem dX5_takesNewName_60 : decode cX5_takesNewName 60 = .ok (.iconst (-1), 1) := by decide +kernel
theorem dX5_takesNewName_61 : decode cX5_takesNewName 61 = .ok (.if_icmp .eq 9, 3) := by decide +kernel
theorem dX5_takesNewName_64 : decode cX5_takesNewName 64 = .ok (.aload_n 0, 1) := by decide +kernel
theorem dX5_takesNewName_65 : decode cX5_takesNewName 65 = .ok (.iconst 3, 1) := by decide +kernel
theorem dX5_takesNewName_66 : decode cX5_takesNewName 66 = .ok (.invokevirtual 99, 3) := by decide +kernel
theorem dX5_takesNewName_69 : decode cX5_takesNewName 69 = .ok (.ireturn, 1) := by decide +kernel
theorem dX5_takesNewName_70 : decode cX5_takesNewName 70 = .ok (.aload_n 2, 1) := by decide +kernel
theorem dX5_takesNewName_71 : decode cX5_takesNewName 71 = .ok (.aload_n 0, 1) := by decide +kernel
theorem dX5_takesNewName_72 : decode cX5_takesNewName 72 = .ok (.getfield 12, 3) := by decide +kernel
theorem dX5_takesNewName_75 : decode cX5_takesNewName 75 = .ok (.getfield 256, 3) := by decide +kernel
theorem dX5_takesNewName_78 : decode cX5_takesNewName 78 = .ok (.invokevirtual 264, 3) := by decide +kernel
theorem dX5_takesNewName_81 : decode cX5_takesNewName 81 = .ok (.aload_n 0, 1) := by decide +kernel
theorem dX5_takesNewName_82 : decode cX5_takesNewName 82 = .ok (.getfield 12, 3) := by decide +kernel
theorem dX5_takesNewName_85 : decode cX5_takesNewName 85 = .ok (.invokevirtual 112, 3) := by decide +kernel
theorem dX5_takesNewName_88 : decode cX5_takesNewName 88 = .ok (.iconst 1, 1) := by decide +kernel
theorem dX5_takesNewName_89 : decode cX5_takesNewName 89 = .ok (.ireturn, 1) := by decide +kernel
theorem hd_X5_takesNewName : yX5_takesNewName.cls = RX5 ∧ yX5_takesNewName.cls ≠ "java/lang/invoke/MethodHandle" ∧ yX5_takesNewName.cls ≠ "java/lang/invoke/VarHandle" ∧ (parseMethodDescriptor yX5_takesNewName.desc).map (fun d => d.parameters.length) = some 1 := by decide +kernel
theorem hs_X5_takesNewName : yX5_takesNewName.cls ≠ "java/lang/invoke/MethodHandle" ∧ yX5_takesNewName.cls ≠ "java/lang/invoke/VarHandle" ∧ (parseMethodDescriptor yX5_takesNewName.desc).map (fun d => d.parameters.length) = some 1 := by decide +kernel
set_option maxHeartbeats 4000000 in
set_option maxRecDepth 100000 in
theorem k_X5_takesNewName (l : Launch) (E : Ev) (K : Kd) (z : Nat) (o : Nat) (a_1 : Int32) (w : Wd) (ho : K o = some (4, 0)) {r : Bool} {w' : Wd} (hf : f_X5_takesNewName K o a_1 w = some (r, w')) : Met l yX5_takesNewName (Cond.code yX5_takesNewName cX5_takesNewName 3 (Option.some Jvm.ClassFile.FieldType.boolean) :: bt) ({ frames := 2, cells := 0, slots := 0, locals := 42 } : Room) (va_Pc [rv E (some o), .int a_1] (HB E K w z)) (QI E K z w' (b2i r)) 0 0 (hA E) := by
  refine Met.ofW (cc := cX5_takesNewName) (maxL := 3) (ret := (Option.some Jvm.ClassFile.FieldType.boolean)) (by decide) rfl ?_
  intro p e s m args below meth c s₁ B hml hv
  obtain ⟨rfl, hz, hP, hKs, hT, hb0⟩ := hv
  have C : CX p l e s m _ meth c cX5_takesNewName 3 RX5 (Option.some Jvm.ClassFile.FieldType.boolean) E := ⟨B.exec, B.bytes, hml, findClass_of_methodNamed B.named, fun w h => atoms_spec (ws := Cond.code yX5_takesNewName cX5_takesNewName 3 (Option.some Jvm.ClassFile.FieldType.boolean) :: bt) B.pre w (List.mem_cons_of_mem _ h), hKs, hT, by rw [hz]; exact hb0, B.notSynchronized, B.returns⟩
  have hH : HQ E K z w s s.heap [] := ⟨hP, va_S.rf, hz⟩
  obtain ⟨hx, hb, hml, hown, hts, hKs, hT, hb0, hlocks, hret⟩ := id C
  have hl := lv_entry [rv E (some o), .int a_1] (n := 3) (by simp [lg_len_nil, lg_len_i, lg_len_j, lg_len_q, lg_len_f, lg_len_d, lg_len_r])
  rw [lg_entry_eq]
  generalize (lg_sl [rv E (some o), .int a_1] ++ List.replicate (3 - (lg_sl [rv E (some o), .int a_1]).length) Slot.unset).toArray = ls at hl ⊢
  replace hl : lv_has ls 3 [(0, rv E (some o)), (1, .int a_1)] := by simpa only [lv_args, cat_q, cat_i, cat_j, reduceIte, Nat.reduceEqDiff, Nat.reduceAdd, Nat.zero_add] using hl
  generalize s.heap = H at hH ⊢
  unfold f_X5_takesNewName at hf
  refine hl_aload_n hx hb dX5_takesNewName_0 rfl (lv_at hl 0 rfl) ?_
  refine g5_1 hx hb hts hown hKs hH rfl ho m2_31 dX5_takesNewName_1 ?_
  obtain ⟨a1, ha1, hf⟩ := bnd hf
  replace ha1 := chk_some ha1
  refine gn9_0 hx hb hts hown hKs hH ha1.1 ha1.2 m1_152 dX5_takesNewName_4 ?_
  refine lv_iload_n hx hb dX5_takesNewName_7 rfl (lv_at hl 1 rfl) ?_
  obtain ⟨a2, ha2, hf⟩ := bnd hf
  replace ha2 := cha_some ha2
  obtain ⟨j3, hj3, hf⟩ := bnd hf
  refine hw_aald26 hx hb hKs hH ha2.1 ha2.2 hj3 dX5_takesNewName_8 ?_
  refine hl_astore_n (i := 2) (lv' := [(2, rv E (aR w a2.1 j3)), (0, rv E (some o)), (1, .int a_1)]) hx hb dX5_takesNewName_9 rfl hl (by decide) rfl (fun ls hl => ?_)
  refine hl_aload_n hx hb dX5_takesNewName_10 rfl (lv_at hl 0 rfl) ?_
  obtain ⟨a4, ha4, hf⟩ := bnd hf
  replace ha4 := chk_some ha4
  obtain ⟨q5, hq5, hf⟩ := bnd hf
  refine hcV_i hx hb hml hown hts hKs hT hb0 hH (As := []) (rest := []) (k_X4_isFull l E K H.size a4 w ha4.2 hq5) (gV m3_123 m3_124 m3_125 m1_4 m3_126) hd_X4_isFull ⟨Nat.le_of_ble_eq_true rfl, Nat.le_of_ble_eq_true rfl, rfl, rfl⟩ ha4.1 ha4.2 rfl rfl rfl hl.1 rfl rc0 rfl dX5_takesNewName_11 ⟨Nat.zero_le _, Nat.zero_le _⟩ (fun H locs hH => ?_)
  refine lv_if_eq (tgt := 23) hx hb dX5_takesNewName_14 (by decide) (fun c6 => ?_) (fun c6 => ?_)
  · replace hf := (if_pos c6).symm.trans hf
    refine hl_aload_n hx hb dX5_takesNewName_23 rfl (lv_at hl 1 rfl) ?_
    refine g5_0 hx hb hts hown hKs hH rfl ho m2_30 dX5_takesNewName_24 ?_
    obtain ⟨a7, ha7, hf⟩ := bnd hf
    replace ha7 := chk_some ha7
    obtain ⟨q8, hq8, hf⟩ := bnd hf
    refine hcV_v hx hb hml hown hts hKs hT hb0 hH (As := []) (rest := []) (k_X8_advance l E K H.size a7 q5.2 ha7.2 hq8) (gV m3_100 m3_57 m3_58 m1_9 m3_59) hd_X8_advance ⟨Nat.le_of_ble_eq_true rfl, Nat.le_of_ble_eq_true rfl, rfl, rfl⟩ ha7.1 ha7.2 rfl rfl rfl hl.1 rfl rc0 rfl dX5_takesNewName_27 ⟨Nat.zero_le _, Nat.zero_le _⟩ (fun H locs hH => ?_)
    refine hl_aload_n hx hb dX5_takesNewName_30 rfl (lv_at hl 1 rfl) ?_
    refine g5_0 hx hb hts hown hKs hH rfl ho m2_30 dX5_takesNewName_31 ?_
    obtain ⟨a9, ha9, hf⟩ := bnd hf
    replace ha9 := chk_some ha9
    refine gn8_4 hx hb hts hown hKs hH ha9.1 ha9.2 m2_7 dX5_takesNewName_34 ?_
    refine hw_tok hx hb 16 (by decide) hts hown hT hH m3_127 dX5_takesNewName_37 ?_
    obtain ⟨_, hg10, hf⟩ := bnd hf
    refine hw_acmp_eq (tgt := 49) hx hb hT (grd_some hg10) rfl dX5_takesNewName_40 (by decide) (fun c11 => ?_) (fun c11 => ?_)
    · replace hf := (if_pos c11).symm.trans hf
      refine hl_aload_n hx hb dX5_takesNewName_49 rfl (lv_at hl 0 rfl) ?_
      refine hl_aload_n hx hb dX5_takesNewName_50 rfl (lv_at hl 1 rfl) ?_
      refine g5_0 hx hb hts hown hKs hH rfl ho m2_30 dX5_takesNewName_51 ?_
      refine gn8_5 hx hb hts hown hKs hH ha9.1 ha9.2 m2_9 dX5_takesNewName_54 ?_
      obtain ⟨q12, hq12, hf⟩ := bnd hf
      refine hcV_i hx hb hml hown hts hKs hT hb0 hH (As := [.long (wJ q8 805 a9)]) (rest := []) (k_X4_indexOf l E K H.size a4 (wJ q8 805 a9) q8 ha4.2 hq12) (gV m3_128 m3_129 m3_130 m1_4 m3_131) hd_X4_indexOf ⟨Nat.le_of_ble_eq_true rfl, Nat.le_of_ble_eq_true rfl, rfl, rfl⟩ ha4.1 ha4.2 rfl rfl rfl hl.1 rfl rc0 rfl dX5_takesNewName_57 ⟨Nat.zero_le _, Nat.zero_le _⟩ (fun H locs hH => ?_)
      refine lv_iconst (v := (-1)) hx hb dX5_takesNewName_60 (by decide) ?_
      refine lv_icmp_eq (tgt := 70) hx hb dX5_takesNewName_61 (by decide) (fun c13 => ?_) (fun c13 => ?_)
      · replace hf := (if_pos c13).symm.trans hf
        refine hl_aload_n hx hb dX5_takesNewName_70 rfl (lv_at hl 0 rfl) ?_
        refine hl_aload_n hx hb dX5_takesNewName_71 rfl (lv_at hl 1 rfl) ?_
        refine g5_0 hx hb hts hown hKs hH rfl ho m2_30 dX5_takesNewName_72 ?_
        obtain ⟨a14, ha14, hf⟩ := bnd hf
        replace ha14 := chk_some ha14
        refine gn8_5 hx hb hts hown hKs hH ha14.1 ha14.2 m2_9 dX5_takesNewName_75 ?_
        obtain ⟨q15, hq15, hf⟩ := bnd hf
        refine hcV_v hx hb hml hown hts hKs hT hb0 hH (As := [.long (wJ q12.2 805 a14)]) (rest := []) (k_X4_add l E K H.size a4 (wJ q12.2 805 a14) q12.2 ha4.2 hq15) (gV m3_132 m3_133 m3_134 m1_4 m3_135) hd_X4_add ⟨Nat.le_of_ble_eq_true rfl, Nat.le_of_ble_eq_true rfl, rfl, rfl⟩ ha4.1 ha4.2 rfl rfl rfl hl.1 rfl rc0 rfl dX5_takesNewName_78 ⟨Nat.zero_le _, Nat.zero_le _⟩ (fun H locs hH => ?_)
        refine hl_aload_n hx hb dX5_takesNewName_81 rfl (lv_at hl 1 rfl) ?_
        refine g5_0 hx hb hts hown hKs hH rfl ho m2_30 dX5_takesNewName_82 ?_
        obtain ⟨a16, ha16, hf⟩ := bnd hf
        replace ha16 := chk_some ha16
        obtain ⟨q17, hq17, hf⟩ := bnd hf
        refine hcV_v hx hb hml hown hts hKs hT hb0 hH (As := []) (rest := []) (k_X8_advance l E K H.size a16 q15 ha16.2 hq17) (gV m3_100 m3_57 m3_58 m1_9 m3_59) hd_X8_advance ⟨Nat.le_of_ble_eq_true rfl, Nat.le_of_ble_eq_true rfl, rfl, rfl⟩ ha16.1 ha16.2 rfl rfl rfl hl.1 rfl rc0 rfl dX5_takesNewName_85 ⟨Nat.zero_le _, Nat.zero_le _⟩ (fun H locs hH => ?_)
        refine lv_iconst (v := 1) hx hb dX5_takesNewName_88 (by decide) ?_
        exact hw_zret hx hb hret rfl hf hH hlocks dX5_takesNewName_89
      · replace hf := (if_neg c13).symm.trans hf
        refine hl_aload_n hx hb dX5_takesNewName_64 rfl (lv_at hl 1 rfl) ?_
        refine lv_iconst (v := 3) hx hb dX5_takesNewName_65 (by decide) ?_
        obtain ⟨q18, hq18, hf⟩ := bnd hf
        refine hcV_i hx hb hml hown hts hKs hT hb0 hH (As := [.int 3]) (rest := []) (k_X5_fail l E K H.size o 3 q12.2 ho hq18) (gV m3_96 m3_98 ms_3 m1_8 m3_99) hd_X5_fail ⟨Nat.le_of_ble_eq_true rfl, Nat.le_of_ble_eq_true rfl, rfl, rfl⟩ rfl ho rfl rfl rfl hl.1 rfl rc0 rfl dX5_takesNewName_66 ⟨Nat.zero_le _, Nat.zero_le _⟩ (fun H locs hH => ?_)
        exact hw_zret hx hb hret rfl hf hH hlocks dX5_takesNewName_69
    · replace hf := (if_neg c11).symm.trans hf
      refine hl_aload_n hx hb dX5_takesNewName_43 rfl (lv_at hl 1 rfl) ?_
      refine lv_iconst (v := 1) hx hb dX5_takesNewName_44 (by decide) ?_
      obtain ⟨q19, hq19, hf⟩ := bnd hf
      refine hcV_i hx hb hml hown hts hKs hT hb0 hH (As := [.int 1]) (rest := []) (k_X5_fail l E K H.size o 1 q8 ho hq19) (gV m3_96 m3_98 ms_3 m1_8 m3_99) hd_X5_fail ⟨Nat.le_of_ble_eq_true rfl, Nat.le_of_ble_eq_true rfl, rfl, rfl⟩ rfl ho rfl rfl rfl hl.1 rfl rc0 rfl dX5_takesNewName_45 ⟨Nat.zero_le _, Nat.zero_le _⟩ (fun H locs hH => ?_)
      exact hw_zret hx hb hret rfl hf hH hlocks dX5_takesNewName_48
  · replace hf := (if_neg c6).symm.trans hf
    refine hl_aload_n hx hb dX5_takesNewName_17 rfl (lv_at hl 1 rfl) ?_
    refine lv_iconst (v := 4) hx hb dX5_takesNewName_18 (by decide) ?_
    obtain ⟨q20, hq20, hf⟩ := bnd hf
    refine hcV_i hx hb hml hown hts hKs hT hb0 hH (As := [.int 4]) (rest := []) (k_X5_fail l E K H.size o 4 q5.2 ho hq20) (gV m3_96 m3_98 ms_3 m1_8 m3_99) hd_X5_fail ⟨Nat.le_of_ble_eq_true rfl, Nat.le_of_ble_eq_true rfl, rfl, rfl⟩ rfl ho rfl rfl rfl hl.1 rfl rc0 rfl dX5_takesNewName_19 ⟨Nat.zero_le _, Nat.zero_le _⟩ (fun H locs hH => ?_)
    exact hw_zret hx hb hret rfl hf hH hlocks dX5_takesNewName_22

theorem dX5_takesNumber_0 : decode cX5_takesNumber 0 = .ok (.aload_n 0, 1) := by decide +kernel
theorem dX5_takesNumber_1 : decode cX5_takesNumber 1 = .ok (.iload_n 1, 1) := by decide +kernel
theorem dX5_takesNumber_2 : decode cX5_takesNumber 2 = .ok (.iload_n 2, 1) := by decide +kernel
theorem dX5_takesNumber_3 : decode cX5_takesNumber 3 = .ok (.invokevirtual 115, 3) := by decide +kernel
theorem dX5_takesNumber_6 : decode cX5_takesNumber 6 = .ok (.ifCond .ne 5, 3) := by decide +kernel
theorem dX5_takesNumber_9 : decode cX5_takesNumber 9 = .ok (.iconst 0, 1) := by decide +kernel
theorem dX5_takesNumber_10 : decode cX5_takesNumber 10 = .ok (.ireturn, 1) := by decide +kernel
theorem dX5_takesNumber_11 : decode cX5_takesNumber 11 = .ok (.aload_n 0, 1) := by decide +kernel
theorem dX5_takesNumber_12 : decode cX5_takesNumber 12 = .ok (.aload_n 0, 1) := by decide +kernel
theorem dX5_takesNumber_13 : decode cX5_takesNumber 13 = .ok (.getfield 12, 3) := by decide +kernel
theorem dX5_takesNumber_16 : decode cX5_takesNumber 16 = .ok (.getfield 119, 3) := by decide +kernel
theorem dX5_takesNumber_19 : decode cX5_takesNumber 19 = .ok (.putfield 186, 3) := by decide +kernel
theorem dX5_takesNumber_22 : decode cX5_takesNumber 22 = .ok (.aload_n 0, 1) := by decide +kernel
theorem dX5_takesNumber_23 : decode cX5_takesNumber 23 = .ok (.getfield 12, 3) := by decide +kernel
theorem dX5_takesNumber_26 : decode cX5_takesNumber 26 = .ok (.invokevirtual 112, 3) := by decide +kernel
theorem dX5_takesNumber_29 : decode cX5_takesNumber 29 = .ok (.iconst 1, 1) := by decide +kernel
theorem dX5_takesNumber_30 : decode cX5_takesNumber 30 = .ok (.ireturn, 1) := by decide +kernel
theorem hd_X5_takesNumber : yX5_takesNumber.cls = RX5 ∧ yX5_takesNumber.cls ≠ "java/lang/invoke/MethodHandle" ∧ yX5_takesNumber.cls ≠ "java/lang/invoke/VarHandle" ∧ (parseMethodDescriptor yX5_takesNumber.desc).map (fun d => d.parameters.length) = some 2 := by decide +kernel
theorem hs_X5_takesNumber : yX5_takesNumber.cls ≠ "java/lang/invoke/MethodHandle" ∧ yX5_takesNumber.cls ≠ "java/lang/invoke/VarHandle" ∧ (parseMethodDescriptor yX5_takesNumber.desc).map (fun d => d.parameters.length) = some 2 := by decide +kernel
set_option maxHeartbeats 4000000 in
set_option maxRecDepth 100000 in
theorem k_X5_takesNumber (l : Launch) (E : Ev) (K : Kd) (z : Nat) (o : Nat) (a_1 : Int32) (a_2 : Int32) (w : Wd) (ho : K o = some (4, 0)) {r : Bool} {w' : Wd} (hf : f_X5_takesNumber K o a_1 a_2 w = some (r, w')) : Met l yX5_takesNumber (Cond.code yX5_takesNumber cX5_takesNumber 3 (Option.some Jvm.ClassFile.FieldType.boolean) :: bt) ({ frames := 2, cells := 0, slots := 0, locals := 43 } : Room) (va_Pc [rv E (some o), .int a_1, .int a_2] (HB E K w z)) (QI E K z w' (b2i r)) 0 0 (hA E) := by
  refine Met.ofW (cc := cX5_takesNumber) (maxL := 3) (ret := (Option.some Jvm.ClassFile.FieldType.boolean)) (by decide) rfl ?_
  intro p e s m args below meth c s₁ B hml hv
  obtain ⟨rfl, hz, hP, hKs, hT, hb0⟩ := hv
  have C : CX p l e s m _ meth c cX5_takesNumber 3 RX5 (Option.some Jvm.ClassFile.FieldType.boolean) E := ⟨B.exec, B.bytes, hml, findClass_of_methodNamed B.named, fun w h => atoms_spec (ws := Cond.code yX5_takesNumber cX5_takesNumber 3 (Option.some Jvm.ClassFile.FieldType.boolean) :: bt) B.pre w (List.mem_cons_of_mem _ h), hKs, hT, by rw [hz]; exact hb0, B.notSynchronized, B.returns⟩
  have hH : HQ E K z w s s.heap [] := ⟨hP, va_S.rf, hz⟩
  obtain ⟨hx, hb, hml, hown, hts, hKs, hT, hb0, hlocks, hret⟩ := id C
  have hl := lv_entry [rv E (some o), .int a_1, .int a_2] (n := 3) (by simp [lg_len_nil, lg_len_i, lg_len_j, lg_len_q, lg_len_f, lg_len_d, lg_len_r])
  rw [lg_entry_eq]
  generalize (lg_sl [rv E (some o), .int a_1, .int a_2] ++ List.replicate (3 - (lg_sl [rv E (some o), .int a_1, .int a_2]).length) Slot.unset).toArray = ls at hl ⊢
  replace hl : lv_has ls 3 [(0, rv E (some o)), (1, .int a_1), (2, .int a_2)] := by simpa only [lv_args, cat_q, cat_i, cat_j, reduceIte, Nat.reduceEqDiff, Nat.reduceAdd, Nat.zero_add] using hl
  generalize s.heap = H at hH ⊢
  unfold f_X5_takesNumber at hf
  refine hl_aload_n hx hb dX5_takesNumber_0 rfl (lv_at hl 0 rfl) ?_
  refine lv_iload_n hx hb dX5_takesNumber_1 rfl (lv_at hl 1 rfl) ?_
  refine lv_iload_n hx hb dX5_takesNumber_2 rfl (lv_at hl 2 rfl) ?_
  obtain ⟨q1, hq1, hf⟩ := bnd hf
  refine hcV_i hx hb hml hown hts hKs hT hb0 hH (As := [.int a_1, .int a_2]) (rest := []) (k_X5_seesNumber l E K H.size o a_1 a_2 w ho hq1) (gV m3_101 m3_103 ms_4 m1_8 m3_104) hd_X5_seesNumber ⟨Nat.le_of_ble_eq_true rfl, Nat.le_of_ble_eq_true rfl, rfl, rfl⟩ rfl ho rfl rfl rfl hl.1 rfl rc0 rfl dX5_takesNumber_3 ⟨Nat.zero_le _, Nat.zero_le _⟩ (fun H locs hH => ?_)
  refine lv_if_ne (tgt := 11) hx hb dX5_takesNumber_6 (by decide) (fun c2 => ?_) (fun c2 => ?_)
  · replace hf := (if_neg c2).symm.trans hf
    refine hl_aload_n hx hb dX5_takesNumber_11 rfl (lv_at hl 0 rfl) ?_
    refine hl_aload_n hx hb dX5_takesNumber_12 rfl (lv_at hl 0 rfl) ?_
    refine g5_0 hx hb hts hown hKs hH rfl ho m2_30 dX5_takesNumber_13 ?_
    obtain ⟨a3, ha3, hf⟩ := bnd hf
    replace ha3 := chk_some ha3
    refine gn8_6 hx hb hts hown hKs hH ha3.1 ha3.2 m2_11 dX5_takesNumber_16 ?_
    obtain ⟨w4, hw4, hf⟩ := bnd hf
    replace hw4 := Option.some.inj hw4
    refine p5_4 (v := (wI q1.2 806 a3)) hx hb hts hown hKs hH rfl ho m2_36 dX5_takesNumber_19 (fun H locs hH => ?_)
    rw [hw4] at hH
    refine hl_aload_n hx hb dX5_takesNumber_22 rfl (lv_at hl 0 rfl) ?_
    refine g5_0 hx hb hts hown hKs hH rfl ho m2_30 dX5_takesNumber_23 ?_
    obtain ⟨a5, ha5, hf⟩ := bnd hf
    replace ha5 := chk_some ha5
    obtain ⟨q6, hq6, hf⟩ := bnd hf
    refine hcV_v hx hb hml hown hts hKs hT hb0 hH (As := []) (rest := []) (k_X8_advance l E K H.size a5 w4 ha5.2 hq6) (gV m3_100 m3_57 m3_58 m1_9 m3_59) hd_X8_advance ⟨Nat.le_of_ble_eq_true rfl, Nat.le_of_ble_eq_true rfl, rfl, rfl⟩ ha5.1 ha5.2 rfl rfl rfl hl.1 rfl rc0 rfl dX5_takesNumber_26 ⟨Nat.zero_le _, Nat.zero_le _⟩ (fun H locs hH => ?_)
    refine lv_iconst (v := 1) hx hb dX5_takesNumber_29 (by decide) ?_
    exact hw_zret hx hb hret rfl hf hH hlocks dX5_takesNumber_30
  · replace hf := (if_pos c2).symm.trans hf
    refine lv_iconst (v := 0) hx hb dX5_takesNumber_9 (by decide) ?_
    exact hw_zret hx hb hret rfl hf hH hlocks dX5_takesNumber_10

theorem dX5_takesSpan_0 : decode cX5_takesSpan 0 = .ok (.aload_n 0, 1) := by decide +kernel
theorem dX5_takesSpan_1 : decode cX5_takesSpan 1 = .ok (.iconst 0, 1) := by decide +kernel
theorem dX5_takesSpan_2 : decode cX5_takesSpan 2 = .ok (.iload_n 1, 1) := by decide +kernel
theorem dX5_takesSpan_3 : decode cX5_takesSpan 3 = .ok (.invokevirtual 183, 3) := by decide +kernel
theorem dX5_takesSpan_6 : decode cX5_takesSpan 6 = .ok (.ifCond .ne 5, 3) := by decide +kernel
theorem dX5_takesSpan_9 : decode cX5_takesSpan 9 = .ok (.iconst 0, 1) := by decide +kernel
theorem dX5_takesSpan_10 : decode cX5_takesSpan 10 = .ok (.ireturn, 1) := by decide +kernel
theorem dX5_takesSpan_11 : decode cX5_takesSpan 11 = .ok (.aload_n 0, 1) := by decide +kernel
theorem dX5_takesSpan_12 : decode cX5_takesSpan 12 = .ok (.aload_n 0, 1) := by decide +kernel
theorem dX5_takesSpan_13 : decode cX5_takesSpan 13 = .ok (.getfield 186, 3) := by decide +kernel
theorem dX5_takesSpan_16 : decode cX5_takesSpan 16 = .ok (.putfield 144, 3) := by decide +kernel
theorem dX5_takesSpan_19 : decode cX5_takesSpan 19 = .ok (.aload_n 0, 1) := by decide +kernel
theorem dX5_takesSpan_20 : decode cX5_takesSpan 20 = .ok (.aload_n 0, 1) := by decide +kernel
theorem dX5_takesSpan_21 : decode cX5_takesSpan 21 = .ok (.getfield 144, 3) := by decide +kernel
theorem dX5_takesSpan_24 : decode cX5_takesSpan 24 = .ok (.iload_n 1, 1) := by decide +kernel
theorem dX5_takesSpan_25 : decode cX5_takesSpan 25 = .ok (.invokevirtual 183, 3) := by decide +kernel
theorem dX5_takesSpan_28 : decode cX5_takesSpan 28 = .ok (.ifCond .ne 5, 3) := by decide +kernel
theorem dX5_takesSpan_31 : decode cX5_takesSpan 31 = .ok (.iconst 0, 1) := by decide +kernel
theorem dX5_takesSpan_32 : decode cX5_takesSpan 32 = .ok (.ireturn, 1) := by decide +kernel
theorem dX5_takesSpan_33 : decode cX5_takesSpan 33 = .ok (.aload_n 0, 1) := by decide +kernel
theorem dX5_takesSpan_34 : decode cX5_takesSpan 34 = .ok (.aload_n 0, 1) := by decide +kernel
theorem dX5_takesSpan_35 : decode cX5_takesSpan 35 = .ok (.getfield 186, 3) := by decide +kernel
theorem dX5_takesSpan_38 : decode cX5_takesSpan 38 = .ok (.putfield 147, 3) := by decide +kernel
theorem dX5_takesSpan_41 : decode cX5_takesSpan 41 = .ok (.iconst 1, 1) := by decide +kernel
theorem dX5_takesSpan_42 : decode cX5_takesSpan 42 = .ok (.ireturn, 1) := by decide +kernel
theorem hd_X5_takesSpan : yX5_takesSpan.cls = RX5 ∧ yX5_takesSpan.cls ≠ "java/lang/invoke/MethodHandle" ∧ yX5_takesSpan.cls ≠ "java/lang/invoke/VarHandle" ∧ (parseMethodDescriptor yX5_takesSpan.desc).map (fun d => d.parameters.length) = some 1 := by decide +kernel
theorem hs_X5_takesSpan : yX5_takesSpan.cls ≠ "java/lang/invoke/MethodHandle" ∧ yX5_takesSpan.cls ≠ "java/lang/invoke/VarHandle" ∧ (parseMethodDescriptor yX5_takesSpan.desc).map (fun d => d.parameters.length) = some 1 := by decide +kernel
set_option maxHeartbeats 4000000 in
set_option maxRecDepth 100000 in
theorem k_X5_takesSpan (l : Launch) (E : Ev) (K : Kd) (z : Nat) (o : Nat) (a_1 : Int32) (w : Wd) (ho : K o = some (4, 0)) {r : Bool} {w' : Wd} (hf : f_X5_takesSpan K o a_1 w = some (r, w')) : Met l yX5_takesSpan (Cond.code yX5_takesSpan cX5_takesSpan 2 (Option.some Jvm.ClassFile.FieldType.boolean) :: bt) ({ frames := 3, cells := 0, slots := 0, locals := 65 } : Room) (va_Pc [rv E (some o), .int a_1] (HB E K w z)) (QI E K z w' (b2i r)) 0 0 (hA E) := by
  refine Met.ofW (cc := cX5_takesSpan) (maxL := 2) (ret := (Option.some Jvm.ClassFile.FieldType.boolean)) (by decide) rfl ?_
  intro p e s m args below meth c s₁ B hml hv
  obtain ⟨rfl, hz, hP, hKs, hT, hb0⟩ := hv
  have C : CX p l e s m _ meth c cX5_takesSpan 2 RX5 (Option.some Jvm.ClassFile.FieldType.boolean) E := ⟨B.exec, B.bytes, hml, findClass_of_methodNamed B.named, fun w h => atoms_spec (ws := Cond.code yX5_takesSpan cX5_takesSpan 2 (Option.some Jvm.ClassFile.FieldType.boolean) :: bt) B.pre w (List.mem_cons_of_mem _ h), hKs, hT, by rw [hz]; exact hb0, B.notSynchronized, B.returns⟩
  have hH : HQ E K z w s s.heap [] := ⟨hP, va_S.rf, hz⟩
  obtain ⟨hx, hb, hml, hown, hts, hKs, hT, hb0, hlocks, hret⟩ := id C
  have hl := lv_entry [rv E (some o), .int a_1] (n := 2) (by simp [lg_len_nil, lg_len_i, lg_len_j, lg_len_q, lg_len_f, lg_len_d, lg_len_r])
  rw [lg_entry_eq]
  generalize (lg_sl [rv E (some o), .int a_1] ++ List.replicate (2 - (lg_sl [rv E (some o), .int a_1]).length) Slot.unset).toArray = ls at hl ⊢
  replace hl : lv_has ls 2 [(0, rv E (some o)), (1, .int a_1)] := by simpa only [lv_args, cat_q, cat_i, cat_j, reduceIte, Nat.reduceEqDiff, Nat.reduceAdd, Nat.zero_add] using hl
  generalize s.heap = H at hH ⊢
  unfold f_X5_takesSpan at hf
  refine hl_aload_n hx hb dX5_takesSpan_0 rfl (lv_at hl 0 rfl) ?_
  refine lv_iconst (v := 0) hx hb dX5_takesSpan_1 (by decide) ?_
  refine lv_iload_n hx hb dX5_takesSpan_2 rfl (lv_at hl 1 rfl) ?_
  obtain ⟨q1, hq1, hf⟩ := bnd hf
  refine hcV_i hx hb hml hown hts hKs hT hb0 hH (As := [.int 0, .int a_1]) (rest := []) (k_X5_takesNumber l E K H.size o 0 a_1 w ho hq1) (gV m3_146 m3_148 ms_9 m1_8 m3_149) hd_X5_takesNumber ⟨Nat.le_of_ble_eq_true rfl, Nat.le_of_ble_eq_true rfl, rfl, rfl⟩ rfl ho rfl rfl rfl hl.1 rfl rc0 rfl dX5_takesSpan_3 ⟨Nat.zero_le _, Nat.zero_le _⟩ (fun H locs hH => ?_)
  refine lv_if_ne (tgt := 11) hx hb dX5_takesSpan_6 (by decide) (fun c2 => ?_) (fun c2 => ?_)
  · replace hf := (if_neg c2).symm.trans hf
    refine hl_aload_n hx hb dX5_takesSpan_11 rfl (lv_at hl 0 rfl) ?_
    refine hl_aload_n hx hb dX5_takesSpan_12 rfl (lv_at hl 0 rfl) ?_
    refine g5_4 hx hb hts hown hKs hH rfl ho m2_36 dX5_takesSpan_13 ?_
    obtain ⟨w3, hw3, hf⟩ := bnd hf
    replace hw3 := Option.some.inj hw3
    refine p5_5 (v := (wI q1.2 504 o)) hx hb hts hown hKs hH rfl ho m2_37 dX5_takesSpan_16 (fun H locs hH => ?_)
    rw [hw3] at hH
    refine hl_aload_n hx hb dX5_takesSpan_19 rfl (lv_at hl 0 rfl) ?_
    refine hl_aload_n hx hb dX5_takesSpan_20 rfl (lv_at hl 0 rfl) ?_
    refine g5_5 hx hb hts hown hKs hH rfl ho m2_37 dX5_takesSpan_21 ?_
    refine lv_iload_n hx hb dX5_takesSpan_24 rfl (lv_at hl 1 rfl) ?_
    obtain ⟨q4, hq4, hf⟩ := bnd hf
    refine hcV_i hx hb hml hown hts hKs hT hb0 hH (As := [.int ((wI w3 505 o)), .int a_1]) (rest := []) (k_X5_takesNumber l E K H.size o (wI w3 505 o) a_1 w3 ho hq4) (gV m3_146 m3_148 ms_9 m1_8 m3_149) hd_X5_takesNumber ⟨Nat.le_of_ble_eq_true rfl, Nat.le_of_ble_eq_true rfl, rfl, rfl⟩ rfl ho rfl rfl rfl hl.1 rfl rc0 rfl dX5_takesSpan_25 ⟨Nat.zero_le _, Nat.zero_le _⟩ (fun H locs hH => ?_)
    refine lv_if_ne (tgt := 33) hx hb dX5_takesSpan_28 (by decide) (fun c5 => ?_) (fun c5 => ?_)
    · replace hf := (if_neg c5).symm.trans hf
      refine hl_aload_n hx hb dX5_takesSpan_33 rfl (lv_at hl 0 rfl) ?_
      refine hl_aload_n hx hb dX5_takesSpan_34 rfl (lv_at hl 0 rfl) ?_
      refine g5_4 hx hb hts hown hKs hH rfl ho m2_36 dX5_takesSpan_35 ?_
      obtain ⟨w6, hw6, hf⟩ := bnd hf
      replace hw6 := Option.some.inj hw6
      refine p5_6 (v := (wI q4.2 504 o)) hx hb hts hown hKs hH rfl ho m2_38 dX5_takesSpan_38 (fun H locs hH => ?_)
      rw [hw6] at hH
      refine lv_iconst (v := 1) hx hb dX5_takesSpan_41 (by decide) ?_
      exact hw_zret hx hb hret rfl hf hH hlocks dX5_takesSpan_42
    · replace hf := (if_pos c5).symm.trans hf
      refine lv_iconst (v := 0) hx hb dX5_takesSpan_31 (by decide) ?_
      exact hw_zret hx hb hret rfl hf hH hlocks dX5_takesSpan_32
  · replace hf := (if_pos c2).symm.trans hf
    refine lv_iconst (v := 0) hx hb dX5_takesSpan_9 (by decide) ?_
    exact hw_zret hx hb hret rfl hf hH hlocks dX5_takesSpan_10

theorem dX6_faultOf_0 : decode cX6_faultOf 0 = .ok (.aload_n 1, 1) := by decide +kernel
theorem dX6_faultOf_1 : decode cX6_faultOf 1 = .ok (.getfield 24, 3) := by decide +kernel
theorem dX6_faultOf_4 : decode cX6_faultOf 4 = .ok (.getfield 30, 3) := by decide +kernel
theorem dX6_faultOf_7 : decode cX6_faultOf 7 = .ok (.iload_n 2, 1) := by decide +kernel
theorem dX6_faultOf_8 : decode cX6_faultOf 8 = .ok (.aaload, 1) := by decide +kernel
theorem dX6_faultOf_9 : decode cX6_faultOf 9 = .ok (.astore 7, 2) := by decide +kernel
theorem dX6_faultOf_11 : decode cX6_faultOf 11 = .ok (.iload_n 3, 1) := by decide +kernel
theorem dX6_faultOf_12 : decode cX6_faultOf 12 = .ok (.aload_n 1, 1) := by decide +kernel
theorem dX6_faultOf_13 : decode cX6_faultOf 13 = .ok (.getfield 36, 3) := by decide +kernel
theorem dX6_faultOf_16 : decode cX6_faultOf 16 = .ok (.if_icmp .lt 20, 3) := by decide +kernel
theorem dX6_faultOf_19 : decode cX6_faultOf 19 = .ok (.iload_n 3, 1) := by decide +kernel
theorem dX6_faultOf_20 : decode cX6_faultOf 20 = .ok (.aload 7, 2) := by decide +kernel
theorem dX6_faultOf_22 : decode cX6_faultOf 22 = .ok (.getfield 40, 3) := by decide +kernel
theorem dX6_faultOf_25 : decode cX6_faultOf 25 = .ok (.if_icmp .lt 11, 3) := by decide +kernel
theorem dX6_faultOf_28 : decode cX6_faultOf 28 = .ok (.aload_n 1, 1) := by decide +kernel
theorem dX6_faultOf_29 : decode cX6_faultOf 29 = .ok (.iload_n 3, 1) := by decide +kernel
theorem dX6_faultOf_30 : decode cX6_faultOf 30 = .ok (.invokevirtual 45, 3) := by decide +kernel
theorem dX6_faultOf_33 : decode cX6_faultOf 33 = .ok (.ifCond .ne 5, 3) := by decide +kernel
theorem dX6_faultOf_36 : decode cX6_faultOf 36 = .ok (.iconst 1, 1) := by decide +kernel
theorem dX6_faultOf_37 : decode cX6_faultOf 37 = .ok (.ireturn, 1) := by decide +kernel
theorem dX6_faultOf_38 : decode cX6_faultOf 38 = .ok (.iload_n 3, 1) := by decide +kernel
theorem dX6_faultOf_39 : decode cX6_faultOf 39 = .ok (.aload_n 1, 1) := by decide +kernel
theorem dX6_faultOf_40 : decode cX6_faultOf 40 = .ok (.iload_n 2, 1) := by decide +kernel
theorem dX6_faultOf_41 : decode cX6_faultOf 41 = .ok (.invokevirtual 49, 3) := by decide +kernel
theorem dX6_faultOf_44 : decode cX6_faultOf 44 = .ok (.if_icmp .le 5, 3) := by decide +kernel
theorem dX6_faultOf_47 : decode cX6_faultOf 47 = .ok (.iconst 2, 1) := by decide +kernel
theorem dX6_faultOf_48 : decode cX6_faultOf 48 = .ok (.ireturn, 1) := by decide +kernel
theorem dX6_faultOf_49 : decode cX6_faultOf 49 = .ok (.aload_n 0, 1) := by decide +kernel
theorem dX6_faultOf_50 : decode cX6_faultOf 50 = .ok (.aload_n 1, 1) := by decide +kernel
theorem dX6_faultOf_51 : decode cX6_faultOf 51 = .ok (.iload_n 2, 1) := by decide +kernel
theorem dX6_faultOf_52 : decode cX6_faultOf 52 = .ok (.invokevirtual 53, 3) := by decide +kernel
theorem dX6_faultOf_55 : decode cX6_faultOf 55 = .ok (.aload_n 0, 1) := by decide +kernel
theorem dX6_faultOf_56 : decode cX6_faultOf 56 = .ok (.aload_n 1, 1) := by decide +kernel
theorem dX6_faultOf_57 : decode cX6_faultOf 57 = .ok (.iload_n 2, 1) := by decide +kernel
theorem dX6_faultOf_58 : decode cX6_faultOf 58 = .ok (.iload_n 3, 1) := by decide +kernel
theorem dX6_faultOf_59 : decode cX6_faultOf 59 = .ok (.iconst 0, 1) := by decide +kernel
theorem dX6_faultOf_60 : decode cX6_faultOf 60 = .ok (.invokevirtual 57, 3) := by decide +kernel
theorem dX6_faultOf_63 : decode cX6_faultOf 63 = .ok (.iload 4, 2) := by decide +kernel
theorem dX6_faultOf_65 : decode cX6_faultOf 65 = .ok (.aload 7, 2) := by decide +kernel
theorem dX6_faultOf_67 : decode cX6_faultOf 67 = .ok (.getfield 61, 3) := by decide +kernel
theorem dX6_faultOf_70 : decode cX6_faultOf 70 = .ok (.invokestatic 64, 3) := by decide +kernel
theorem dX6_faultOf_73 : decode cX6_faultOf 73 = .ok (.istore 8, 2) := by decide +kernel
theorem dX6_faultOf_75 : decode cX6_faultOf 75 = .ok (.iload 8, 2) := by decide +kernel
theorem dX6_faultOf_77 : decode cX6_faultOf 77 = .ok (.aload_n 1, 1) := by decide +kernel
theorem dX6_faultOf_78 : decode cX6_faultOf 78 = .ok (.getfield 24, 3) := by decide +kernel
theorem dX6_faultOf_81 : decode cX6_faultOf 81 = .ok (.getfield 68, 3) := by decide +kernel
theorem dX6_faultOf_84 : decode cX6_faultOf 84 = .ok (.iload 5, 2) := by decide +kernel
theorem dX6_faultOf_86 : decode cX6_faultOf 86 = .ok (.iaload, 1) := by decide +kernel
theorem dX6_faultOf_87 : decode cX6_faultOf 87 = .ok (.iconst (-1), 1) := by decide +kernel
theorem dX6_faultOf_88 : decode cX6_faultOf 88 = .ok (.ixor, 1) := by decide +kernel
theorem dX6_faultOf_89 : decode cX6_faultOf 89 = .ok (.iand, 1) := by decide +kernel
theorem dX6_faultOf_90 : decode cX6_faultOf 90 = .ok (.ifCond .eq 5, 3) := by decide +kernel
theorem dX6_faultOf_93 : decode cX6_faultOf 93 = .ok (.iconst 3, 1) := by decide +kernel
theorem dX6_faultOf_94 : decode cX6_faultOf 94 = .ok (.ireturn, 1) := by decide +kernel
theorem dX6_faultOf_95 : decode cX6_faultOf 95 = .ok (.iload 8, 2) := by decide +kernel
theorem dX6_faultOf_97 : decode cX6_faultOf 97 = .ok (.aload_n 0, 1) := by decide +kernel
theorem dX6_faultOf_98 : decode cX6_faultOf 98 = .ok (.getfield 9, 3) := by decide +kernel
theorem dX6_faultOf_101 : decode cX6_faultOf 101 = .ok (.iload 5, 2) := by decide +kernel
theorem dX6_faultOf_103 : decode cX6_faultOf 103 = .ok (.iaload, 1) := by decide +kernel
theorem dX6_faultOf_104 : decode cX6_faultOf 104 = .ok (.iand, 1) := by decide +kernel
theorem dX6_faultOf_105 : decode cX6_faultOf 105 = .ok (.ifCond .eq 5, 3) := by decide +kernel
theorem dX6_faultOf_108 : decode cX6_faultOf 108 = .ok (.iconst 4, 1) := by decide +kernel
theorem dX6_faultOf_109 : decode cX6_faultOf 109 = .ok (.ireturn, 1) := by decide +kernel
theorem dX6_faultOf_110 : decode cX6_faultOf 110 = .ok (.aload_n 0, 1) := by decide +kernel
theorem dX6_faultOf_111 : decode cX6_faultOf 111 = .ok (.getfield 71, 3) := by decide +kernel
theorem dX6_faultOf_114 : decode cX6_faultOf 114 = .ok (.iload 6, 2) := by decide +kernel
theorem dX6_faultOf_116 : decode cX6_faultOf 116 = .ok (.invokestatic 74, 3) := by decide +kernel
theorem dX6_faultOf_119 : decode cX6_faultOf 119 = .ok (.ifCond .eq 5, 3) := by decide +kernel
theorem dX6_faultOf_122 : decode cX6_faultOf 122 = .ok (.iconst 5, 1) := by decide +kernel
theorem dX6_faultOf_123 : decode cX6_faultOf 123 = .ok (.ireturn, 1) := by decide +kernel
theorem dX6_faultOf_124 : decode cX6_faultOf 124 = .ok (.iload 8, 2) := by decide +kernel
theorem dX6_faultOf_126 : decode cX6_faultOf 126 = .ok (.aload_n 0, 1) := by decide +kernel
theorem dX6_faultOf_127 : decode cX6_faultOf 127 = .ok (.getfield 15, 3) := by decide +kernel
theorem dX6_faultOf_130 : decode cX6_faultOf 130 = .ok (.iload 6, 2) := by decide +kernel
theorem dX6_faultOf_132 : decode cX6_faultOf 132 = .ok (.iaload, 1) := by decide +kernel
theorem dX6_faultOf_133 : decode cX6_faultOf 133 = .ok (.iand, 1) := by decide +kernel
theorem dX6_faultOf_134 : decode cX6_faultOf 134 = .ok (.ifCond .eq 6, 3) := by decide +kernel
theorem dX6_faultOf_137 : decode cX6_faultOf 137 = .ok (.bipush 6, 2) := by decide +kernel
theorem dX6_faultOf_139 : decode cX6_faultOf 139 = .ok (.ireturn, 1) := by decide +kernel
theorem dX6_faultOf_140 : decode cX6_faultOf 140 = .ok (.aload_n 0, 1) := by decide +kernel
theorem dX6_faultOf_141 : decode cX6_faultOf 141 = .ok (.getfield 78, 3) := by decide +kernel
theorem dX6_faultOf_144 : decode cX6_faultOf 144 = .ok (.iload 6, 2) := by decide +kernel
theorem dX6_faultOf_146 : decode cX6_faultOf 146 = .ok (.invokestatic 74, 3) := by decide +kernel
theorem dX6_faultOf_149 : decode cX6_faultOf 149 = .ok (.ifCond .eq 6, 3) := by decide +kernel
theorem dX6_faultOf_152 : decode cX6_faultOf 152 = .ok (.bipush 7, 2) := by decide +kernel
theorem dX6_faultOf_154 : decode cX6_faultOf 154 = .ok (.ireturn, 1) := by decide +kernel
theorem dX6_faultOf_155 : decode cX6_faultOf 155 = .ok (.iload 8, 2) := by decide +kernel
theorem dX6_faultOf_157 : decode cX6_faultOf 157 = .ok (.aload_n 0, 1) := by decide +kernel
theorem dX6_faultOf_158 : decode cX6_faultOf 158 = .ok (.getfield 81, 3) := by decide +kernel
theorem dX6_faultOf_161 : decode cX6_faultOf 161 = .ok (.iand, 1) := by decide +kernel
theorem dX6_faultOf_162 : decode cX6_faultOf 162 = .ok (.ifCond .eq 6, 3) := by decide +kernel
theorem dX6_faultOf_165 : decode cX6_faultOf 165 = .ok (.bipush 8, 2) := by decide +kernel
theorem dX6_faultOf_167 : decode cX6_faultOf 167 = .ok (.ireturn, 1) := by decide +kernel
theorem dX6_faultOf_168 : decode cX6_faultOf 168 = .ok (.iload 8, 2) := by decide +kernel
theorem dX6_faultOf_170 : decode cX6_faultOf 170 = .ok (.aload_n 0, 1) := by decide +kernel
theorem dX6_faultOf_171 : decode cX6_faultOf 171 = .ok (.getfield 84, 3) := by decide +kernel
theorem dX6_faultOf_174 : decode cX6_faultOf 174 = .ok (.iand, 1) := by decide +kernel
theorem dX6_faultOf_175 : decode cX6_faultOf 175 = .ok (.ifCond .eq 8, 3) := by decide +kernel
theorem dX6_faultOf_178 : decode cX6_faultOf 178 = .ok (.bipush 9, 2) := by decide +kernel
theorem dX6_faultOf_180 : decode cX6_faultOf 180 = .ok (.goto 4, 3) := by decide +kernel
theorem dX6_faultOf_183 : decode cX6_faultOf 183 = .ok (.iconst 0, 1) := by decide +kernel
theorem dX6_faultOf_184 : decode cX6_faultOf 184 = .ok (.ireturn, 1) := by decide +kernel
theorem hd_X6_faultOf : yX6_faultOf.cls = RX6 ∧ yX6_faultOf.cls ≠ "java/lang/invoke/MethodHandle" ∧ yX6_faultOf.cls ≠ "java/lang/invoke/VarHandle" ∧ (parseMethodDescriptor yX6_faultOf.desc).map (fun d => d.parameters.length) = some 6 := by decide +kernel
theorem hs_X6_faultOf : yX6_faultOf.cls ≠ "java/lang/invoke/MethodHandle" ∧ yX6_faultOf.cls ≠ "java/lang/invoke/VarHandle" ∧ (parseMethodDescriptor yX6_faultOf.desc).map (fun d => d.parameters.length) = some 6 := by decide +kernel
set_option maxHeartbeats 4000000 in
set_option maxRecDepth 100000 in
theorem k_X6_faultOf (l : Launch) (E : Ev) (K : Kd) (z : Nat) (o : Nat) (a_1 : Option Nat) (a_2 : Int32) (a_3 : Int32) (a_4 : Int32) (a_5 : Int32) (a_6 : Int32) (w : Wd) (ho : K o = some (5, 0)) {r : Int32} {w' : Wd} (hf : f_X6_faultOf K o a_1 a_2 a_3 a_4 a_5 a_6 w = some (r, w')) : Met l yX6_faultOf (Cond.code yX6_faultOf cX6_faultOf 9 (Option.some Jvm.ClassFile.FieldType.int) :: bt) ({ frames := 3, cells := 0, slots := 0, locals := 76 } : Room) (va_Pc [rv E (some o), rv E a_1, .int a_2, .int a_3, .int a_4, .int a_5, .int a_6] (HB E K w z)) (QI E K z w' r) 0 0 (hA E) := by
  refine Met.ofW (cc := cX6_faultOf) (maxL := 9) (ret := (Option.some Jvm.ClassFile.FieldType.int)) (by decide) rfl ?_
  intro p e s m args below meth c s₁ B hml hv
  obtain ⟨rfl, hz, hP, hKs, hT, hb0⟩ := hv
  have C : CX p l e s m _ meth c cX6_faultOf 9 RX6 (Option.some Jvm.ClassFile.FieldType.int) E := ⟨B.exec, B.bytes, hml, findClass_of_methodNamed B.named, fun w h => atoms_spec (ws := Cond.code yX6_faultOf cX6_faultOf 9 (Option.some Jvm.ClassFile.FieldType.int) :: bt) B.pre w (List.mem_cons_of_mem _ h), hKs, hT, by rw [hz]; exact hb0, B.notSynchronized, B.returns⟩
  have hH : HQ E K z w s s.heap [] := ⟨hP, va_S.rf, hz⟩
  obtain ⟨hx, hb, hml, hown, hts, hKs, hT, hb0, hlocks, hret⟩ := id C
  have hl := lv_entry [rv E (some o), rv E a_1, .int a_2, .int a_3, .int a_4, .int a_5, .int a_6] (n := 9) (by simp [lg_len_nil, lg_len_i, lg_len_j, lg_len_q, lg_len_f, lg_len_d, lg_len_r])
  rw [lg_entry_eq]
  generalize (lg_sl [rv E (some o), rv E a_1, .int a_2, .int a_3, .int a_4, .int a_5, .int a_6] ++ List.replicate (9 - (lg_sl [rv E (some o), rv E a_1, .int a_2, .int a_3, .int a_4, .int a_5, .int a_6]).length) Slot.unset).toArray = ls at hl ⊢
  replace hl : lv_has ls 9 [(0, rv E (some o)), (1, rv E a_1), (2, .int a_2), (3, .int a_3), (4, .int a_4), (5, .int a_5), (6, .int a_6)] := by simpa only [lv_args, cat_q, cat_i, cat_j, reduceIte, Nat.reduceEqDiff, Nat.reduceAdd, Nat.zero_add] using hl
  generalize s.heap = H at hH ⊢
  unfold f_X6_faultOf at hf
  refine hl_aload_n hx hb dX6_faultOf_0 rfl (lv_at hl 1 rfl) ?_
  obtain ⟨a1, ha1, hf⟩ := bnd hf
  replace ha1 := chk_some ha1
  refine gn10_0 hx hb hts hown hKs hH ha1.1 ha1.2 m2_120 dX6_faultOf_1 ?_
  obtain ⟨a2, ha2, hf⟩ := bnd hf
  replace ha2 := chk_some ha2
  refine gn9_9 hx hb hts hown hKs hH ha2.1 ha2.2 m1_176 dX6_faultOf_4 ?_
  refine lv_iload_n hx hb dX6_faultOf_7 rfl (lv_at hl 2 rfl) ?_
  obtain ⟨a3, ha3, hf⟩ := bnd hf
  replace ha3 := cha_some ha3
  obtain ⟨j4, hj4, hf⟩ := bnd hf
  refine hw_aald25 hx hb hKs hH ha3.1 ha3.2 hj4 dX6_faultOf_8 ?_
  refine hl_astore (i := 7) (lv' := [(7, rv E (aR w a3.1 j4)), (0, rv E (some o)), (1, rv E a_1), (2, .int a_2), (3, .int a_3), (4, .int a_4), (5, .int a_5), (6, .int a_6)]) hx hb dX6_faultOf_9 hl (by decide) rfl (fun ls hl => ?_)
  refine lv_iload_n hx hb dX6_faultOf_11 rfl (lv_at hl 4 rfl) ?_
  refine hl_aload_n hx hb dX6_faultOf_12 rfl (lv_at hl 2 rfl) ?_
  refine gn10_1 hx hb hts hown hKs hH ha1.1 ha1.2 m2_124 dX6_faultOf_13 ?_
  refine lv_icmp_lt (tgt := 36) hx hb dX6_faultOf_16 (by decide) (fun c5 => ?_) (fun c5 => ?_)
  · replace hf := (if_pos c5).symm.trans hf
    refine lv_iconst (v := 1) hx hb dX6_faultOf_36 (by decide) ?_
    exact hw_iret hx hb hret hf hH hlocks dX6_faultOf_37
  · replace hf := (if_neg c5).symm.trans hf
    refine lv_iload_n hx hb dX6_faultOf_19 rfl (lv_at hl 4 rfl) ?_
    refine hl_aload hx hb dX6_faultOf_20 (lv_at hl 0 rfl) ?_
    obtain ⟨a6, ha6, hf⟩ := bnd hf
    replace ha6 := chk_some ha6
    refine gn3_0 hx hb hts hown hKs hH ha6.1 ha6.2 m1_88 dX6_faultOf_22 ?_
    refine lv_icmp_lt (tgt := 36) hx hb dX6_faultOf_25 (by decide) (fun c7 => ?_) (fun c7 => ?_)
    · replace hf := (if_pos c7).symm.trans hf
      refine lv_iconst (v := 1) hx hb dX6_faultOf_36 (by decide) ?_
      exact hw_iret hx hb hret hf hH hlocks dX6_faultOf_37
    · replace hf := (if_neg c7).symm.trans hf
      refine hl_aload_n hx hb dX6_faultOf_28 rfl (lv_at hl 2 rfl) ?_
      refine lv_iload_n hx hb dX6_faultOf_29 rfl (lv_at hl 4 rfl) ?_
      obtain ⟨q8, hq8, hf⟩ := bnd hf
      refine hcV_i hx hb hml hown hts hKs hT hb0 hH (As := [.int a_3]) (rest := []) (k_X10_works l E K H.size a1 a_3 w ha1.2 hq8) (gV m4_141 m4_70 m4_71 m1_12 m4_72) hd_X10_works ⟨Nat.le_of_ble_eq_true rfl, Nat.le_of_ble_eq_true rfl, rfl, rfl⟩ ha1.1 ha1.2 rfl rfl rfl hl.1 rfl rc0 rfl dX6_faultOf_30 ⟨Nat.zero_le _, Nat.zero_le _⟩ (fun H locs hH => ?_)
      refine lv_if_ne (tgt := 38) hx hb dX6_faultOf_33 (by decide) (fun c9 => ?_) (fun c9 => ?_)
      · replace hf := (if_neg c9).symm.trans hf
        refine lv_iload_n hx hb dX6_faultOf_38 rfl (lv_at hl 4 rfl) ?_
        refine hl_aload_n hx hb dX6_faultOf_39 rfl (lv_at hl 2 rfl) ?_
        refine lv_iload_n hx hb dX6_faultOf_40 rfl (lv_at hl 3 rfl) ?_
        obtain ⟨q10, hq10, hf⟩ := bnd hf
        refine hcV_i hx hb hml hown hts hKs hT hb0 hH (As := [.int a_2]) (rest := [.int a_3]) (k_X10_limitDay l E K H.size a1 a_2 q8.2 ha1.2 hq10) (gV m4_131 m4_66 m4_67 m1_12 m4_68) hd_X10_limitDay ⟨Nat.le_of_ble_eq_true rfl, Nat.le_of_ble_eq_true rfl, rfl, rfl⟩ ha1.1 ha1.2 rfl rfl rfl hl.1 rfl (rcI rc0) rfl dX6_faultOf_41 ⟨Nat.zero_le _, Nat.zero_le _⟩ (fun H locs hH => ?_)
        refine lv_icmp_le (tgt := 49) hx hb dX6_faultOf_44 (by decide) (fun c11 => ?_) (fun c11 => ?_)
        · replace hf := (if_pos c11).symm.trans hf
          refine hl_aload_n hx hb dX6_faultOf_49 rfl (lv_at hl 1 rfl) ?_
          refine hl_aload_n hx hb dX6_faultOf_50 rfl (lv_at hl 2 rfl) ?_
          refine lv_iload_n hx hb dX6_faultOf_51 rfl (lv_at hl 3 rfl) ?_
          obtain ⟨q12, hq12, hf⟩ := bnd hf
          refine hcV_v hx hb hml hown hts hKs hT hb0 hH (As := [rv E a_1, .int a_2]) (rest := []) (k_X6_lookAtOfficers l E K H.size o a_1 a_2 q10.2 ho hq12) (gV m4_114 m4_116 ms_25 m1_14 m4_117) hd_X6_lookAtOfficers ⟨Nat.le_of_ble_eq_true rfl, Nat.le_of_ble_eq_true rfl, rfl, rfl⟩ rfl ho rfl rfl rfl hl.1 rfl rc0 rfl dX6_faultOf_52 ⟨Nat.zero_le _, Nat.zero_le _⟩ (fun H locs hH => ?_)
          refine hl_aload_n hx hb dX6_faultOf_55 rfl (lv_at hl 1 rfl) ?_
          refine hl_aload_n hx hb dX6_faultOf_56 rfl (lv_at hl 2 rfl) ?_
          refine lv_iload_n hx hb dX6_faultOf_57 rfl (lv_at hl 3 rfl) ?_
          refine lv_iload_n hx hb dX6_faultOf_58 rfl (lv_at hl 4 rfl) ?_
          refine lv_iconst (v := 0) hx hb dX6_faultOf_59 (by decide) ?_
          obtain ⟨q13, hq13, hf⟩ := bnd hf
          refine hcV_v hx hb hml hown hts hKs hT hb0 hH (As := [rv E a_1, .int a_2, .int a_3, .int 0]) (rest := []) (k_X6_lookAtDay l E K H.size o a_1 a_2 a_3 0 q12 ho hq13) (gV m4_142 m4_144 ms_27 m1_14 m4_145) hd_X6_lookAtDay ⟨Nat.le_of_ble_eq_true rfl, Nat.le_of_ble_eq_true rfl, rfl, rfl⟩ rfl ho rfl rfl rfl hl.1 rfl rc0 rfl dX6_faultOf_60 ⟨Nat.zero_le _, Nat.zero_le _⟩ (fun H locs hH => ?_)
          refine lv_iload hx hb dX6_faultOf_63 (lv_at hl 5 rfl) ?_
          refine hl_aload hx hb dX6_faultOf_65 (lv_at hl 0 rfl) ?_
          refine gn3_1 hx hb hts hown hKs hH ha6.1 ha6.2 m1_93 dX6_faultOf_67 ?_
          obtain ⟨q14, hq14, hf⟩ := bnd hf
          refine hcM_i hx hb hml hown hts hKs hT hb0 hH (As := [.int a_4, .int ((wI q13 301 a6))]) (rest := []) (k_X12_slotSet l E K H.size a_4 (wI q13 301 a6) q13 hq14) m4_171 m3_155 m1_1 m3_156 hs_X12_slotSet ⟨Nat.le_of_ble_eq_true rfl, Nat.le_of_ble_eq_true rfl, rfl, rfl⟩ hl.1 rfl rc0 rfl dX6_faultOf_70 ⟨Nat.zero_le _, Nat.zero_le _⟩ (fun H locs hH => ?_)
          refine lv_istore (i := 8) (lv' := [(8, .int (q14.1)), (7, rv E (aR w a3.1 j4)), (0, rv E (some o)), (1, rv E a_1), (2, .int a_2), (3, .int a_3), (4, .int a_4), (5, .int a_5), (6, .int a_6)]) hx hb dX6_faultOf_73 hl (by decide) (by simp [List.filter_cons, cat_q, cat_i, cat_j, imax, imin]) (fun ls hl => ?_)
          refine lv_iload hx hb dX6_faultOf_75 (lv_at hl 0 rfl) ?_
          refine hl_aload_n hx hb dX6_faultOf_77 rfl (lv_at hl 3 rfl) ?_
          refine gn10_0 hx hb hts hown hKs hH ha1.1 ha1.2 m2_120 dX6_faultOf_78 ?_
          obtain ⟨a15, ha15, hf⟩ := bnd hf
          replace ha15 := chk_some ha15
          refine gn9_1 hx hb hts hown hKs hH ha15.1 ha15.2 m1_154 dX6_faultOf_81 ?_
          refine lv_iload hx hb dX6_faultOf_84 (lv_at hl 7 rfl) ?_
          obtain ⟨a16, ha16, hf⟩ := bnd hf
          replace ha16 := cha_some ha16
          obtain ⟨j17, hj17, hf⟩ := bnd hf
          refine hw_iald hx hb hKs hH ha16.1 ha16.2 hj17 dX6_faultOf_86 ?_
          refine lv_iconst (v := (-1)) hx hb dX6_faultOf_87 (by decide) ?_
          refine lv_ixor hx hb dX6_faultOf_88 ?_
          refine lv_iand hx hb dX6_faultOf_89 ?_
          refine lv_if_eq (tgt := 95) hx hb dX6_faultOf_90 (by decide) (fun c18 => ?_) (fun c18 => ?_)
          · replace hf := (if_pos c18).symm.trans hf
            refine lv_iload hx hb dX6_faultOf_95 (lv_at hl 0 rfl) ?_
            refine hl_aload_n hx hb dX6_faultOf_97 rfl (lv_at hl 2 rfl) ?_
            refine g6_0 hx hb hts hown hKs hH rfl ho m2_156 dX6_faultOf_98 ?_
            refine lv_iload hx hb dX6_faultOf_101 (lv_at hl 7 rfl) ?_
            obtain ⟨a19, ha19, hf⟩ := bnd hf
            replace ha19 := cha_some ha19
            obtain ⟨j20, hj20, hf⟩ := bnd hf
            refine hw_iald hx hb hKs hH ha19.1 ha19.2 hj20 dX6_faultOf_103 ?_
            refine lv_iand hx hb dX6_faultOf_104 ?_
            refine lv_if_eq (tgt := 110) hx hb dX6_faultOf_105 (by decide) (fun c21 => ?_) (fun c21 => ?_)
            · replace hf := (if_pos c21).symm.trans hf
              refine hl_aload_n hx hb dX6_faultOf_110 rfl (lv_at hl 2 rfl) ?_
              refine g6_5 hx hb hts hown hKs hH rfl ho m2_161 dX6_faultOf_111 ?_
              refine lv_iload hx hb dX6_faultOf_114 (lv_at hl 8 rfl) ?_
              obtain ⟨q22, hq22, hf⟩ := bnd hf
              refine hcM_i hx hb hml hown hts hKs hT hb0 hH (As := [.int ((wI q14.2 605 o)), .int a_6]) (rest := []) (k_X12_has l E K H.size (wI q14.2 605 o) a_6 q14.2 hq22) m4_180 m3_194 m1_1 m3_195 hs_X12_has ⟨Nat.le_of_ble_eq_true rfl, Nat.le_of_ble_eq_true rfl, rfl, rfl⟩ hl.1 rfl rc0 rfl dX6_faultOf_116 ⟨Nat.zero_le _, Nat.zero_le _⟩ (fun H locs hH => ?_)
              refine lv_if_eq (tgt := 124) hx hb dX6_faultOf_119 (by decide) (fun c23 => ?_) (fun c23 => ?_)
              · replace hf := (if_pos c23).symm.trans hf
                refine lv_iload hx hb dX6_faultOf_124 (lv_at hl 0 rfl) ?_
                refine hl_aload_n hx hb dX6_faultOf_126 rfl (lv_at hl 2 rfl) ?_
                refine g6_1 hx hb hts hown hKs hH rfl ho m2_157 dX6_faultOf_127 ?_
                refine lv_iload hx hb dX6_faultOf_130 (lv_at hl 8 rfl) ?_
                obtain ⟨a24, ha24, hf⟩ := bnd hf
                replace ha24 := cha_some ha24
                obtain ⟨j25, hj25, hf⟩ := bnd hf
                refine hw_iald hx hb hKs hH ha24.1 ha24.2 hj25 dX6_faultOf_132 ?_
                refine lv_iand hx hb dX6_faultOf_133 ?_
                refine lv_if_eq (tgt := 140) hx hb dX6_faultOf_134 (by decide) (fun c26 => ?_) (fun c26 => ?_)
                · replace hf := (if_pos c26).symm.trans hf
                  refine hl_aload_n hx hb dX6_faultOf_140 rfl (lv_at hl 2 rfl) ?_
                  refine g6_4 hx hb hts hown hKs hH rfl ho m2_160 dX6_faultOf_141 ?_
                  refine lv_iload hx hb dX6_faultOf_144 (lv_at hl 8 rfl) ?_
                  obtain ⟨q27, hq27, hf⟩ := bnd hf
                  refine hcM_i hx hb hml hown hts hKs hT hb0 hH (As := [.int ((wI q22.2 604 o)), .int a_6]) (rest := []) (k_X12_has l E K H.size (wI q22.2 604 o) a_6 q22.2 hq27) m4_180 m3_194 m1_1 m3_195 hs_X12_has ⟨Nat.le_of_ble_eq_true rfl, Nat.le_of_ble_eq_true rfl, rfl, rfl⟩ hl.1 rfl rc0 rfl dX6_faultOf_146 ⟨Nat.zero_le _, Nat.zero_le _⟩ (fun H locs hH => ?_)
                  refine lv_if_eq (tgt := 155) hx hb dX6_faultOf_149 (by decide) (fun c28 => ?_) (fun c28 => ?_)
                  · replace hf := (if_pos c28).symm.trans hf
                    refine lv_iload hx hb dX6_faultOf_155 (lv_at hl 0 rfl) ?_
                    refine hl_aload_n hx hb dX6_faultOf_157 rfl (lv_at hl 2 rfl) ?_
                    refine g6_6 hx hb hts hown hKs hH rfl ho m2_162 dX6_faultOf_158 ?_
                    refine lv_iand hx hb dX6_faultOf_161 ?_
                    refine lv_if_eq (tgt := 168) hx hb dX6_faultOf_162 (by decide) (fun c29 => ?_) (fun c29 => ?_)
                    · replace hf := (if_pos c29).symm.trans hf
                      refine lv_iload hx hb dX6_faultOf_168 (lv_at hl 0 rfl) ?_
                      refine hl_aload_n hx hb dX6_faultOf_170 rfl (lv_at hl 2 rfl) ?_
                      refine g6_7 hx hb hts hown hKs hH rfl ho m2_163 dX6_faultOf_171 ?_
                      refine lv_iand hx hb dX6_faultOf_174 ?_
                      refine lv_if_eq (tgt := 183) hx hb dX6_faultOf_175 (by decide) (fun c30 => ?_) (fun c30 => ?_)
                      · replace hf := (if_pos c30).symm.trans hf
                        refine lv_iconst (v := 0) hx hb dX6_faultOf_183 (by decide) ?_
                        exact hw_iret hx hb hret hf hH hlocks dX6_faultOf_184
                      · replace hf := (if_neg c30).symm.trans hf
                        refine lv_bipush (v := 9) hx hb dX6_faultOf_178 (by decide) ?_
                        refine lv_goto (tgt := 184) hx hb dX6_faultOf_180 (by decide) ?_
                        exact hw_iret hx hb hret hf hH hlocks dX6_faultOf_184
                    · replace hf := (if_neg c29).symm.trans hf
                      refine lv_bipush (v := 8) hx hb dX6_faultOf_165 (by decide) ?_
                      exact hw_iret hx hb hret hf hH hlocks dX6_faultOf_167
                  · replace hf := (if_neg c28).symm.trans hf
                    refine lv_bipush (v := 7) hx hb dX6_faultOf_152 (by decide) ?_
                    exact hw_iret hx hb hret hf hH hlocks dX6_faultOf_154
                · replace hf := (if_neg c26).symm.trans hf
                  refine lv_bipush (v := 6) hx hb dX6_faultOf_137 (by decide) ?_
                  exact hw_iret hx hb hret hf hH hlocks dX6_faultOf_139
              · replace hf := (if_neg c23).symm.trans hf
                refine lv_iconst (v := 5) hx hb dX6_faultOf_122 (by decide) ?_
                exact hw_iret hx hb hret hf hH hlocks dX6_faultOf_123
            · replace hf := (if_neg c21).symm.trans hf
              refine lv_iconst (v := 4) hx hb dX6_faultOf_108 (by decide) ?_
              exact hw_iret hx hb hret hf hH hlocks dX6_faultOf_109
          · replace hf := (if_neg c18).symm.trans hf
            refine lv_iconst (v := 3) hx hb dX6_faultOf_93 (by decide) ?_
            exact hw_iret hx hb hret hf hH hlocks dX6_faultOf_94
        · replace hf := (if_neg c11).symm.trans hf
          refine lv_iconst (v := 2) hx hb dX6_faultOf_47 (by decide) ?_
          exact hw_iret hx hb hret hf hH hlocks dX6_faultOf_48
      · replace hf := (if_pos c9).symm.trans hf
        refine lv_iconst (v := 1) hx hb dX6_faultOf_36 (by decide) ?_
        exact hw_iret hx hb hret hf hH hlocks dX6_faultOf_37

theorem dX6_findOn_0 : decode cX6_findOn 0 = .ok (.aload_n 1, 1) := by decide +kernel
theorem dX6_findOn_1 : decode cX6_findOn 1 = .ok (.iload_n 3, 1) := by decide +kernel
theorem dX6_findOn_2 : decode cX6_findOn 2 = .ok (.invokevirtual 45, 3) := by decide +kernel
theorem dX6_findOn_5 : decode cX6_findOn 5 = .ok (.ifCond .ne 5, 3) := by decide +kernel
theorem dX6_findOn_8 : decode cX6_findOn 8 = .ok (.iconst 0, 1) := by decide +kernel
theorem dX6_findOn_9 : decode cX6_findOn 9 = .ok (.ireturn, 1) := by decide +kernel
theorem dX6_findOn_10 : decode cX6_findOn 10 = .ok (.aload_n 0, 1) := by decide +kernel
theorem dX6_findOn_11 : decode cX6_findOn 11 = .ok (.aload_n 1, 1) := by decide +kernel
theorem dX6_findOn_12 : decode cX6_findOn 12 = .ok (.iload_n 2, 1) := by decide +kernel
theorem dX6_findOn_13 : decode cX6_findOn 13 = .ok (.iload_n 3, 1) := by decide +kernel
theorem dX6_findOn_14 : decode cX6_findOn 14 = .ok (.iload 4, 2) := by decide +kernel
theorem dX6_findOn_16 : decode cX6_findOn 16 = .ok (.invokevirtual 57, 3) := by decide +kernel
theorem dX6_findOn_19 : decode cX6_findOn 19 = .ok (.aload_n 1, 1) := by decide +kernel
theorem dX6_findOn_20 : decode cX6_findOn 20 = .ok (.getfield 24, 3) := by decide +kernel
theorem dX6_findOn_23 : decode cX6_findOn 23 = .ok (.getfield 30, 3) := by decide +kernel
theorem dX6_findOn_26 : decode cX6_findOn 26 = .ok (.iload_n 2, 1) := by decide +kernel
theorem dX6_findOn_27 : decode cX6_findOn 27 = .ok (.aaload, 1) := by decide +kernel
theorem dX6_findOn_28 : decode cX6_findOn 28 = .ok (.getfield 61, 3) := by decide +kernel
theorem dX6_findOn_31 : decode cX6_findOn 31 = .ok (.istore 5, 2) := by decide +kernel
theorem dX6_findOn_33 : decode cX6_findOn 33 = .ok (.iconst 0, 1) := by decide +kernel
theorem dX6_findOn_34 : decode cX6_findOn 34 = .ok (.istore 6, 2) := by decide +kernel
theorem dX6_findOn_36 : decode cX6_findOn 36 = .ok (.iload 6, 2) := by decide +kernel
theorem dX6_findOn_38 : decode cX6_findOn 38 = .ok (.iload 5, 2) := by decide +kernel
theorem dX6_findOn_40 : decode cX6_findOn 40 = .ok (.iadd, 1) := by decide +kernel
theorem dX6_findOn_41 : decode cX6_findOn 41 = .ok (.bipush 8, 2) := by decide +kernel
theorem dX6_findOn_43 : decode cX6_findOn 43 = .ok (.if_icmp .gt 59, 3) := by decide +kernel
theorem dX6_findOn_46 : decode cX6_findOn 46 = .ok (.iload 6, 2) := by decide +kernel
theorem dX6_findOn_48 : decode cX6_findOn 48 = .ok (.iload 5, 2) := by decide +kernel
theorem dX6_findOn_50 : decode cX6_findOn 50 = .ok (.invokestatic 64, 3) := by decide +kernel
theorem dX6_findOn_53 : decode cX6_findOn 53 = .ok (.istore 7, 2) := by decide +kernel
theorem dX6_findOn_55 : decode cX6_findOn 55 = .ok (.iload 7, 2) := by decide +kernel
theorem dX6_findOn_57 : decode cX6_findOn 57 = .ok (.aload_n 0, 1) := by decide +kernel
theorem dX6_findOn_58 : decode cX6_findOn 58 = .ok (.getfield 81, 3) := by decide +kernel
theorem dX6_findOn_61 : decode cX6_findOn 61 = .ok (.aload_n 0, 1) := by decide +kernel
theorem dX6_findOn_62 : decode cX6_findOn 62 = .ok (.getfield 84, 3) := by decide +kernel
theorem dX6_findOn_65 : decode cX6_findOn 65 = .ok (.ior, 1) := by decide +kernel
theorem dX6_findOn_66 : decode cX6_findOn 66 = .ok (.iand, 1) := by decide +kernel
theorem dX6_findOn_67 : decode cX6_findOn 67 = .ok (.ifCond .ne 29, 3) := by decide +kernel
theorem dX6_findOn_70 : decode cX6_findOn 70 = .ok (.aload_n 0, 1) := by decide +kernel
theorem dX6_findOn_71 : decode cX6_findOn 71 = .ok (.aload_n 1, 1) := by decide +kernel
theorem dX6_findOn_72 : decode cX6_findOn 72 = .ok (.getfield 24, 3) := by decide +kernel
theorem dX6_findOn_75 : decode cX6_findOn 75 = .ok (.iload 7, 2) := by decide +kernel
theorem dX6_findOn_77 : decode cX6_findOn 77 = .ok (.invokevirtual 137, 3) := by decide +kernel
theorem dX6_findOn_80 : decode cX6_findOn 80 = .ok (.ifCond .eq 16, 3) := by decide +kernel
theorem dX6_findOn_83 : decode cX6_findOn 83 = .ok (.aload_n 0, 1) := by decide +kernel
theorem dX6_findOn_84 : decode cX6_findOn 84 = .ok (.iload_n 3, 1) := by decide +kernel
theorem dX6_findOn_85 : decode cX6_findOn 85 = .ok (.putfield 102, 3) := by decide +kernel
theorem dX6_findOn_88 : decode cX6_findOn 88 = .ok (.aload_n 0, 1) := by decide +kernel
theorem dX6_findOn_89 : decode cX6_findOn 89 = .ok (.iload 6, 2) := by decide +kernel
theorem dX6_findOn_91 : decode cX6_findOn 91 = .ok (.putfield 103, 3) := by decide +kernel
theorem dX6_findOn_94 : decode cX6_findOn 94 = .ok (.iconst 1, 1) := by decide +kernel
theorem dX6_findOn_95 : decode cX6_findOn 95 = .ok (.ireturn, 1) := by decide +kernel
theorem dX6_findOn_96 : decode cX6_findOn 96 = .ok (.iinc 6 1, 3) := by decide +kernel
theorem dX6_findOn_99 : decode cX6_findOn 99 = .ok (.goto (-63), 3) := by decide +kernel
theorem dX6_findOn_102 : decode cX6_findOn 102 = .ok (.iconst 0, 1) := by decide +kernel
theorem dX6_findOn_103 : decode cX6_findOn 103 = .ok (.ireturn, 1) := by decide +kernel
theorem hd_X6_findOn : yX6_findOn.cls = RX6 ∧ yX6_findOn.cls ≠ "java/lang/invoke/MethodHandle" ∧ yX6_findOn.cls ≠ "java/lang/invoke/VarHandle" ∧ (parseMethodDescriptor yX6_findOn.desc).map (fun d => d.parameters.length) = some 4 := by decide +kernel
theorem hs_X6_findOn : yX6_findOn.cls ≠ "java/lang/invoke/MethodHandle" ∧ yX6_findOn.cls ≠ "java/lang/invoke/VarHandle" ∧ (parseMethodDescriptor yX6_findOn.desc).map (fun d => d.parameters.length) = some 4 := by decide +kernel
set_option maxHeartbeats 4000000 in
set_option maxRecDepth 100000 in
theorem l_X6_findOn_L36 (C : CX p l e s m args meth c cX6_findOn 8 RX6 (Option.some Jvm.ClassFile.FieldType.boolean) E) {o : Nat} (ho : K o = some (5, 0)) {r : Bool} {w' : Wd} (k : Option Nat → Int32 → Int32 → Int32 → Int32 → Int32 → Wd → Option (Bool × Wd)) (hk : ∀ (v1_36 : Option Nat) (v2_36 : Int32) (v3_36 : Int32) (v4_36 : Int32) (v5_36 : Int32) (v6_36 : Int32) (w : Wd) (H : Heap) (locs : List Loc) (ls : Array Slot), HQ E K z w s H locs → lv_has ls 8 [(1, rv E v1_36), (2, .int v2_36), (3, .int v3_36), (4, .int v4_36), (5, .int v5_36), (6, .int v6_36), (0, rv E (some o))] → k v1_36 v2_36 v3_36 v4_36 v5_36 v6_36 w = some (r, w') → W p l e ({ frames := 3, cells := 0, slots := 0, locals := 76 } : Room) s m args below meth c H locs 0 0 (MQ below (QI E K z w' (b2i r)) args s 0 0 (hA E)) (F0 m 102 ls [])) : ∀ (n : Nat) (v1_36 : Option Nat) (v2_36 : Int32) (v3_36 : Int32) (v4_36 : Int32) (v5_36 : Int32) (v6_36 : Int32) (w : Wd) (H : Heap) (locs : List Loc) (ls : Array Slot), HQ E K z w s H locs → lv_has ls 8 [(1, rv E v1_36), (2, .int v2_36), (3, .int v3_36), (4, .int v4_36), (5, .int v5_36), (6, .int v6_36), (0, rv E (some o))] → f_X6_findOn_L36 K o k n v1_36 v2_36 v3_36 v4_36 v5_36 v6_36 w = some (r, w') → W p l e ({ frames := 3, cells := 0, slots := 0, locals := 76 } : Room) s m args below meth c H locs 0 0 (MQ below (QI E K z w' (b2i r)) args s 0 0 (hA E)) (F0 m 36 ls []) := by
  obtain ⟨hx, hb, hml, hown, hts, hKs, hT, hb0, hlocks, hret⟩ := id C
  intro n
  induction n with
  | zero =>
    intro v1_36 v2_36 v3_36 v4_36 v5_36 v6_36 w H locs ls hH hl hf
    cases hf
  | succ n ih =>
    intro v1_36 v2_36 v3_36 v4_36 v5_36 v6_36 w H locs ls hH hl hf
    rw [f_X6_findOn_L36] at hf
    refine lv_iload hx hb dX6_findOn_36 (lv_at hl 5 rfl) ?_
    refine lv_iload hx hb dX6_findOn_38 (lv_at hl 4 rfl) ?_
    refine lv_iadd hx hb dX6_findOn_40 ?_
    refine lv_bipush (v := 8) hx hb dX6_findOn_41 (by decide) ?_
    refine lv_icmp_gt (tgt := 102) hx hb dX6_findOn_43 (by decide) (fun c10 => ?_) (fun c10 => ?_)
    · replace hf := (if_pos c10).symm.trans hf
      exact hk v1_36 v2_36 v3_36 v4_36 v5_36 v6_36 _ _ _ _ hH (lv_sub hl [0, 1, 2, 3, 4, 5, 6] rfl) hf
    · replace hf := (if_neg c10).symm.trans hf
      refine lv_iload hx hb dX6_findOn_46 (lv_at hl 5 rfl) ?_
      refine lv_iload hx hb dX6_findOn_48 (lv_at hl 4 rfl) ?_
      obtain ⟨q11, hq11, hf⟩ := bnd hf
      refine hcM_i hx hb hml hown hts hKs hT hb0 hH (As := [.int v6_36, .int v5_36]) (rest := []) (k_X12_slotSet l E K H.size v6_36 v5_36 w hq11) m4_171 m3_155 m1_1 m3_156 hs_X12_slotSet ⟨Nat.le_of_ble_eq_true rfl, Nat.le_of_ble_eq_true rfl, rfl, rfl⟩ hl.1 rfl rc0 rfl dX6_findOn_50 ⟨Nat.zero_le _, Nat.zero_le _⟩ (fun H locs hH => ?_)
      refine lv_istore (i := 7) (lv' := [(7, .int (q11.1)), (1, rv E v1_36), (2, .int v2_36), (3, .int v3_36), (4, .int v4_36), (5, .int v5_36), (6, .int v6_36), (0, rv E (some o))]) hx hb dX6_findOn_53 hl (by decide) rfl (fun ls hl => ?_)
      refine lv_iload hx hb dX6_findOn_55 (lv_at hl 0 rfl) ?_
      refine hl_aload_n hx hb dX6_findOn_57 rfl (lv_at hl 7 rfl) ?_
      refine g6_6 hx hb hts hown hKs hH rfl ho m2_162 dX6_findOn_58 ?_
      refine hl_aload_n hx hb dX6_findOn_61 rfl (lv_at hl 7 rfl) ?_
      refine g6_7 hx hb hts hown hKs hH rfl ho m2_163 dX6_findOn_62 ?_
      refine lv_ior hx hb dX6_findOn_65 ?_
      refine lv_iand hx hb dX6_findOn_66 ?_
      refine lv_if_ne (tgt := 96) hx hb dX6_findOn_67 (by decide) (fun c12 => ?_) (fun c12 => ?_)
      · replace hf := (if_neg c12).symm.trans hf
        refine lv_iinc (v := (v6_36 + 1)) (lv' := [(6, .int ((v6_36 + 1))), (7, .int (q11.1)), (1, rv E v1_36), (2, .int v2_36), (3, .int v3_36), (4, .int v4_36), (5, .int v5_36), (0, rv E (some o))]) hx hb dX6_findOn_96 hl (k := 6) rfl rfl (by decide) rfl (fun ls hl => ?_)
        refine lv_goto (tgt := 36) hx hb dX6_findOn_99 (by decide) ?_
        exact ih v1_36 v2_36 v3_36 v4_36 v5_36 (v6_36 + 1) _ _ _ _ hH (lv_sub hl [2, 3, 4, 5, 6, 0, 7] rfl) hf
      · replace hf := (if_pos c12).symm.trans hf
        refine hl_aload_n hx hb dX6_findOn_70 rfl (lv_at hl 7 rfl) ?_
        refine hl_aload_n hx hb dX6_findOn_71 rfl (lv_at hl 1 rfl) ?_
        obtain ⟨a13, ha13, hf⟩ := bnd hf
        replace ha13 := chk_some ha13
        refine gn10_0 hx hb hts hown hKs hH ha13.1 ha13.2 m2_120 dX6_findOn_72 ?_
        refine lv_iload hx hb dX6_findOn_75 (lv_at hl 0 rfl) ?_
        obtain ⟨q14, hq14, hf⟩ := bnd hf
        refine hcV_i hx hb hml hown hts hKs hT hb0 hH (As := [rv E (wR q11.2 1000 a13), .int (q11.1)]) (rest := []) (k_X6_findIn l E K H.size o (wR q11.2 1000 a13) q11.1 q11.2 ho hq14) (gV m4_172 m4_174 ms_28 m1_14 m4_175) hd_X6_findIn ⟨Nat.le_of_ble_eq_true rfl, Nat.le_of_ble_eq_true rfl, rfl, rfl⟩ rfl ho rfl rfl rfl hl.1 rfl rc0 rfl dX6_findOn_77 ⟨Nat.zero_le _, Nat.zero_le _⟩ (fun H locs hH => ?_)
        refine lv_if_eq (tgt := 96) hx hb dX6_findOn_80 (by decide) (fun c15 => ?_) (fun c15 => ?_)
        · replace hf := (if_pos c15).symm.trans hf
          refine lv_iinc (v := (v6_36 + 1)) (lv' := [(6, .int ((v6_36 + 1))), (7, .int (q11.1)), (1, rv E v1_36), (2, .int v2_36), (3, .int v3_36), (4, .int v4_36), (5, .int v5_36), (0, rv E (some o))]) hx hb dX6_findOn_96 hl (k := 6) rfl rfl (by decide) rfl (fun ls hl => ?_)
          refine lv_goto (tgt := 36) hx hb dX6_findOn_99 (by decide) ?_
          exact ih v1_36 v2_36 v3_36 v4_36 v5_36 (v6_36 + 1) _ _ _ _ hH (lv_sub hl [2, 3, 4, 5, 6, 0, 7] rfl) hf
        · replace hf := (if_neg c15).symm.trans hf
          refine hl_aload_n hx hb dX6_findOn_83 rfl (lv_at hl 7 rfl) ?_
          refine lv_iload_n hx hb dX6_findOn_84 rfl (lv_at hl 3 rfl) ?_
          obtain ⟨w16, hw16, hf⟩ := bnd hf
          replace hw16 := Option.some.inj hw16
          refine p6_8 (v := v3_36) hx hb hts hown hKs hH rfl ho m2_164 dX6_findOn_85 (fun H locs hH => ?_)
          rw [hw16] at hH
          refine hl_aload_n hx hb dX6_findOn_88 rfl (lv_at hl 7 rfl) ?_
          refine lv_iload hx hb dX6_findOn_89 (lv_at hl 6 rfl) ?_
          obtain ⟨w17, hw17, hf⟩ := bnd hf
          replace hw17 := Option.some.inj hw17
          refine p6_9 (v := v6_36) hx hb hts hown hKs hH rfl ho m2_166 dX6_findOn_91 (fun H locs hH => ?_)
          rw [hw17] at hH
          refine lv_iconst (v := 1) hx hb dX6_findOn_94 (by decide) ?_
          exact hw_zret hx hb hret rfl hf hH hlocks dX6_findOn_95
set_option maxHeartbeats 4000000 in
set_option maxRecDepth 100000 in
theorem k_X6_findOn (l : Launch) (E : Ev) (K : Kd) (z : Nat) (o : Nat) (a_1 : Option Nat) (a_2 : Int32) (a_3 : Int32) (a_4 : Int32) (w : Wd) (ho : K o = some (5, 0)) {r : Bool} {w' : Wd} (hf : f_X6_findOn K o a_1 a_2 a_3 a_4 w = some (r, w')) : Met l yX6_findOn (Cond.code yX6_findOn cX6_findOn 8 (Option.some Jvm.ClassFile.FieldType.boolean) :: bt) ({ frames := 3, cells := 0, slots := 0, locals := 76 } : Room) (va_Pc [rv E (some o), rv E a_1, .int a_2, .int a_3, .int a_4] (HB E K w z)) (QI E K z w' (b2i r)) 0 0 (hA E) := by
  refine Met.ofW (cc := cX6_findOn) (maxL := 8) (ret := (Option.some Jvm.ClassFile.FieldType.boolean)) (by decide) rfl ?_
  intro p e s m args below meth c s₁ B hml hv
  obtain ⟨rfl, hz, hP, hKs, hT, hb0⟩ := hv
  have C : CX p l e s m _ meth c cX6_findOn 8 RX6 (Option.some Jvm.ClassFile.FieldType.boolean) E := ⟨B.exec, B.bytes, hml, findClass_of_methodNamed B.named, fun w h => atoms_spec (ws := Cond.code yX6_findOn cX6_findOn 8 (Option.some Jvm.ClassFile.FieldType.boolean) :: bt) B.pre w (List.mem_cons_of_mem _ h), hKs, hT, by rw [hz]; exact hb0, B.notSynchronized, B.returns⟩
  have hH : HQ E K z w s s.heap [] := ⟨hP, va_S.rf, hz⟩
  obtain ⟨hx, hb, hml, hown, hts, hKs, hT, hb0, hlocks, hret⟩ := id C
  have hl := lv_entry [rv E (some o), rv E a_1, .int a_2, .int a_3, .int a_4] (n := 8) (by simp [lg_len_nil, lg_len_i, lg_len_j, lg_len_q, lg_len_f, lg_len_d, lg_len_r])
  rw [lg_entry_eq]
  generalize (lg_sl [rv E (some o), rv E a_1, .int a_2, .int a_3, .int a_4] ++ List.replicate (8 - (lg_sl [rv E (some o), rv E a_1, .int a_2, .int a_3, .int a_4]).length) Slot.unset).toArray = ls at hl ⊢
  replace hl : lv_has ls 8 [(0, rv E (some o)), (1, rv E a_1), (2, .int a_2), (3, .int a_3), (4, .int a_4)] := by simpa only [lv_args, cat_q, cat_i, cat_j, reduceIte, Nat.reduceEqDiff, Nat.reduceAdd, Nat.zero_add] using hl
  generalize s.heap = H at hH ⊢
  unfold f_X6_findOn at hf
  refine hl_aload_n hx hb dX6_findOn_0 rfl (lv_at hl 1 rfl) ?_
  refine lv_iload_n hx hb dX6_findOn_1 rfl (lv_at hl 3 rfl) ?_
  obtain ⟨a1, ha1, hf⟩ := bnd hf
  replace ha1 := chk_some ha1
  obtain ⟨q2, hq2, hf⟩ := bnd hf
  refine hcV_i hx hb hml hown hts hKs hT hb0 hH (As := [.int a_3]) (rest := []) (k_X10_works l E K H.size a1 a_3 w ha1.2 hq2) (gV m4_141 m4_70 m4_71 m1_12 m4_72) hd_X10_works ⟨Nat.le_of_ble_eq_true rfl, Nat.le_of_ble_eq_true rfl, rfl, rfl⟩ ha1.1 ha1.2 rfl rfl rfl hl.1 rfl rc0 rfl dX6_findOn_2 ⟨Nat.zero_le _, Nat.zero_le _⟩ (fun H locs hH => ?_)
  refine lv_if_ne (tgt := 10) hx hb dX6_findOn_5 (by decide) (fun c3 => ?_) (fun c3 => ?_)
  · replace hf := (if_neg c3).symm.trans hf
    refine hl_aload_n hx hb dX6_findOn_10 rfl (lv_at hl 0 rfl) ?_
    refine hl_aload_n hx hb dX6_findOn_11 rfl (lv_at hl 1 rfl) ?_
    refine lv_iload_n hx hb dX6_findOn_12 rfl (lv_at hl 2 rfl) ?_
    refine lv_iload_n hx hb dX6_findOn_13 rfl (lv_at hl 3 rfl) ?_
    refine lv_iload hx hb dX6_findOn_14 (lv_at hl 4 rfl) ?_
    obtain ⟨q4, hq4, hf⟩ := bnd hf
    refine hcV_v hx hb hml hown hts hKs hT hb0 hH (As := [rv E a_1, .int a_2, .int a_3, .int a_4]) (rest := []) (k_X6_lookAtDay l E K H.size o a_1 a_2 a_3 a_4 q2.2 ho hq4) (gV m4_142 m4_144 ms_27 m1_14 m4_145) hd_X6_lookAtDay ⟨Nat.le_of_ble_eq_true rfl, Nat.le_of_ble_eq_true rfl, rfl, rfl⟩ rfl ho rfl rfl rfl hl.1 rfl rc0 rfl dX6_findOn_16 ⟨Nat.zero_le _, Nat.zero_le _⟩ (fun H locs hH => ?_)
    refine hl_aload_n hx hb dX6_findOn_19 rfl (lv_at hl 1 rfl) ?_
    refine gn10_0 hx hb hts hown hKs hH ha1.1 ha1.2 m2_120 dX6_findOn_20 ?_
    obtain ⟨a5, ha5, hf⟩ := bnd hf
    replace ha5 := chk_some ha5
    refine gn9_9 hx hb hts hown hKs hH ha5.1 ha5.2 m1_176 dX6_findOn_23 ?_
    refine lv_iload_n hx hb dX6_findOn_26 rfl (lv_at hl 2 rfl) ?_
    obtain ⟨a6, ha6, hf⟩ := bnd hf
    replace ha6 := cha_some ha6
    obtain ⟨j7, hj7, hf⟩ := bnd hf
    refine hw_aald25 hx hb hKs hH ha6.1 ha6.2 hj7 dX6_findOn_27 ?_
    obtain ⟨a8, ha8, hf⟩ := bnd hf
    replace ha8 := chk_some ha8
    refine gn3_1 hx hb hts hown hKs hH ha8.1 ha8.2 m1_93 dX6_findOn_28 ?_
    refine lv_istore (i := 5) (lv' := [(5, .int ((wI q4 301 a8))), (0, rv E (some o)), (1, rv E a_1), (2, .int a_2), (3, .int a_3), (4, .int a_4)]) hx hb dX6_findOn_31 hl (by decide) rfl (fun ls hl => ?_)
    refine lv_iconst (v := 0) hx hb dX6_findOn_33 (by decide) ?_
    refine lv_istore (i := 6) (lv' := [(6, .int 0), (5, .int ((wI q4 301 a8))), (0, rv E (some o)), (1, rv E a_1), (2, .int a_2), (3, .int a_3), (4, .int a_4)]) hx hb dX6_findOn_34 hl (by decide) rfl (fun ls hl => ?_)
    refine l_X6_findOn_L36  C ho _ (fun v1_36 v2_36 v3_36 v4_36 v5_36 v6_36 w9 H locs ls hH hl hf => ?_) fu a_1 a_2 a_3 a_4 (wI q4 301 a8) 0 q4 _ _ _ hH (lv_sub hl [3, 4, 5, 6, 1, 0, 2] rfl) hf
    refine lv_iconst (v := 0) hx hb dX6_findOn_102 (by decide) ?_
    exact hw_zret hx hb hret rfl hf hH hlocks dX6_findOn_103
  · replace hf := (if_pos c3).symm.trans hf
    refine lv_iconst (v := 0) hx hb dX6_findOn_8 (by decide) ?_
    exact hw_zret hx hb hret rfl hf hH hlocks dX6_findOn_9
end
