section
variable {p : Program} {l : Launch} {e : Env} {s : State} {m : MethodId} {args : Array Value} {below : List Frame} {meth : Method} {c : Code} {E : Ev} {K : Kd} {z : Nat}

theorem dX13_addBar_0 : decode cX13_addBar 0 = .ok (.aload_n 0, 1) := by decide +kernel
theorem dX13_addBar_1 : decode cX13_addBar 1 = .ok (.aload_n 0, 1) := by decide +kernel
theorem dX13_addBar_2 : decode cX13_addBar 2 = .ok (.iload_n 1, 1) := by decide +kernel
theorem dX13_addBar_3 : decode cX13_addBar 3 = .ok (.invokevirtual 203, 3) := by decide +kernel
theorem dX13_addBar_6 : decode cX13_addBar 6 = .ok (.ifCond .eq 15, 3) := by decide +kernel
theorem dX13_addBar_9 : decode cX13_addBar 9 = .ok (.aload_n 0, 1) := by decide +kernel
theorem dX13_addBar_10 : decode cX13_addBar 10 = .ok (.iload_n 2, 1) := by decide +kernel
theorem dX13_addBar_11 : decode cX13_addBar 11 = .ok (.invokevirtual 148, 3) := by decide +kernel
theorem dX13_addBar_14 : decode cX13_addBar 14 = .ok (.ifCond .eq 7, 3) := by decide +kernel
theorem dX13_addBar_17 : decode cX13_addBar 17 = .ok (.iconst 1, 1) := by decide +kernel
theorem dX13_addBar_18 : decode cX13_addBar 18 = .ok (.goto 4, 3) := by decide +kernel
theorem dX13_addBar_21 : decode cX13_addBar 21 = .ok (.iconst 0, 1) := by decide +kernel
theorem dX13_addBar_22 : decode cX13_addBar 22 = .ok (.invokevirtual 110, 3) := by decide +kernel
theorem dX13_addBar_25 : decode cX13_addBar 25 = .ok (.ifCond .eq 32, 3) := by decide +kernel
theorem dX13_addBar_28 : decode cX13_addBar 28 = .ok (.aload_n 0, 1) := by decide +kernel
theorem dX13_addBar_29 : decode cX13_addBar 29 = .ok (.aload_n 0, 1) := by decide +kernel
theorem dX13_addBar_30 : decode cX13_addBar 30 = .ok (.getfield 16, 3) := by decide +kernel
theorem dX13_addBar_33 : decode cX13_addBar 33 = .ok (.bipush 34, 2) := by decide +kernel
theorem dX13_addBar_35 : decode cX13_addBar 35 = .ok (.iload_n 2, 1) := by decide +kernel
theorem dX13_addBar_36 : decode cX13_addBar 36 = .ok (.iadd, 1) := by decide +kernel
theorem dX13_addBar_37 : decode cX13_addBar 37 = .ok (.iaload, 1) := by decide +kernel
theorem dX13_addBar_38 : decode cX13_addBar 38 = .ok (.iload_n 1, 1) := by decide +kernel
theorem dX13_addBar_39 : decode cX13_addBar 39 = .ok (.invokestatic 167, 3) := by decide +kernel
theorem dX13_addBar_42 : decode cX13_addBar 42 = .ok (.ifCond .ne 7, 3) := by decide +kernel
theorem dX13_addBar_45 : decode cX13_addBar 45 = .ok (.iconst 1, 1) := by decide +kernel
theorem dX13_addBar_46 : decode cX13_addBar 46 = .ok (.goto 4, 3) := by decide +kernel
theorem dX13_addBar_49 : decode cX13_addBar 49 = .ok (.iconst 0, 1) := by decide +kernel
theorem dX13_addBar_50 : decode cX13_addBar 50 = .ok (.iconst 2, 1) := by decide +kernel
theorem dX13_addBar_51 : decode cX13_addBar 51 = .ok (.invokevirtual 214, 3) := by decide +kernel
theorem dX13_addBar_54 : decode cX13_addBar 54 = .ok (.ifCond .ne 5, 3) := by decide +kernel
theorem dX13_addBar_57 : decode cX13_addBar 57 = .ok (.iconst 0, 1) := by decide +kernel
theorem dX13_addBar_58 : decode cX13_addBar 58 = .ok (.ireturn, 1) := by decide +kernel
theorem dX13_addBar_59 : decode cX13_addBar 59 = .ok (.aload_n 0, 1) := by decide +kernel
theorem dX13_addBar_60 : decode cX13_addBar 60 = .ok (.invokevirtual 262, 3) := by decide +kernel
theorem dX13_addBar_63 : decode cX13_addBar 63 = .ok (.aload_n 0, 1) := by decide +kernel
theorem dX13_addBar_64 : decode cX13_addBar 64 = .ok (.getfield 16, 3) := by decide +kernel
theorem dX13_addBar_67 : decode cX13_addBar 67 = .ok (.bipush 34, 2) := by decide +kernel
theorem dX13_addBar_69 : decode cX13_addBar 69 = .ok (.iload_n 2, 1) := by decide +kernel
theorem dX13_addBar_70 : decode cX13_addBar 70 = .ok (.iadd, 1) := by decide +kernel
theorem dX13_addBar_71 : decode cX13_addBar 71 = .ok (.aload_n 0, 1) := by decide +kernel
theorem dX13_addBar_72 : decode cX13_addBar 72 = .ok (.getfield 16, 3) := by decide +kernel
theorem dX13_addBar_75 : decode cX13_addBar 75 = .ok (.bipush 34, 2) := by decide +kernel
theorem dX13_addBar_77 : decode cX13_addBar 77 = .ok (.iload_n 2, 1) := by decide +kernel
theorem dX13_addBar_78 : decode cX13_addBar 78 = .ok (.iadd, 1) := by decide +kernel
theorem dX13_addBar_79 : decode cX13_addBar 79 = .ok (.iaload, 1) := by decide +kernel
theorem dX13_addBar_80 : decode cX13_addBar 80 = .ok (.iconst 1, 1) := by decide +kernel
theorem dX13_addBar_81 : decode cX13_addBar 81 = .ok (.iload_n 1, 1) := by decide +kernel
theorem dX13_addBar_82 : decode cX13_addBar 82 = .ok (.ishl, 1) := by decide +kernel
theorem dX13_addBar_83 : decode cX13_addBar 83 = .ok (.ior, 1) := by decide +kernel
theorem dX13_addBar_84 : decode cX13_addBar 84 = .ok (.iastore, 1) := by decide +kernel
theorem dX13_addBar_85 : decode cX13_addBar 85 = .ok (.aload_n 0, 1) := by decide +kernel
theorem dX13_addBar_86 : decode cX13_addBar 86 = .ok (.iload_n 2, 1) := by decide +kernel
theorem dX13_addBar_87 : decode cX13_addBar 87 = .ok (.iconst 0, 1) := by decide +kernel
theorem dX13_addBar_88 : decode cX13_addBar 88 = .ok (.invokevirtual 141, 3) := by decide +kernel
theorem dX13_addBar_91 : decode cX13_addBar 91 = .ok (.iconst 1, 1) := by decide +kernel
theorem dX13_addBar_92 : decode cX13_addBar 92 = .ok (.if_icmp .ne 18, 3) := by decide +kernel
theorem dX13_addBar_95 : decode cX13_addBar 95 = .ok (.aload_n 0, 1) := by decide +kernel
theorem dX13_addBar_96 : decode cX13_addBar 96 = .ok (.iload_n 2, 1) := by decide +kernel
theorem dX13_addBar_97 : decode cX13_addBar 97 = .ok (.bipush 6, 2) := by decide +kernel
theorem dX13_addBar_99 : decode cX13_addBar 99 = .ok (.invokevirtual 141, 3) := by decide +kernel
theorem dX13_addBar_102 : decode cX13_addBar 102 = .ok (.iload_n 1, 1) := by decide +kernel
theorem dX13_addBar_103 : decode cX13_addBar 103 = .ok (.if_icmp .ne 7, 3) := by decide +kernel
theorem dX13_addBar_106 : decode cX13_addBar 106 = .ok (.iconst 1, 1) := by decide +kernel
theorem dX13_addBar_107 : decode cX13_addBar 107 = .ok (.goto 4, 3) := by decide +kernel
theorem dX13_addBar_110 : decode cX13_addBar 110 = .ok (.iconst 0, 1) := by decide +kernel
theorem dX13_addBar_111 : decode cX13_addBar 111 = .ok (.istore_n 3, 1) := by decide +kernel
theorem dX13_addBar_112 : decode cX13_addBar 112 = .ok (.iload_n 3, 1) := by decide +kernel
theorem dX13_addBar_113 : decode cX13_addBar 113 = .ok (.ifCond .eq 9, 3) := by decide +kernel
theorem dX13_addBar_116 : decode cX13_addBar 116 = .ok (.aload_n 0, 1) := by decide +kernel
theorem dX13_addBar_117 : decode cX13_addBar 117 = .ok (.iload_n 2, 1) := by decide +kernel
theorem dX13_addBar_118 : decode cX13_addBar 118 = .ok (.iconst 1, 1) := by decide +kernel
theorem dX13_addBar_119 : decode cX13_addBar 119 = .ok (.invokevirtual 282, 3) := by decide +kernel
theorem dX13_addBar_122 : decode cX13_addBar 122 = .ok (.aload_n 0, 1) := by decide +kernel
theorem dX13_addBar_123 : decode cX13_addBar 123 = .ok (.iconst 1, 1) := by decide +kernel
theorem dX13_addBar_124 : decode cX13_addBar 124 = .ok (.invokevirtual 269, 3) := by decide +kernel
theorem dX13_addBar_127 : decode cX13_addBar 127 = .ok (.iconst 1, 1) := by decide +kernel
theorem dX13_addBar_128 : decode cX13_addBar 128 = .ok (.if_icmp .ne 11, 3) := by decide +kernel
theorem dX13_addBar_131 : decode cX13_addBar 131 = .ok (.iload_n 3, 1) := by decide +kernel
theorem dX13_addBar_132 : decode cX13_addBar 132 = .ok (.ifCond .eq 7, 3) := by decide +kernel
theorem dX13_addBar_135 : decode cX13_addBar 135 = .ok (.iconst 1, 1) := by decide +kernel
theorem dX13_addBar_136 : decode cX13_addBar 136 = .ok (.goto 4, 3) := by decide +kernel
theorem dX13_addBar_139 : decode cX13_addBar 139 = .ok (.iconst 0, 1) := by decide +kernel
theorem dX13_addBar_140 : decode cX13_addBar 140 = .ok (.ireturn, 1) := by decide +kernel
theorem hd_X13_addBar : yX13_addBar.cls = RX13 ∧ yX13_addBar.cls ≠ "java/lang/invoke/MethodHandle" ∧ yX13_addBar.cls ≠ "java/lang/invoke/VarHandle" ∧ (parseMethodDescriptor yX13_addBar.desc).map (fun d => d.parameters.length) = some 2 := by decide +kernel
theorem hs_X13_addBar : yX13_addBar.cls ≠ "java/lang/invoke/MethodHandle" ∧ yX13_addBar.cls ≠ "java/lang/invoke/VarHandle" ∧ (parseMethodDescriptor yX13_addBar.desc).map (fun d => d.parameters.length) = some 2 := by decide +kernel
set_option maxHeartbeats 4000000 in
set_option maxRecDepth 100000 in
theorem k_X13_addBar (l : Launch) (E : Ev) (K : Kd) (z : Nat) (o : Nat) (a_1 : Int32) (a_2 : Int32) (w : Wd) (ho : K o = some (11, 0)) {r : Bool} {w' : Wd} (hf : f_X13_addBar K o a_1 a_2 w = some (r, w')) : Met l yX13_addBar (Cond.code yX13_addBar cX13_addBar 4 (Option.some Jvm.ClassFile.FieldType.boolean) :: bt) ({ frames := 3, cells := 0, slots := 0, locals := 70 } : Room) (va_Pc [rv E (some o), .int a_1, .int a_2] (HB E K w z)) (QI E K z w' (b2i r)) 0 0 (hA E) := by
  refine Met.ofW (cc := cX13_addBar) (maxL := 4) (ret := (Option.some Jvm.ClassFile.FieldType.boolean)) (by decide) rfl ?_
  intro p e s m args below meth c s₁ B hml hv
  obtain ⟨rfl, hz, hP, hKs, hT, hb0⟩ := hv
  have C : CX p l e s m _ meth c cX13_addBar 4 RX13 (Option.some Jvm.ClassFile.FieldType.boolean) E := ⟨B.exec, B.bytes, hml, findClass_of_methodNamed B.named, fun w h => atoms_spec (ws := Cond.code yX13_addBar cX13_addBar 4 (Option.some Jvm.ClassFile.FieldType.boolean) :: bt) B.pre w (List.mem_cons_of_mem _ h), hKs, hT, by rw [hz]; exact hb0, B.notSynchronized, B.returns⟩
  have hH : HQ E K z w s s.heap [] := ⟨hP, va_S.rf, hz⟩
  obtain ⟨hx, hb, hml, hown, hts, hKs, hT, hb0, hlocks, hret⟩ := id C
  have hl := lv_entry [rv E (some o), .int a_1, .int a_2] (n := 4) (by simp [lg_len_nil, lg_len_i, lg_len_j, lg_len_q, lg_len_f, lg_len_d, lg_len_r])
  rw [lg_entry_eq]
  generalize (lg_sl [rv E (some o), .int a_1, .int a_2] ++ List.replicate (4 - (lg_sl [rv E (some o), .int a_1, .int a_2]).length) Slot.unset).toArray = ls at hl ⊢
  replace hl : lv_has ls 4 [(0, rv E (some o)), (1, .int a_1), (2, .int a_2)] := by simpa only [lv_args, cat_q, cat_i, cat_j, reduceIte, Nat.reduceEqDiff, Nat.reduceAdd, Nat.zero_add] using hl
  generalize s.heap = H at hH ⊢
  unfold f_X13_addBar at hf
  refine hl_aload_n hx hb dX13_addBar_0 rfl (lv_at hl 0 rfl) ?_
  refine hl_aload_n hx hb dX13_addBar_1 rfl (lv_at hl 0 rfl) ?_
  refine lv_iload_n hx hb dX13_addBar_2 rfl (lv_at hl 1 rfl) ?_
  obtain ⟨q1, hq1, hf⟩ := bnd hf
  refine hcV_i hx hb hml hown hts hKs hT hb0 hH (As := [.int a_1]) (rest := [rv E (some o)]) (k_X13_isOfficer l E K H.size o a_1 w ho hq1) (gV m7_175 m7_177 ms_60 m1_16 m7_178) hd_X13_isOfficer ⟨Nat.le_of_ble_eq_true rfl, Nat.le_of_ble_eq_true rfl, rfl, rfl⟩ rfl ho rfl rfl rfl hl.1 rfl (rcV rc0) rfl dX13_addBar_3 ⟨Nat.zero_le _, Nat.zero_le _⟩ (fun H locs hH => ?_)
  refine lv_if_eq (tgt := 21) hx hb dX13_addBar_6 (by decide) (fun c2 => ?_) (fun c2 => ?_)
  · replace hf := (if_pos c2).symm.trans hf
    refine lv_iconst (v := 0) hx hb dX13_addBar_21 (by decide) ?_
    obtain ⟨q3, hq3, hf⟩ := bnd hf
    refine hcV_i hx hb hml hown hts hKs hT hb0 hH (As := [.int 0]) (rest := []) (k_X13_is l E K H.size o false q1.2 ho hq3) (gV m7_68 m7_70 ms_47 m1_16 m7_71) hd_X13_is ⟨Nat.le_of_ble_eq_true rfl, Nat.le_of_ble_eq_true rfl, rfl, rfl⟩ rfl ho rfl rfl rfl hl.1 rfl rc0 rfl dX13_addBar_22 ⟨Nat.zero_le _, Nat.zero_le _⟩ (fun H locs hH => ?_)
    refine lv_if_eq (tgt := 57) hx hb dX13_addBar_25 (by decide) (fun c4 => ?_) (fun c4 => ?_)
    · replace hf := (if_pos c4).symm.trans hf
      refine lv_iconst (v := 0) hx hb dX13_addBar_57 (by decide) ?_
      exact hw_zret hx hb hret rfl hf hH hlocks dX13_addBar_58
    · replace hf := (if_neg c4).symm.trans hf
      refine hl_aload_n hx hb dX13_addBar_28 rfl (lv_at hl 0 rfl) ?_
      refine hl_aload_n hx hb dX13_addBar_29 rfl (lv_at hl 0 rfl) ?_
      refine g13_3 hx hb hts hown hKs hH rfl ho m6_184 dX13_addBar_30 ?_
      refine lv_bipush (v := 34) hx hb dX13_addBar_33 (by decide) ?_
      refine lv_iload_n hx hb dX13_addBar_35 rfl (lv_at hl 2 rfl) ?_
      refine lv_iadd hx hb dX13_addBar_36 ?_
      obtain ⟨a5, ha5, hf⟩ := bnd hf
      replace ha5 := cha_some ha5
      obtain ⟨j6, hj6, hf⟩ := bnd hf
      refine hw_iald hx hb hKs hH ha5.1 ha5.2 hj6 dX13_addBar_37 ?_
      refine lv_iload_n hx hb dX13_addBar_38 rfl (lv_at hl 1 rfl) ?_
      obtain ⟨q7, hq7, hf⟩ := bnd hf
      refine hcS_i hx hb hml hown hts hKs hT hb0 hH (As := [.int ((aI q3.2 a5.1 j6)), .int a_1]) (rest := [rv E (some o)]) (k_X13_has l E K H.size (aI q3.2 a5.1 j6) a_1 q3.2 hq7) (gS m7_223 m7_224 m1_16 m7_225) hs_X13_has ⟨Nat.le_of_ble_eq_true rfl, Nat.le_of_ble_eq_true rfl, rfl, rfl⟩ hl.1 rfl (rcV rc0) rfl dX13_addBar_39 ⟨Nat.zero_le _, Nat.zero_le _⟩ (fun H locs hH => ?_)
      refine lv_if_ne (tgt := 49) hx hb dX13_addBar_42 (by decide) (fun c8 => ?_) (fun c8 => ?_)
      · replace hf := (if_neg c8).symm.trans hf
        refine lv_iconst (v := 0) hx hb dX13_addBar_49 (by decide) ?_
        refine lv_iconst (v := 2) hx hb dX13_addBar_50 (by decide) ?_
        obtain ⟨q9, hq9, hf⟩ := bnd hf
        refine hcV_i hx hb hml hown hts hKs hT hb0 hH (As := [.int 0, .int 2]) (rest := []) (k_X13_may l E K H.size o false 2 q7.2 ho hq9) (gV m7_183 m7_185 ms_61 m1_16 m7_186) hd_X13_may ⟨Nat.le_of_ble_eq_true rfl, Nat.le_of_ble_eq_true rfl, rfl, rfl⟩ rfl ho rfl rfl rfl hl.1 rfl rc0 rfl dX13_addBar_51 ⟨Nat.zero_le _, Nat.zero_le _⟩ (fun H locs hH => ?_)
        refine lv_if_ne (tgt := 59) hx hb dX13_addBar_54 (by decide) (fun c10 => ?_) (fun c10 => ?_)
        · replace hf := (if_neg c10).symm.trans hf
          refine hl_aload_n hx hb dX13_addBar_59 rfl (lv_at hl 0 rfl) ?_
          obtain ⟨q11, hq11, hf⟩ := bnd hf
          refine hcV_v hx hb hml hown hts hKs hT hb0 hH (As := []) (rest := []) (k_X13_starts l E K H.size o q9.2 ho hq11) (gV m8_38 m8_40 ms_80 m1_16 m8_41) hd_X13_starts ⟨Nat.le_of_ble_eq_true rfl, Nat.le_of_ble_eq_true rfl, rfl, rfl⟩ rfl ho rfl rfl rfl hl.1 rfl rc0 rfl dX13_addBar_60 ⟨Nat.zero_le _, Nat.zero_le _⟩ (fun H locs hH => ?_)
          refine hl_aload_n hx hb dX13_addBar_63 rfl (lv_at hl 0 rfl) ?_
          refine g13_3 hx hb hts hown hKs hH rfl ho m6_184 dX13_addBar_64 ?_
          refine lv_bipush (v := 34) hx hb dX13_addBar_67 (by decide) ?_
          refine lv_iload_n hx hb dX13_addBar_69 rfl (lv_at hl 2 rfl) ?_
          refine lv_iadd hx hb dX13_addBar_70 ?_
          refine hl_aload_n hx hb dX13_addBar_71 rfl (lv_at hl 0 rfl) ?_
          refine g13_3 hx hb hts hown hKs hH rfl ho m6_184 dX13_addBar_72 ?_
          refine lv_bipush (v := 34) hx hb dX13_addBar_75 (by decide) ?_
          refine lv_iload_n hx hb dX13_addBar_77 rfl (lv_at hl 2 rfl) ?_
          refine lv_iadd hx hb dX13_addBar_78 ?_
          obtain ⟨a12, ha12, hf⟩ := bnd hf
          replace ha12 := cha_some ha12
          obtain ⟨j13, hj13, hf⟩ := bnd hf
          refine hw_iald hx hb hKs hH ha12.1 ha12.2 hj13 dX13_addBar_79 ?_
          refine lv_iconst (v := 1) hx hb dX13_addBar_80 (by decide) ?_
          refine lv_iload_n hx hb dX13_addBar_81 rfl (lv_at hl 1 rfl) ?_
          refine lv_ishl hx hb dX13_addBar_82 ?_
          refine lv_ior hx hb dX13_addBar_83 ?_
          obtain ⟨j14, hj14, hf⟩ := bnd hf
          obtain ⟨w15, hw15, hf⟩ := bnd hf
          replace hw15 := Option.some.inj hw15
          refine hw_iast (x := ((aI q11 a12.1 j13) ||| (1 <<< (a_1 &&& 31)))) hx hb hKs hH ha12.1 ha12.2 hj14 dX13_addBar_84 (fun H locs hH => ?_)
          rw [hw15] at hH
          refine hl_aload_n hx hb dX13_addBar_85 rfl (lv_at hl 0 rfl) ?_
          refine lv_iload_n hx hb dX13_addBar_86 rfl (lv_at hl 2 rfl) ?_
          refine lv_iconst (v := 0) hx hb dX13_addBar_87 (by decide) ?_
          obtain ⟨q16, hq16, hf⟩ := bnd hf
          refine hcV_i hx hb hml hown hts hKs hT hb0 hH (As := [.int a_2, .int 0]) (rest := []) (k_X13_of l E K H.size o a_2 0 w15 ho hq16) (gV m7_126 m7_128 ms_54 m1_16 m7_129) hd_X13_of ⟨Nat.le_of_ble_eq_true rfl, Nat.le_of_ble_eq_true rfl, rfl, rfl⟩ rfl ho rfl rfl rfl hl.1 rfl rc0 rfl dX13_addBar_88 ⟨Nat.zero_le _, Nat.zero_le _⟩ (fun H locs hH => ?_)
          refine lv_iconst (v := 1) hx hb dX13_addBar_91 (by decide) ?_
          refine lv_icmp_ne (tgt := 110) hx hb dX13_addBar_92 (by decide) (fun c17 => ?_) (fun c17 => ?_)
          · replace hf := (if_neg c17).symm.trans hf
            refine lv_iconst (v := 0) hx hb dX13_addBar_110 (by decide) ?_
            refine lv_istore_n (i := 3) (lv' := [(3, .int 0), (0, rv E (some o)), (1, .int a_1), (2, .int a_2)]) hx hb dX13_addBar_111 rfl hl (by decide) rfl (fun ls hl => ?_)
            refine lv_iload_n hx hb dX13_addBar_112 rfl (lv_at hl 0 rfl) ?_
            refine lv_if_eq (tgt := 122) hx hb dX13_addBar_113 (by decide) (fun c18 => ?_) (fun c18 => ?_)
            · skip
              refine hl_aload_n hx hb dX13_addBar_122 rfl (lv_at hl 1 rfl) ?_
              refine lv_iconst (v := 1) hx hb dX13_addBar_123 (by decide) ?_
              obtain ⟨q19, hq19, hf⟩ := bnd hf
              refine hcV_i hx hb hml hown hts hKs hT hb0 hH (As := [.int 1]) (rest := []) (k_X13_done l E K H.size o 1 q16.2 ho hq19) (gV m8_50 m8_52 ms_83 m1_16 m8_53) hd_X13_done ⟨Nat.le_of_ble_eq_true rfl, Nat.le_of_ble_eq_true rfl, rfl, rfl⟩ rfl ho rfl rfl rfl hl.1 rfl rc0 rfl dX13_addBar_124 ⟨Nat.zero_le _, Nat.zero_le _⟩ (fun H locs hH => ?_)
              refine lv_iconst (v := 1) hx hb dX13_addBar_127 (by decide) ?_
              refine lv_icmp_ne (tgt := 139) hx hb dX13_addBar_128 (by decide) (fun c20 => ?_) (fun c20 => ?_)
              · replace hf := (if_neg c20).symm.trans hf
                refine lv_iconst (v := 0) hx hb dX13_addBar_139 (by decide) ?_
                exact hw_zret hx hb hret rfl hf hH hlocks dX13_addBar_140
              · replace hf := (if_pos c20).symm.trans hf
                refine lv_iload_n hx hb dX13_addBar_131 rfl (lv_at hl 0 rfl) ?_
                refine lv_if_eq (tgt := 139) hx hb dX13_addBar_132 (by decide) (fun c21 => ?_) (fun c21 => ?_)
                · skip
                  refine lv_iconst (v := 0) hx hb dX13_addBar_139 (by decide) ?_
                  exact hw_zret hx hb hret rfl hf hH hlocks dX13_addBar_140
                · exact (by revert c21; decide : False).elim
            · exact (by revert c18; decide : False).elim
          · replace hf := (if_pos c17).symm.trans hf
            refine hl_aload_n hx hb dX13_addBar_95 rfl (lv_at hl 0 rfl) ?_
            refine lv_iload_n hx hb dX13_addBar_96 rfl (lv_at hl 2 rfl) ?_
            refine lv_bipush (v := 6) hx hb dX13_addBar_97 (by decide) ?_
            obtain ⟨q22, hq22, hf⟩ := bnd hf
            refine hcV_i hx hb hml hown hts hKs hT hb0 hH (As := [.int a_2, .int 6]) (rest := []) (k_X13_of l E K H.size o a_2 6 q16.2 ho hq22) (gV m7_126 m7_128 ms_54 m1_16 m7_129) hd_X13_of ⟨Nat.le_of_ble_eq_true rfl, Nat.le_of_ble_eq_true rfl, rfl, rfl⟩ rfl ho rfl rfl rfl hl.1 rfl rc0 rfl dX13_addBar_99 ⟨Nat.zero_le _, Nat.zero_le _⟩ (fun H locs hH => ?_)
            refine lv_iload_n hx hb dX13_addBar_102 rfl (lv_at hl 1 rfl) ?_
            refine lv_icmp_ne (tgt := 110) hx hb dX13_addBar_103 (by decide) (fun c23 => ?_) (fun c23 => ?_)
            · replace hf := (if_neg c23).symm.trans hf
              refine lv_iconst (v := 0) hx hb dX13_addBar_110 (by decide) ?_
              refine lv_istore_n (i := 3) (lv' := [(3, .int 0), (0, rv E (some o)), (1, .int a_1), (2, .int a_2)]) hx hb dX13_addBar_111 rfl hl (by decide) rfl (fun ls hl => ?_)
              refine lv_iload_n hx hb dX13_addBar_112 rfl (lv_at hl 0 rfl) ?_
              refine lv_if_eq (tgt := 122) hx hb dX13_addBar_113 (by decide) (fun c24 => ?_) (fun c24 => ?_)
              · skip
                refine hl_aload_n hx hb dX13_addBar_122 rfl (lv_at hl 1 rfl) ?_
                refine lv_iconst (v := 1) hx hb dX13_addBar_123 (by decide) ?_
                obtain ⟨q25, hq25, hf⟩ := bnd hf
                refine hcV_i hx hb hml hown hts hKs hT hb0 hH (As := [.int 1]) (rest := []) (k_X13_done l E K H.size o 1 q22.2 ho hq25) (gV m8_50 m8_52 ms_83 m1_16 m8_53) hd_X13_done ⟨Nat.le_of_ble_eq_true rfl, Nat.le_of_ble_eq_true rfl, rfl, rfl⟩ rfl ho rfl rfl rfl hl.1 rfl rc0 rfl dX13_addBar_124 ⟨Nat.zero_le _, Nat.zero_le _⟩ (fun H locs hH => ?_)
                refine lv_iconst (v := 1) hx hb dX13_addBar_127 (by decide) ?_
                refine lv_icmp_ne (tgt := 139) hx hb dX13_addBar_128 (by decide) (fun c26 => ?_) (fun c26 => ?_)
                · replace hf := (if_neg c26).symm.trans hf
                  refine lv_iconst (v := 0) hx hb dX13_addBar_139 (by decide) ?_
                  exact hw_zret hx hb hret rfl hf hH hlocks dX13_addBar_140
                · replace hf := (if_pos c26).symm.trans hf
                  refine lv_iload_n hx hb dX13_addBar_131 rfl (lv_at hl 0 rfl) ?_
                  refine lv_if_eq (tgt := 139) hx hb dX13_addBar_132 (by decide) (fun c27 => ?_) (fun c27 => ?_)
                  · skip
                    refine lv_iconst (v := 0) hx hb dX13_addBar_139 (by decide) ?_
                    exact hw_zret hx hb hret rfl hf hH hlocks dX13_addBar_140
                  · exact (by revert c27; decide : False).elim
              · exact (by revert c24; decide : False).elim
            · replace hf := (if_pos c23).symm.trans hf
              refine lv_iconst (v := 1) hx hb dX13_addBar_106 (by decide) ?_
              refine lv_goto (tgt := 111) hx hb dX13_addBar_107 (by decide) ?_
              refine lv_istore_n (i := 3) (lv' := [(3, .int 1), (0, rv E (some o)), (1, .int a_1), (2, .int a_2)]) hx hb dX13_addBar_111 rfl hl (by decide) rfl (fun ls hl => ?_)
              refine lv_iload_n hx hb dX13_addBar_112 rfl (lv_at hl 0 rfl) ?_
              refine lv_if_eq (tgt := 122) hx hb dX13_addBar_113 (by decide) (fun c28 => ?_) (fun c28 => ?_)
              · exact (by revert c28; decide : False).elim
              · skip
                refine hl_aload_n hx hb dX13_addBar_116 rfl (lv_at hl 1 rfl) ?_
                refine lv_iload_n hx hb dX13_addBar_117 rfl (lv_at hl 3 rfl) ?_
                refine lv_iconst (v := 1) hx hb dX13_addBar_118 (by decide) ?_
                obtain ⟨q29, hq29, hf⟩ := bnd hf
                refine hcV_v hx hb hml hown hts hKs hT hb0 hH (As := [.int a_2, .int 1]) (rest := []) (k_X13_takesAway l E K H.size o a_2 1 q22.2 ho hq29) (gV m8_81 m8_83 ms_87 m1_16 m8_84) hd_X13_takesAway ⟨Nat.le_of_ble_eq_true rfl, Nat.le_of_ble_eq_true rfl, rfl, rfl⟩ rfl ho rfl rfl rfl hl.1 rfl rc0 rfl dX13_addBar_119 ⟨Nat.zero_le _, Nat.zero_le _⟩ (fun H locs hH => ?_)
                refine hl_aload_n hx hb dX13_addBar_122 rfl (lv_at hl 1 rfl) ?_
                refine lv_iconst (v := 1) hx hb dX13_addBar_123 (by decide) ?_
                obtain ⟨q30, hq30, hf⟩ := bnd hf
                refine hcV_i hx hb hml hown hts hKs hT hb0 hH (As := [.int 1]) (rest := []) (k_X13_done l E K H.size o 1 q29 ho hq30) (gV m8_50 m8_52 ms_83 m1_16 m8_53) hd_X13_done ⟨Nat.le_of_ble_eq_true rfl, Nat.le_of_ble_eq_true rfl, rfl, rfl⟩ rfl ho rfl rfl rfl hl.1 rfl rc0 rfl dX13_addBar_124 ⟨Nat.zero_le _, Nat.zero_le _⟩ (fun H locs hH => ?_)
                refine lv_iconst (v := 1) hx hb dX13_addBar_127 (by decide) ?_
                refine lv_icmp_ne (tgt := 139) hx hb dX13_addBar_128 (by decide) (fun c31 => ?_) (fun c31 => ?_)
                · replace hf := (if_neg c31).symm.trans hf
                  refine lv_iconst (v := 0) hx hb dX13_addBar_139 (by decide) ?_
                  exact hw_zret hx hb hret rfl hf hH hlocks dX13_addBar_140
                · replace hf := (if_pos c31).symm.trans hf
                  refine lv_iload_n hx hb dX13_addBar_131 rfl (lv_at hl 0 rfl) ?_
                  refine lv_if_eq (tgt := 139) hx hb dX13_addBar_132 (by decide) (fun c32 => ?_) (fun c32 => ?_)
                  · exact (by revert c32; decide : False).elim
                  · skip
                    refine lv_iconst (v := 1) hx hb dX13_addBar_135 (by decide) ?_
                    refine lv_goto (tgt := 140) hx hb dX13_addBar_136 (by decide) ?_
                    exact hw_zret hx hb hret rfl hf hH hlocks dX13_addBar_140
        · replace hf := (if_pos c10).symm.trans hf
          refine lv_iconst (v := 0) hx hb dX13_addBar_57 (by decide) ?_
          exact hw_zret hx hb hret rfl hf hH hlocks dX13_addBar_58
      · replace hf := (if_pos c8).symm.trans hf
        refine lv_iconst (v := 1) hx hb dX13_addBar_45 (by decide) ?_
        refine lv_goto (tgt := 50) hx hb dX13_addBar_46 (by decide) ?_
        refine lv_iconst (v := 2) hx hb dX13_addBar_50 (by decide) ?_
        obtain ⟨q33, hq33, hf⟩ := bnd hf
        refine hcV_i hx hb hml hown hts hKs hT hb0 hH (As := [.int 1, .int 2]) (rest := []) (k_X13_may l E K H.size o true 2 q7.2 ho hq33) (gV m7_183 m7_185 ms_61 m1_16 m7_186) hd_X13_may ⟨Nat.le_of_ble_eq_true rfl, Nat.le_of_ble_eq_true rfl, rfl, rfl⟩ rfl ho rfl rfl rfl hl.1 rfl rc0 rfl dX13_addBar_51 ⟨Nat.zero_le _, Nat.zero_le _⟩ (fun H locs hH => ?_)
        refine lv_if_ne (tgt := 59) hx hb dX13_addBar_54 (by decide) (fun c34 => ?_) (fun c34 => ?_)
        · replace hf := (if_neg c34).symm.trans hf
          refine hl_aload_n hx hb dX13_addBar_59 rfl (lv_at hl 0 rfl) ?_
          obtain ⟨q35, hq35, hf⟩ := bnd hf
          refine hcV_v hx hb hml hown hts hKs hT hb0 hH (As := []) (rest := []) (k_X13_starts l E K H.size o q33.2 ho hq35) (gV m8_38 m8_40 ms_80 m1_16 m8_41) hd_X13_starts ⟨Nat.le_of_ble_eq_true rfl, Nat.le_of_ble_eq_true rfl, rfl, rfl⟩ rfl ho rfl rfl rfl hl.1 rfl rc0 rfl dX13_addBar_60 ⟨Nat.zero_le _, Nat.zero_le _⟩ (fun H locs hH => ?_)
          refine hl_aload_n hx hb dX13_addBar_63 rfl (lv_at hl 0 rfl) ?_
          refine g13_3 hx hb hts hown hKs hH rfl ho m6_184 dX13_addBar_64 ?_
          refine lv_bipush (v := 34) hx hb dX13_addBar_67 (by decide) ?_
          refine lv_iload_n hx hb dX13_addBar_69 rfl (lv_at hl 2 rfl) ?_
          refine lv_iadd hx hb dX13_addBar_70 ?_
          refine hl_aload_n hx hb dX13_addBar_71 rfl (lv_at hl 0 rfl) ?_
          refine g13_3 hx hb hts hown hKs hH rfl ho m6_184 dX13_addBar_72 ?_
          refine lv_bipush (v := 34) hx hb dX13_addBar_75 (by decide) ?_
          refine lv_iload_n hx hb dX13_addBar_77 rfl (lv_at hl 2 rfl) ?_
          refine lv_iadd hx hb dX13_addBar_78 ?_
          obtain ⟨a36, ha36, hf⟩ := bnd hf
          replace ha36 := cha_some ha36
          obtain ⟨j37, hj37, hf⟩ := bnd hf
          refine hw_iald hx hb hKs hH ha36.1 ha36.2 hj37 dX13_addBar_79 ?_
          refine lv_iconst (v := 1) hx hb dX13_addBar_80 (by decide) ?_
          refine lv_iload_n hx hb dX13_addBar_81 rfl (lv_at hl 1 rfl) ?_
          refine lv_ishl hx hb dX13_addBar_82 ?_
          refine lv_ior hx hb dX13_addBar_83 ?_
          obtain ⟨j38, hj38, hf⟩ := bnd hf
          obtain ⟨w39, hw39, hf⟩ := bnd hf
          replace hw39 := Option.some.inj hw39
          refine hw_iast (x := ((aI q35 a36.1 j37) ||| (1 <<< (a_1 &&& 31)))) hx hb hKs hH ha36.1 ha36.2 hj38 dX13_addBar_84 (fun H locs hH => ?_)
          rw [hw39] at hH
          refine hl_aload_n hx hb dX13_addBar_85 rfl (lv_at hl 0 rfl) ?_
          refine lv_iload_n hx hb dX13_addBar_86 rfl (lv_at hl 2 rfl) ?_
          refine lv_iconst (v := 0) hx hb dX13_addBar_87 (by decide) ?_
          obtain ⟨q40, hq40, hf⟩ := bnd hf
          refine hcV_i hx hb hml hown hts hKs hT hb0 hH (As := [.int a_2, .int 0]) (rest := []) (k_X13_of l E K H.size o a_2 0 w39 ho hq40) (gV m7_126 m7_128 ms_54 m1_16 m7_129) hd_X13_of ⟨Nat.le_of_ble_eq_true rfl, Nat.le_of_ble_eq_true rfl, rfl, rfl⟩ rfl ho rfl rfl rfl hl.1 rfl rc0 rfl dX13_addBar_88 ⟨Nat.zero_le _, Nat.zero_le _⟩ (fun H locs hH => ?_)
          refine lv_iconst (v := 1) hx hb dX13_addBar_91 (by decide) ?_
          refine lv_icmp_ne (tgt := 110) hx hb dX13_addBar_92 (by decide) (fun c41 => ?_) (fun c41 => ?_)
          · replace hf := (if_neg c41).symm.trans hf
            refine lv_iconst (v := 0) hx hb dX13_addBar_110 (by decide) ?_
            refine lv_istore_n (i := 3) (lv' := [(3, .int 0), (0, rv E (some o)), (1, .int a_1), (2, .int a_2)]) hx hb dX13_addBar_111 rfl hl (by decide) rfl (fun ls hl => ?_)
            refine lv_iload_n hx hb dX13_addBar_112 rfl (lv_at hl 0 rfl) ?_
            refine lv_if_eq (tgt := 122) hx hb dX13_addBar_113 (by decide) (fun c42 => ?_) (fun c42 => ?_)
            · skip
              refine hl_aload_n hx hb dX13_addBar_122 rfl (lv_at hl 1 rfl) ?_
              refine lv_iconst (v := 1) hx hb dX13_addBar_123 (by decide) ?_
              obtain ⟨q43, hq43, hf⟩ := bnd hf
              refine hcV_i hx hb hml hown hts hKs hT hb0 hH (As := [.int 1]) (rest := []) (k_X13_done l E K H.size o 1 q40.2 ho hq43) (gV m8_50 m8_52 ms_83 m1_16 m8_53) hd_X13_done ⟨Nat.le_of_ble_eq_true rfl, Nat.le_of_ble_eq_true rfl, rfl, rfl⟩ rfl ho rfl rfl rfl hl.1 rfl rc0 rfl dX13_addBar_124 ⟨Nat.zero_le _, Nat.zero_le _⟩ (fun H locs hH => ?_)
              refine lv_iconst (v := 1) hx hb dX13_addBar_127 (by decide) ?_
              refine lv_icmp_ne (tgt := 139) hx hb dX13_addBar_128 (by decide) (fun c44 => ?_) (fun c44 => ?_)
              · replace hf := (if_neg c44).symm.trans hf
                refine lv_iconst (v := 0) hx hb dX13_addBar_139 (by decide) ?_
                exact hw_zret hx hb hret rfl hf hH hlocks dX13_addBar_140
              · replace hf := (if_pos c44).symm.trans hf
                refine lv_iload_n hx hb dX13_addBar_131 rfl (lv_at hl 0 rfl) ?_
                refine lv_if_eq (tgt := 139) hx hb dX13_addBar_132 (by decide) (fun c45 => ?_) (fun c45 => ?_)
                · skip
                  refine lv_iconst (v := 0) hx hb dX13_addBar_139 (by decide) ?_
                  exact hw_zret hx hb hret rfl hf hH hlocks dX13_addBar_140
                · exact (by revert c45; decide : False).elim
            · exact (by revert c42; decide : False).elim
          · replace hf := (if_pos c41).symm.trans hf
            refine hl_aload_n hx hb dX13_addBar_95 rfl (lv_at hl 0 rfl) ?_
            refine lv_iload_n hx hb dX13_addBar_96 rfl (lv_at hl 2 rfl) ?_
            refine lv_bipush (v := 6) hx hb dX13_addBar_97 (by decide) ?_
            obtain ⟨q46, hq46, hf⟩ := bnd hf
            refine hcV_i hx hb hml hown hts hKs hT hb0 hH (As := [.int a_2, .int 6]) (rest := []) (k_X13_of l E K H.size o a_2 6 q40.2 ho hq46) (gV m7_126 m7_128 ms_54 m1_16 m7_129) hd_X13_of ⟨Nat.le_of_ble_eq_true rfl, Nat.le_of_ble_eq_true rfl, rfl, rfl⟩ rfl ho rfl rfl rfl hl.1 rfl rc0 rfl dX13_addBar_99 ⟨Nat.zero_le _, Nat.zero_le _⟩ (fun H locs hH => ?_)
            refine lv_iload_n hx hb dX13_addBar_102 rfl (lv_at hl 1 rfl) ?_
            refine lv_icmp_ne (tgt := 110) hx hb dX13_addBar_103 (by decide) (fun c47 => ?_) (fun c47 => ?_)
            · replace hf := (if_neg c47).symm.trans hf
              refine lv_iconst (v := 0) hx hb dX13_addBar_110 (by decide) ?_
              refine lv_istore_n (i := 3) (lv' := [(3, .int 0), (0, rv E (some o)), (1, .int a_1), (2, .int a_2)]) hx hb dX13_addBar_111 rfl hl (by decide) rfl (fun ls hl => ?_)
              refine lv_iload_n hx hb dX13_addBar_112 rfl (lv_at hl 0 rfl) ?_
              refine lv_if_eq (tgt := 122) hx hb dX13_addBar_113 (by decide) (fun c48 => ?_) (fun c48 => ?_)
              · skip
                refine hl_aload_n hx hb dX13_addBar_122 rfl (lv_at hl 1 rfl) ?_
                refine lv_iconst (v := 1) hx hb dX13_addBar_123 (by decide) ?_
                obtain ⟨q49, hq49, hf⟩ := bnd hf
                refine hcV_i hx hb hml hown hts hKs hT hb0 hH (As := [.int 1]) (rest := []) (k_X13_done l E K H.size o 1 q46.2 ho hq49) (gV m8_50 m8_52 ms_83 m1_16 m8_53) hd_X13_done ⟨Nat.le_of_ble_eq_true rfl, Nat.le_of_ble_eq_true rfl, rfl, rfl⟩ rfl ho rfl rfl rfl hl.1 rfl rc0 rfl dX13_addBar_124 ⟨Nat.zero_le _, Nat.zero_le _⟩ (fun H locs hH => ?_)
                refine lv_iconst (v := 1) hx hb dX13_addBar_127 (by decide) ?_
                refine lv_icmp_ne (tgt := 139) hx hb dX13_addBar_128 (by decide) (fun c50 => ?_) (fun c50 => ?_)
                · replace hf := (if_neg c50).symm.trans hf
                  refine lv_iconst (v := 0) hx hb dX13_addBar_139 (by decide) ?_
                  exact hw_zret hx hb hret rfl hf hH hlocks dX13_addBar_140
                · replace hf := (if_pos c50).symm.trans hf
                  refine lv_iload_n hx hb dX13_addBar_131 rfl (lv_at hl 0 rfl) ?_
                  refine lv_if_eq (tgt := 139) hx hb dX13_addBar_132 (by decide) (fun c51 => ?_) (fun c51 => ?_)
                  · skip
                    refine lv_iconst (v := 0) hx hb dX13_addBar_139 (by decide) ?_
                    exact hw_zret hx hb hret rfl hf hH hlocks dX13_addBar_140
                  · exact (by revert c51; decide : False).elim
              · exact (by revert c48; decide : False).elim
            · replace hf := (if_pos c47).symm.trans hf
              refine lv_iconst (v := 1) hx hb dX13_addBar_106 (by decide) ?_
              refine lv_goto (tgt := 111) hx hb dX13_addBar_107 (by decide) ?_
              refine lv_istore_n (i := 3) (lv' := [(3, .int 1), (0, rv E (some o)), (1, .int a_1), (2, .int a_2)]) hx hb dX13_addBar_111 rfl hl (by decide) rfl (fun ls hl => ?_)
              refine lv_iload_n hx hb dX13_addBar_112 rfl (lv_at hl 0 rfl) ?_
              refine lv_if_eq (tgt := 122) hx hb dX13_addBar_113 (by decide) (fun c52 => ?_) (fun c52 => ?_)
              · exact (by revert c52; decide : False).elim
              · skip
                refine hl_aload_n hx hb dX13_addBar_116 rfl (lv_at hl 1 rfl) ?_
                refine lv_iload_n hx hb dX13_addBar_117 rfl (lv_at hl 3 rfl) ?_
                refine lv_iconst (v := 1) hx hb dX13_addBar_118 (by decide) ?_
                obtain ⟨q53, hq53, hf⟩ := bnd hf
                refine hcV_v hx hb hml hown hts hKs hT hb0 hH (As := [.int a_2, .int 1]) (rest := []) (k_X13_takesAway l E K H.size o a_2 1 q46.2 ho hq53) (gV m8_81 m8_83 ms_87 m1_16 m8_84) hd_X13_takesAway ⟨Nat.le_of_ble_eq_true rfl, Nat.le_of_ble_eq_true rfl, rfl, rfl⟩ rfl ho rfl rfl rfl hl.1 rfl rc0 rfl dX13_addBar_119 ⟨Nat.zero_le _, Nat.zero_le _⟩ (fun H locs hH => ?_)
                refine hl_aload_n hx hb dX13_addBar_122 rfl (lv_at hl 1 rfl) ?_
                refine lv_iconst (v := 1) hx hb dX13_addBar_123 (by decide) ?_
                obtain ⟨q54, hq54, hf⟩ := bnd hf
                refine hcV_i hx hb hml hown hts hKs hT hb0 hH (As := [.int 1]) (rest := []) (k_X13_done l E K H.size o 1 q53 ho hq54) (gV m8_50 m8_52 ms_83 m1_16 m8_53) hd_X13_done ⟨Nat.le_of_ble_eq_true rfl, Nat.le_of_ble_eq_true rfl, rfl, rfl⟩ rfl ho rfl rfl rfl hl.1 rfl rc0 rfl dX13_addBar_124 ⟨Nat.zero_le _, Nat.zero_le _⟩ (fun H locs hH => ?_)
                refine lv_iconst (v := 1) hx hb dX13_addBar_127 (by decide) ?_
                refine lv_icmp_ne (tgt := 139) hx hb dX13_addBar_128 (by decide) (fun c55 => ?_) (fun c55 => ?_)
                · replace hf := (if_neg c55).symm.trans hf
                  refine lv_iconst (v := 0) hx hb dX13_addBar_139 (by decide) ?_
                  exact hw_zret hx hb hret rfl hf hH hlocks dX13_addBar_140
                · replace hf := (if_pos c55).symm.trans hf
                  refine lv_iload_n hx hb dX13_addBar_131 rfl (lv_at hl 0 rfl) ?_
                  refine lv_if_eq (tgt := 139) hx hb dX13_addBar_132 (by decide) (fun c56 => ?_) (fun c56 => ?_)
                  · exact (by revert c56; decide : False).elim
                  · skip
                    refine lv_iconst (v := 1) hx hb dX13_addBar_135 (by decide) ?_
                    refine lv_goto (tgt := 140) hx hb dX13_addBar_136 (by decide) ?_
                    exact hw_zret hx hb hret rfl hf hH hlocks dX13_addBar_140
        · replace hf := (if_pos c34).symm.trans hf
          refine lv_iconst (v := 0) hx hb dX13_addBar_57 (by decide) ?_
          exact hw_zret hx hb hret rfl hf hH hlocks dX13_addBar_58
  · replace hf := (if_neg c2).symm.trans hf
    refine hl_aload_n hx hb dX13_addBar_9 rfl (lv_at hl 0 rfl) ?_
    refine lv_iload_n hx hb dX13_addBar_10 rfl (lv_at hl 2 rfl) ?_
    obtain ⟨q57, hq57, hf⟩ := bnd hf
    refine hcV_i hx hb hml hown hts hKs hT hb0 hH (As := [.int a_2]) (rest := [rv E (some o)]) (k_X13_isCase l E K H.size o a_2 q1.2 ho hq57) (gV m7_114 m7_116 ms_51 m1_16 m7_117) hd_X13_isCase ⟨Nat.le_of_ble_eq_true rfl, Nat.le_of_ble_eq_true rfl, rfl, rfl⟩ rfl ho rfl rfl rfl hl.1 rfl (rcV rc0) rfl dX13_addBar_11 ⟨Nat.zero_le _, Nat.zero_le _⟩ (fun H locs hH => ?_)
    refine lv_if_eq (tgt := 21) hx hb dX13_addBar_14 (by decide) (fun c58 => ?_) (fun c58 => ?_)
    · replace hf := (if_pos c58).symm.trans hf
      refine lv_iconst (v := 0) hx hb dX13_addBar_21 (by decide) ?_
      obtain ⟨q59, hq59, hf⟩ := bnd hf
      refine hcV_i hx hb hml hown hts hKs hT hb0 hH (As := [.int 0]) (rest := []) (k_X13_is l E K H.size o false q57.2 ho hq59) (gV m7_68 m7_70 ms_47 m1_16 m7_71) hd_X13_is ⟨Nat.le_of_ble_eq_true rfl, Nat.le_of_ble_eq_true rfl, rfl, rfl⟩ rfl ho rfl rfl rfl hl.1 rfl rc0 rfl dX13_addBar_22 ⟨Nat.zero_le _, Nat.zero_le _⟩ (fun H locs hH => ?_)
      refine lv_if_eq (tgt := 57) hx hb dX13_addBar_25 (by decide) (fun c60 => ?_) (fun c60 => ?_)
      · replace hf := (if_pos c60).symm.trans hf
        refine lv_iconst (v := 0) hx hb dX13_addBar_57 (by decide) ?_
        exact hw_zret hx hb hret rfl hf hH hlocks dX13_addBar_58
      · replace hf := (if_neg c60).symm.trans hf
        refine hl_aload_n hx hb dX13_addBar_28 rfl (lv_at hl 0 rfl) ?_
        refine hl_aload_n hx hb dX13_addBar_29 rfl (lv_at hl 0 rfl) ?_
        refine g13_3 hx hb hts hown hKs hH rfl ho m6_184 dX13_addBar_30 ?_
        refine lv_bipush (v := 34) hx hb dX13_addBar_33 (by decide) ?_
        refine lv_iload_n hx hb dX13_addBar_35 rfl (lv_at hl 2 rfl) ?_
        refine lv_iadd hx hb dX13_addBar_36 ?_
        obtain ⟨a61, ha61, hf⟩ := bnd hf
        replace ha61 := cha_some ha61
        obtain ⟨j62, hj62, hf⟩ := bnd hf
        refine hw_iald hx hb hKs hH ha61.1 ha61.2 hj62 dX13_addBar_37 ?_
        refine lv_iload_n hx hb dX13_addBar_38 rfl (lv_at hl 1 rfl) ?_
        obtain ⟨q63, hq63, hf⟩ := bnd hf
        refine hcS_i hx hb hml hown hts hKs hT hb0 hH (As := [.int ((aI q59.2 a61.1 j62)), .int a_1]) (rest := [rv E (some o)]) (k_X13_has l E K H.size (aI q59.2 a61.1 j62) a_1 q59.2 hq63) (gS m7_223 m7_224 m1_16 m7_225) hs_X13_has ⟨Nat.le_of_ble_eq_true rfl, Nat.le_of_ble_eq_true rfl, rfl, rfl⟩ hl.1 rfl (rcV rc0) rfl dX13_addBar_39 ⟨Nat.zero_le _, Nat.zero_le _⟩ (fun H locs hH => ?_)
        refine lv_if_ne (tgt := 49) hx hb dX13_addBar_42 (by decide) (fun c64 => ?_) (fun c64 => ?_)
        · replace hf := (if_neg c64).symm.trans hf
          refine lv_iconst (v := 0) hx hb dX13_addBar_49 (by decide) ?_
          refine lv_iconst (v := 2) hx hb dX13_addBar_50 (by decide) ?_
          obtain ⟨q65, hq65, hf⟩ := bnd hf
          refine hcV_i hx hb hml hown hts hKs hT hb0 hH (As := [.int 0, .int 2]) (rest := []) (k_X13_may l E K H.size o false 2 q63.2 ho hq65) (gV m7_183 m7_185 ms_61 m1_16 m7_186) hd_X13_may ⟨Nat.le_of_ble_eq_true rfl, Nat.le_of_ble_eq_true rfl, rfl, rfl⟩ rfl ho rfl rfl rfl hl.1 rfl rc0 rfl dX13_addBar_51 ⟨Nat.zero_le _, Nat.zero_le _⟩ (fun H locs hH => ?_)
          refine lv_if_ne (tgt := 59) hx hb dX13_addBar_54 (by decide) (fun c66 => ?_) (fun c66 => ?_)
          · replace hf := (if_neg c66).symm.trans hf
            refine hl_aload_n hx hb dX13_addBar_59 rfl (lv_at hl 0 rfl) ?_
            obtain ⟨q67, hq67, hf⟩ := bnd hf
            refine hcV_v hx hb hml hown hts hKs hT hb0 hH (As := []) (rest := []) (k_X13_starts l E K H.size o q65.2 ho hq67) (gV m8_38 m8_40 ms_80 m1_16 m8_41) hd_X13_starts ⟨Nat.le_of_ble_eq_true rfl, Nat.le_of_ble_eq_true rfl, rfl, rfl⟩ rfl ho rfl rfl rfl hl.1 rfl rc0 rfl dX13_addBar_60 ⟨Nat.zero_le _, Nat.zero_le _⟩ (fun H locs hH => ?_)
            refine hl_aload_n hx hb dX13_addBar_63 rfl (lv_at hl 0 rfl) ?_
            refine g13_3 hx hb hts hown hKs hH rfl ho m6_184 dX13_addBar_64 ?_
            refine lv_bipush (v := 34) hx hb dX13_addBar_67 (by decide) ?_
            refine lv_iload_n hx hb dX13_addBar_69 rfl (lv_at hl 2 rfl) ?_
            refine lv_iadd hx hb dX13_addBar_70 ?_
            refine hl_aload_n hx hb dX13_addBar_71 rfl (lv_at hl 0 rfl) ?_
            refine g13_3 hx hb hts hown hKs hH rfl ho m6_184 dX13_addBar_72 ?_
            refine lv_bipush (v := 34) hx hb dX13_addBar_75 (by decide) ?_
            refine lv_iload_n hx hb dX13_addBar_77 rfl (lv_at hl 2 rfl) ?_
            refine lv_iadd hx hb dX13_addBar_78 ?_
            obtain ⟨a68, ha68, hf⟩ := bnd hf
            replace ha68 := cha_some ha68
            obtain ⟨j69, hj69, hf⟩ := bnd hf
            refine hw_iald hx hb hKs hH ha68.1 ha68.2 hj69 dX13_addBar_79 ?_
            refine lv_iconst (v := 1) hx hb dX13_addBar_80 (by decide) ?_
            refine lv_iload_n hx hb dX13_addBar_81 rfl (lv_at hl 1 rfl) ?_
            refine lv_ishl hx hb dX13_addBar_82 ?_
            refine lv_ior hx hb dX13_addBar_83 ?_
            obtain ⟨j70, hj70, hf⟩ := bnd hf
            obtain ⟨w71, hw71, hf⟩ := bnd hf
            replace hw71 := Option.some.inj hw71
            refine hw_iast (x := ((aI q67 a68.1 j69) ||| (1 <<< (a_1 &&& 31)))) hx hb hKs hH ha68.1 ha68.2 hj70 dX13_addBar_84 (fun H locs hH => ?_)
            rw [hw71] at hH
            refine hl_aload_n hx hb dX13_addBar_85 rfl (lv_at hl 0 rfl) ?_
            refine lv_iload_n hx hb dX13_addBar_86 rfl (lv_at hl 2 rfl) ?_
            refine lv_iconst (v := 0) hx hb dX13_addBar_87 (by decide) ?_
            obtain ⟨q72, hq72, hf⟩ := bnd hf
            refine hcV_i hx hb hml hown hts hKs hT hb0 hH (As := [.int a_2, .int 0]) (rest := []) (k_X13_of l E K H.size o a_2 0 w71 ho hq72) (gV m7_126 m7_128 ms_54 m1_16 m7_129) hd_X13_of ⟨Nat.le_of_ble_eq_true rfl, Nat.le_of_ble_eq_true rfl, rfl, rfl⟩ rfl ho rfl rfl rfl hl.1 rfl rc0 rfl dX13_addBar_88 ⟨Nat.zero_le _, Nat.zero_le _⟩ (fun H locs hH => ?_)
            refine lv_iconst (v := 1) hx hb dX13_addBar_91 (by decide) ?_
            refine lv_icmp_ne (tgt := 110) hx hb dX13_addBar_92 (by decide) (fun c73 => ?_) (fun c73 => ?_)
            · replace hf := (if_neg c73).symm.trans hf
              refine lv_iconst (v := 0) hx hb dX13_addBar_110 (by decide) ?_
              refine lv_istore_n (i := 3) (lv' := [(3, .int 0), (0, rv E (some o)), (1, .int a_1), (2, .int a_2)]) hx hb dX13_addBar_111 rfl hl (by decide) rfl (fun ls hl => ?_)
              refine lv_iload_n hx hb dX13_addBar_112 rfl (lv_at hl 0 rfl) ?_
              refine lv_if_eq (tgt := 122) hx hb dX13_addBar_113 (by decide) (fun c74 => ?_) (fun c74 => ?_)
              · skip
                refine hl_aload_n hx hb dX13_addBar_122 rfl (lv_at hl 1 rfl) ?_
                refine lv_iconst (v := 1) hx hb dX13_addBar_123 (by decide) ?_
                obtain ⟨q75, hq75, hf⟩ := bnd hf
                refine hcV_i hx hb hml hown hts hKs hT hb0 hH (As := [.int 1]) (rest := []) (k_X13_done l E K H.size o 1 q72.2 ho hq75) (gV m8_50 m8_52 ms_83 m1_16 m8_53) hd_X13_done ⟨Nat.le_of_ble_eq_true rfl, Nat.le_of_ble_eq_true rfl, rfl, rfl⟩ rfl ho rfl rfl rfl hl.1 rfl rc0 rfl dX13_addBar_124 ⟨Nat.zero_le _, Nat.zero_le _⟩ (fun H locs hH => ?_)
                refine lv_iconst (v := 1) hx hb dX13_addBar_127 (by decide) ?_
                refine lv_icmp_ne (tgt := 139) hx hb dX13_addBar_128 (by decide) (fun c76 => ?_) (fun c76 => ?_)
                · replace hf := (if_neg c76).symm.trans hf
                  refine lv_iconst (v := 0) hx hb dX13_addBar_139 (by decide) ?_
                  exact hw_zret hx hb hret rfl hf hH hlocks dX13_addBar_140
                · replace hf := (if_pos c76).symm.trans hf
                  refine lv_iload_n hx hb dX13_addBar_131 rfl (lv_at hl 0 rfl) ?_
                  refine lv_if_eq (tgt := 139) hx hb dX13_addBar_132 (by decide) (fun c77 => ?_) (fun c77 => ?_)
                  · skip
                    refine lv_iconst (v := 0) hx hb dX13_addBar_139 (by decide) ?_
                    exact hw_zret hx hb hret rfl hf hH hlocks dX13_addBar_140
                  · exact (by revert c77; decide : False).elim
              · exact (by revert c74; decide : False).elim
            · replace hf := (if_pos c73).symm.trans hf
              refine hl_aload_n hx hb dX13_addBar_95 rfl (lv_at hl 0 rfl) ?_
              refine lv_iload_n hx hb dX13_addBar_96 rfl (lv_at hl 2 rfl) ?_
              refine lv_bipush (v := 6) hx hb dX13_addBar_97 (by decide) ?_
              obtain ⟨q78, hq78, hf⟩ := bnd hf
              refine hcV_i hx hb hml hown hts hKs hT hb0 hH (As := [.int a_2, .int 6]) (rest := []) (k_X13_of l E K H.size o a_2 6 q72.2 ho hq78) (gV m7_126 m7_128 ms_54 m1_16 m7_129) hd_X13_of ⟨Nat.le_of_ble_eq_true rfl, Nat.le_of_ble_eq_true rfl, rfl, rfl⟩ rfl ho rfl rfl rfl hl.1 rfl rc0 rfl dX13_addBar_99 ⟨Nat.zero_le _, Nat.zero_le _⟩ (fun H locs hH => ?_)
              refine lv_iload_n hx hb dX13_addBar_102 rfl (lv_at hl 1 rfl) ?_
              refine lv_icmp_ne (tgt := 110) hx hb dX13_addBar_103 (by decide) (fun c79 => ?_) (fun c79 => ?_)
              · replace hf := (if_neg c79).symm.trans hf
                refine lv_iconst (v := 0) hx hb dX13_addBar_110 (by decide) ?_
                refine lv_istore_n (i := 3) (lv' := [(3, .int 0), (0, rv E (some o)), (1, .int a_1), (2, .int a_2)]) hx hb dX13_addBar_111 rfl hl (by decide) rfl (fun ls hl => ?_)
                refine lv_iload_n hx hb dX13_addBar_112 rfl (lv_at hl 0 rfl) ?_
                refine lv_if_eq (tgt := 122) hx hb dX13_addBar_113 (by decide) (fun c80 => ?_) (fun c80 => ?_)
                · skip
                  refine hl_aload_n hx hb dX13_addBar_122 rfl (lv_at hl 1 rfl) ?_
                  refine lv_iconst (v := 1) hx hb dX13_addBar_123 (by decide) ?_
                  obtain ⟨q81, hq81, hf⟩ := bnd hf
                  refine hcV_i hx hb hml hown hts hKs hT hb0 hH (As := [.int 1]) (rest := []) (k_X13_done l E K H.size o 1 q78.2 ho hq81) (gV m8_50 m8_52 ms_83 m1_16 m8_53) hd_X13_done ⟨Nat.le_of_ble_eq_true rfl, Nat.le_of_ble_eq_true rfl, rfl, rfl⟩ rfl ho rfl rfl rfl hl.1 rfl rc0 rfl dX13_addBar_124 ⟨Nat.zero_le _, Nat.zero_le _⟩ (fun H locs hH => ?_)
                  refine lv_iconst (v := 1) hx hb dX13_addBar_127 (by decide) ?_
                  refine lv_icmp_ne (tgt := 139) hx hb dX13_addBar_128 (by decide) (fun c82 => ?_) (fun c82 => ?_)
                  · replace hf := (if_neg c82).symm.trans hf
                    refine lv_iconst (v := 0) hx hb dX13_addBar_139 (by decide) ?_
                    exact hw_zret hx hb hret rfl hf hH hlocks dX13_addBar_140
                  · replace hf := (if_pos c82).symm.trans hf
                    refine lv_iload_n hx hb dX13_addBar_131 rfl (lv_at hl 0 rfl) ?_
                    refine lv_if_eq (tgt := 139) hx hb dX13_addBar_132 (by decide) (fun c83 => ?_) (fun c83 => ?_)
                    · skip
                      refine lv_iconst (v := 0) hx hb dX13_addBar_139 (by decide) ?_
                      exact hw_zret hx hb hret rfl hf hH hlocks dX13_addBar_140
                    · exact (by revert c83; decide : False).elim
                · exact (by revert c80; decide : False).elim
              · replace hf := (if_pos c79).symm.trans hf
                refine lv_iconst (v := 1) hx hb dX13_addBar_106 (by decide) ?_
                refine lv_goto (tgt := 111) hx hb dX13_addBar_107 (by decide) ?_
                refine lv_istore_n (i := 3) (lv' := [(3, .int 1), (0, rv E (some o)), (1, .int a_1), (2, .int a_2)]) hx hb dX13_addBar_111 rfl hl (by decide) rfl (fun ls hl => ?_)
                refine lv_iload_n hx hb dX13_addBar_112 rfl (lv_at hl 0 rfl) ?_
                refine lv_if_eq (tgt := 122) hx hb dX13_addBar_113 (by decide) (fun c84 => ?_) (fun c84 => ?_)
                · exact (by revert c84; decide : False).elim
                · skip
                  refine hl_aload_n hx hb dX13_addBar_116 rfl (lv_at hl 1 rfl) ?_
                  refine lv_iload_n hx hb dX13_addBar_117 rfl (lv_at hl 3 rfl) ?_
                  refine lv_iconst (v := 1) hx hb dX13_addBar_118 (by decide) ?_
                  obtain ⟨q85, hq85, hf⟩ := bnd hf
                  refine hcV_v hx hb hml hown hts hKs hT hb0 hH (As := [.int a_2, .int 1]) (rest := []) (k_X13_takesAway l E K H.size o a_2 1 q78.2 ho hq85) (gV m8_81 m8_83 ms_87 m1_16 m8_84) hd_X13_takesAway ⟨Nat.le_of_ble_eq_true rfl, Nat.le_of_ble_eq_true rfl, rfl, rfl⟩ rfl ho rfl rfl rfl hl.1 rfl rc0 rfl dX13_addBar_119 ⟨Nat.zero_le _, Nat.zero_le _⟩ (fun H locs hH => ?_)
                  refine hl_aload_n hx hb dX13_addBar_122 rfl (lv_at hl 1 rfl) ?_
                  refine lv_iconst (v := 1) hx hb dX13_addBar_123 (by decide) ?_
                  obtain ⟨q86, hq86, hf⟩ := bnd hf
                  refine hcV_i hx hb hml hown hts hKs hT hb0 hH (As := [.int 1]) (rest := []) (k_X13_done l E K H.size o 1 q85 ho hq86) (gV m8_50 m8_52 ms_83 m1_16 m8_53) hd_X13_done ⟨Nat.le_of_ble_eq_true rfl, Nat.le_of_ble_eq_true rfl, rfl, rfl⟩ rfl ho rfl rfl rfl hl.1 rfl rc0 rfl dX13_addBar_124 ⟨Nat.zero_le _, Nat.zero_le _⟩ (fun H locs hH => ?_)
                  refine lv_iconst (v := 1) hx hb dX13_addBar_127 (by decide) ?_
                  refine lv_icmp_ne (tgt := 139) hx hb dX13_addBar_128 (by decide) (fun c87 => ?_) (fun c87 => ?_)
                  · replace hf := (if_neg c87).symm.trans hf
                    refine lv_iconst (v := 0) hx hb dX13_addBar_139 (by decide) ?_
                    exact hw_zret hx hb hret rfl hf hH hlocks dX13_addBar_140
                  · replace hf := (if_pos c87).symm.trans hf
                    refine lv_iload_n hx hb dX13_addBar_131 rfl (lv_at hl 0 rfl) ?_
                    refine lv_if_eq (tgt := 139) hx hb dX13_addBar_132 (by decide) (fun c88 => ?_) (fun c88 => ?_)
                    · exact (by revert c88; decide : False).elim
                    · skip
                      refine lv_iconst (v := 1) hx hb dX13_addBar_135 (by decide) ?_
                      refine lv_goto (tgt := 140) hx hb dX13_addBar_136 (by decide) ?_
                      exact hw_zret hx hb hret rfl hf hH hlocks dX13_addBar_140
          · replace hf := (if_pos c66).symm.trans hf
            refine lv_iconst (v := 0) hx hb dX13_addBar_57 (by decide) ?_
            exact hw_zret hx hb hret rfl hf hH hlocks dX13_addBar_58
        · replace hf := (if_pos c64).symm.trans hf
          refine lv_iconst (v := 1) hx hb dX13_addBar_45 (by decide) ?_
          refine lv_goto (tgt := 50) hx hb dX13_addBar_46 (by decide) ?_
          refine lv_iconst (v := 2) hx hb dX13_addBar_50 (by decide) ?_
          obtain ⟨q89, hq89, hf⟩ := bnd hf
          refine hcV_i hx hb hml hown hts hKs hT hb0 hH (As := [.int 1, .int 2]) (rest := []) (k_X13_may l E K H.size o true 2 q63.2 ho hq89) (gV m7_183 m7_185 ms_61 m1_16 m7_186) hd_X13_may ⟨Nat.le_of_ble_eq_true rfl, Nat.le_of_ble_eq_true rfl, rfl, rfl⟩ rfl ho rfl rfl rfl hl.1 rfl rc0 rfl dX13_addBar_51 ⟨Nat.zero_le _, Nat.zero_le _⟩ (fun H locs hH => ?_)
          refine lv_if_ne (tgt := 59) hx hb dX13_addBar_54 (by decide) (fun c90 => ?_) (fun c90 => ?_)
          · replace hf := (if_neg c90).symm.trans hf
            refine hl_aload_n hx hb dX13_addBar_59 rfl (lv_at hl 0 rfl) ?_
            obtain ⟨q91, hq91, hf⟩ := bnd hf
            refine hcV_v hx hb hml hown hts hKs hT hb0 hH (As := []) (rest := []) (k_X13_starts l E K H.size o q89.2 ho hq91) (gV m8_38 m8_40 ms_80 m1_16 m8_41) hd_X13_starts ⟨Nat.le_of_ble_eq_true rfl, Nat.le_of_ble_eq_true rfl, rfl, rfl⟩ rfl ho rfl rfl rfl hl.1 rfl rc0 rfl dX13_addBar_60 ⟨Nat.zero_le _, Nat.zero_le _⟩ (fun H locs hH => ?_)
            refine hl_aload_n hx hb dX13_addBar_63 rfl (lv_at hl 0 rfl) ?_
            refine g13_3 hx hb hts hown hKs hH rfl ho m6_184 dX13_addBar_64 ?_
            refine lv_bipush (v := 34) hx hb dX13_addBar_67 (by decide) ?_
            refine lv_iload_n hx hb dX13_addBar_69 rfl (lv_at hl 2 rfl) ?_
            refine lv_iadd hx hb dX13_addBar_70 ?_
            refine hl_aload_n hx hb dX13_addBar_71 rfl (lv_at hl 0 rfl) ?_
            refine g13_3 hx hb hts hown hKs hH rfl ho m6_184 dX13_addBar_72 ?_
            refine lv_bipush (v := 34) hx hb dX13_addBar_75 (by decide) ?_
            refine lv_iload_n hx hb dX13_addBar_77 rfl (lv_at hl 2 rfl) ?_
            refine lv_iadd hx hb dX13_addBar_78 ?_
            obtain ⟨a92, ha92, hf⟩ := bnd hf
            replace ha92 := cha_some ha92
            obtain ⟨j93, hj93, hf⟩ := bnd hf
            refine hw_iald hx hb hKs hH ha92.1 ha92.2 hj93 dX13_addBar_79 ?_
            refine lv_iconst (v := 1) hx hb dX13_addBar_80 (by decide) ?_
            refine lv_iload_n hx hb dX13_addBar_81 rfl (lv_at hl 1 rfl) ?_
            refine lv_ishl hx hb dX13_addBar_82 ?_
            refine lv_ior hx hb dX13_addBar_83 ?_
            obtain ⟨j94, hj94, hf⟩ := bnd hf
            obtain ⟨w95, hw95, hf⟩ := bnd hf
            replace hw95 := Option.some.inj hw95
            refine hw_iast (x := ((aI q91 a92.1 j93) ||| (1 <<< (a_1 &&& 31)))) hx hb hKs hH ha92.1 ha92.2 hj94 dX13_addBar_84 (fun H locs hH => ?_)
            rw [hw95] at hH
            refine hl_aload_n hx hb dX13_addBar_85 rfl (lv_at hl 0 rfl) ?_
            refine lv_iload_n hx hb dX13_addBar_86 rfl (lv_at hl 2 rfl) ?_
            refine lv_iconst (v := 0) hx hb dX13_addBar_87 (by decide) ?_
            obtain ⟨q96, hq96, hf⟩ := bnd hf
            refine hcV_i hx hb hml hown hts hKs hT hb0 hH (As := [.int a_2, .int 0]) (rest := []) (k_X13_of l E K H.size o a_2 0 w95 ho hq96) (gV m7_126 m7_128 ms_54 m1_16 m7_129) hd_X13_of ⟨Nat.le_of_ble_eq_true rfl, Nat.le_of_ble_eq_true rfl, rfl, rfl⟩ rfl ho rfl rfl rfl hl.1 rfl rc0 rfl dX13_addBar_88 ⟨Nat.zero_le _, Nat.zero_le _⟩ (fun H locs hH => ?_)
            refine lv_iconst (v := 1) hx hb dX13_addBar_91 (by decide) ?_
            refine lv_icmp_ne (tgt := 110) hx hb dX13_addBar_92 (by decide) (fun c97 => ?_) (fun c97 => ?_)
            · replace hf := (if_neg c97).symm.trans hf
              refine lv_iconst (v := 0) hx hb dX13_addBar_110 (by decide) ?_
              refine lv_istore_n (i := 3) (lv' := [(3, .int 0), (0, rv E (some o)), (1, .int a_1), (2, .int a_2)]) hx hb dX13_addBar_111 rfl hl (by decide) rfl (fun ls hl => ?_)
              refine lv_iload_n hx hb dX13_addBar_112 rfl (lv_at hl 0 rfl) ?_
              refine lv_if_eq (tgt := 122) hx hb dX13_addBar_113 (by decide) (fun c98 => ?_) (fun c98 => ?_)
              · skip
                refine hl_aload_n hx hb dX13_addBar_122 rfl (lv_at hl 1 rfl) ?_
                refine lv_iconst (v := 1) hx hb dX13_addBar_123 (by decide) ?_
                obtain ⟨q99, hq99, hf⟩ := bnd hf
                refine hcV_i hx hb hml hown hts hKs hT hb0 hH (As := [.int 1]) (rest := []) (k_X13_done l E K H.size o 1 q96.2 ho hq99) (gV m8_50 m8_52 ms_83 m1_16 m8_53) hd_X13_done ⟨Nat.le_of_ble_eq_true rfl, Nat.le_of_ble_eq_true rfl, rfl, rfl⟩ rfl ho rfl rfl rfl hl.1 rfl rc0 rfl dX13_addBar_124 ⟨Nat.zero_le _, Nat.zero_le _⟩ (fun H locs hH => ?_)
                refine lv_iconst (v := 1) hx hb dX13_addBar_127 (by decide) ?_
                refine lv_icmp_ne (tgt := 139) hx hb dX13_addBar_128 (by decide) (fun c100 => ?_) (fun c100 => ?_)
                · replace hf := (if_neg c100).symm.trans hf
                  refine lv_iconst (v := 0) hx hb dX13_addBar_139 (by decide) ?_
                  exact hw_zret hx hb hret rfl hf hH hlocks dX13_addBar_140
                · replace hf := (if_pos c100).symm.trans hf
                  refine lv_iload_n hx hb dX13_addBar_131 rfl (lv_at hl 0 rfl) ?_
                  refine lv_if_eq (tgt := 139) hx hb dX13_addBar_132 (by decide) (fun c101 => ?_) (fun c101 => ?_)
                  · skip
                    refine lv_iconst (v := 0) hx hb dX13_addBar_139 (by decide) ?_
                    exact hw_zret hx hb hret rfl hf hH hlocks dX13_addBar_140
                  · exact (by revert c101; decide : False).elim
              · exact (by revert c98; decide : False).elim
            · replace hf := (if_pos c97).symm.trans hf
              refine hl_aload_n hx hb dX13_addBar_95 rfl (lv_at hl 0 rfl) ?_
              refine lv_iload_n hx hb dX13_addBar_96 rfl (lv_at hl 2 rfl) ?_
              refine lv_bipush (v := 6) hx hb dX13_addBar_97 (by decide) ?_
              obtain ⟨q102, hq102, hf⟩ := bnd hf
              refine hcV_i hx hb hml hown hts hKs hT hb0 hH (As := [.int a_2, .int 6]) (rest := []) (k_X13_of l E K H.size o a_2 6 q96.2 ho hq102) (gV m7_126 m7_128 ms_54 m1_16 m7_129) hd_X13_of ⟨Nat.le_of_ble_eq_true rfl, Nat.le_of_ble_eq_true rfl, rfl, rfl⟩ rfl ho rfl rfl rfl hl.1 rfl rc0 rfl dX13_addBar_99 ⟨Nat.zero_le _, Nat.zero_le _⟩ (fun H locs hH => ?_)
              refine lv_iload_n hx hb dX13_addBar_102 rfl (lv_at hl 1 rfl) ?_
              refine lv_icmp_ne (tgt := 110) hx hb dX13_addBar_103 (by decide) (fun c103 => ?_) (fun c103 => ?_)
              · replace hf := (if_neg c103).symm.trans hf
                refine lv_iconst (v := 0) hx hb dX13_addBar_110 (by decide) ?_
                refine lv_istore_n (i := 3) (lv' := [(3, .int 0), (0, rv E (some o)), (1, .int a_1), (2, .int a_2)]) hx hb dX13_addBar_111 rfl hl (by decide) rfl (fun ls hl => ?_)
                refine lv_iload_n hx hb dX13_addBar_112 rfl (lv_at hl 0 rfl) ?_
                refine lv_if_eq (tgt := 122) hx hb dX13_addBar_113 (by decide) (fun c104 => ?_) (fun c104 => ?_)
                · skip
                  refine hl_aload_n hx hb dX13_addBar_122 rfl (lv_at hl 1 rfl) ?_
                  refine lv_iconst (v := 1) hx hb dX13_addBar_123 (by decide) ?_
                  obtain ⟨q105, hq105, hf⟩ := bnd hf
                  refine hcV_i hx hb hml hown hts hKs hT hb0 hH (As := [.int 1]) (rest := []) (k_X13_done l E K H.size o 1 q102.2 ho hq105) (gV m8_50 m8_52 ms_83 m1_16 m8_53) hd_X13_done ⟨Nat.le_of_ble_eq_true rfl, Nat.le_of_ble_eq_true rfl, rfl, rfl⟩ rfl ho rfl rfl rfl hl.1 rfl rc0 rfl dX13_addBar_124 ⟨Nat.zero_le _, Nat.zero_le _⟩ (fun H locs hH => ?_)
                  refine lv_iconst (v := 1) hx hb dX13_addBar_127 (by decide) ?_
                  refine lv_icmp_ne (tgt := 139) hx hb dX13_addBar_128 (by decide) (fun c106 => ?_) (fun c106 => ?_)
                  · replace hf := (if_neg c106).symm.trans hf
                    refine lv_iconst (v := 0) hx hb dX13_addBar_139 (by decide) ?_
                    exact hw_zret hx hb hret rfl hf hH hlocks dX13_addBar_140
                  · replace hf := (if_pos c106).symm.trans hf
                    refine lv_iload_n hx hb dX13_addBar_131 rfl (lv_at hl 0 rfl) ?_
                    refine lv_if_eq (tgt := 139) hx hb dX13_addBar_132 (by decide) (fun c107 => ?_) (fun c107 => ?_)
                    · skip
                      refine lv_iconst (v := 0) hx hb dX13_addBar_139 (by decide) ?_
                      exact hw_zret hx hb hret rfl hf hH hlocks dX13_addBar_140
                    · exact (by revert c107; decide : False).elim
                · exact (by revert c104; decide : False).elim
              · replace hf := (if_pos c103).symm.trans hf
                refine lv_iconst (v := 1) hx hb dX13_addBar_106 (by decide) ?_
                refine lv_goto (tgt := 111) hx hb dX13_addBar_107 (by decide) ?_
                refine lv_istore_n (i := 3) (lv' := [(3, .int 1), (0, rv E (some o)), (1, .int a_1), (2, .int a_2)]) hx hb dX13_addBar_111 rfl hl (by decide) rfl (fun ls hl => ?_)
                refine lv_iload_n hx hb dX13_addBar_112 rfl (lv_at hl 0 rfl) ?_
                refine lv_if_eq (tgt := 122) hx hb dX13_addBar_113 (by decide) (fun c108 => ?_) (fun c108 => ?_)
                · exact (by revert c108; decide : False).elim
                · skip
                  refine hl_aload_n hx hb dX13_addBar_116 rfl (lv_at hl 1 rfl) ?_
                  refine lv_iload_n hx hb dX13_addBar_117 rfl (lv_at hl 3 rfl) ?_
                  refine lv_iconst (v := 1) hx hb dX13_addBar_118 (by decide) ?_
                  obtain ⟨q109, hq109, hf⟩ := bnd hf
                  refine hcV_v hx hb hml hown hts hKs hT hb0 hH (As := [.int a_2, .int 1]) (rest := []) (k_X13_takesAway l E K H.size o a_2 1 q102.2 ho hq109) (gV m8_81 m8_83 ms_87 m1_16 m8_84) hd_X13_takesAway ⟨Nat.le_of_ble_eq_true rfl, Nat.le_of_ble_eq_true rfl, rfl, rfl⟩ rfl ho rfl rfl rfl hl.1 rfl rc0 rfl dX13_addBar_119 ⟨Nat.zero_le _, Nat.zero_le _⟩ (fun H locs hH => ?_)
                  refine hl_aload_n hx hb dX13_addBar_122 rfl (lv_at hl 1 rfl) ?_
                  refine lv_iconst (v := 1) hx hb dX13_addBar_123 (by decide) ?_
                  obtain ⟨q110, hq110, hf⟩ := bnd hf
                  refine hcV_i hx hb hml hown hts hKs hT hb0 hH (As := [.int 1]) (rest := []) (k_X13_done l E K H.size o 1 q109 ho hq110) (gV m8_50 m8_52 ms_83 m1_16 m8_53) hd_X13_done ⟨Nat.le_of_ble_eq_true rfl, Nat.le_of_ble_eq_true rfl, rfl, rfl⟩ rfl ho rfl rfl rfl hl.1 rfl rc0 rfl dX13_addBar_124 ⟨Nat.zero_le _, Nat.zero_le _⟩ (fun H locs hH => ?_)
                  refine lv_iconst (v := 1) hx hb dX13_addBar_127 (by decide) ?_
                  refine lv_icmp_ne (tgt := 139) hx hb dX13_addBar_128 (by decide) (fun c111 => ?_) (fun c111 => ?_)
                  · replace hf := (if_neg c111).symm.trans hf
                    refine lv_iconst (v := 0) hx hb dX13_addBar_139 (by decide) ?_
                    exact hw_zret hx hb hret rfl hf hH hlocks dX13_addBar_140
                  · replace hf := (if_pos c111).symm.trans hf
                    refine lv_iload_n hx hb dX13_addBar_131 rfl (lv_at hl 0 rfl) ?_
                    refine lv_if_eq (tgt := 139) hx hb dX13_addBar_132 (by decide) (fun c112 => ?_) (fun c112 => ?_)
                    · exact (by revert c112; decide : False).elim
                    · skip
                      refine lv_iconst (v := 1) hx hb dX13_addBar_135 (by decide) ?_
                      refine lv_goto (tgt := 140) hx hb dX13_addBar_136 (by decide) ?_
                      exact hw_zret hx hb hret rfl hf hH hlocks dX13_addBar_140
          · replace hf := (if_pos c90).symm.trans hf
            refine lv_iconst (v := 0) hx hb dX13_addBar_57 (by decide) ?_
            exact hw_zret hx hb hret rfl hf hH hlocks dX13_addBar_58
    · replace hf := (if_neg c58).symm.trans hf
      refine lv_iconst (v := 1) hx hb dX13_addBar_17 (by decide) ?_
      refine lv_goto (tgt := 22) hx hb dX13_addBar_18 (by decide) ?_
      obtain ⟨q113, hq113, hf⟩ := bnd hf
      refine hcV_i hx hb hml hown hts hKs hT hb0 hH (As := [.int 1]) (rest := []) (k_X13_is l E K H.size o true q57.2 ho hq113) (gV m7_68 m7_70 ms_47 m1_16 m7_71) hd_X13_is ⟨Nat.le_of_ble_eq_true rfl, Nat.le_of_ble_eq_true rfl, rfl, rfl⟩ rfl ho rfl rfl rfl hl.1 rfl rc0 rfl dX13_addBar_22 ⟨Nat.zero_le _, Nat.zero_le _⟩ (fun H locs hH => ?_)
      refine lv_if_eq (tgt := 57) hx hb dX13_addBar_25 (by decide) (fun c114 => ?_) (fun c114 => ?_)
      · replace hf := (if_pos c114).symm.trans hf
        refine lv_iconst (v := 0) hx hb dX13_addBar_57 (by decide) ?_
        exact hw_zret hx hb hret rfl hf hH hlocks dX13_addBar_58
      · replace hf := (if_neg c114).symm.trans hf
        refine hl_aload_n hx hb dX13_addBar_28 rfl (lv_at hl 0 rfl) ?_
        refine hl_aload_n hx hb dX13_addBar_29 rfl (lv_at hl 0 rfl) ?_
        refine g13_3 hx hb hts hown hKs hH rfl ho m6_184 dX13_addBar_30 ?_
        refine lv_bipush (v := 34) hx hb dX13_addBar_33 (by decide) ?_
        refine lv_iload_n hx hb dX13_addBar_35 rfl (lv_at hl 2 rfl) ?_
        refine lv_iadd hx hb dX13_addBar_36 ?_
        obtain ⟨a115, ha115, hf⟩ := bnd hf
        replace ha115 := cha_some ha115
        obtain ⟨j116, hj116, hf⟩ := bnd hf
        refine hw_iald hx hb hKs hH ha115.1 ha115.2 hj116 dX13_addBar_37 ?_
        refine lv_iload_n hx hb dX13_addBar_38 rfl (lv_at hl 1 rfl) ?_
        obtain ⟨q117, hq117, hf⟩ := bnd hf
        refine hcS_i hx hb hml hown hts hKs hT hb0 hH (As := [.int ((aI q113.2 a115.1 j116)), .int a_1]) (rest := [rv E (some o)]) (k_X13_has l E K H.size (aI q113.2 a115.1 j116) a_1 q113.2 hq117) (gS m7_223 m7_224 m1_16 m7_225) hs_X13_has ⟨Nat.le_of_ble_eq_true rfl, Nat.le_of_ble_eq_true rfl, rfl, rfl⟩ hl.1 rfl (rcV rc0) rfl dX13_addBar_39 ⟨Nat.zero_le _, Nat.zero_le _⟩ (fun H locs hH => ?_)
        refine lv_if_ne (tgt := 49) hx hb dX13_addBar_42 (by decide) (fun c118 => ?_) (fun c118 => ?_)
        · replace hf := (if_neg c118).symm.trans hf
          refine lv_iconst (v := 0) hx hb dX13_addBar_49 (by decide) ?_
          refine lv_iconst (v := 2) hx hb dX13_addBar_50 (by decide) ?_
          obtain ⟨q119, hq119, hf⟩ := bnd hf
          refine hcV_i hx hb hml hown hts hKs hT hb0 hH (As := [.int 0, .int 2]) (rest := []) (k_X13_may l E K H.size o false 2 q117.2 ho hq119) (gV m7_183 m7_185 ms_61 m1_16 m7_186) hd_X13_may ⟨Nat.le_of_ble_eq_true rfl, Nat.le_of_ble_eq_true rfl, rfl, rfl⟩ rfl ho rfl rfl rfl hl.1 rfl rc0 rfl dX13_addBar_51 ⟨Nat.zero_le _, Nat.zero_le _⟩ (fun H locs hH => ?_)
          refine lv_if_ne (tgt := 59) hx hb dX13_addBar_54 (by decide) (fun c120 => ?_) (fun c120 => ?_)
          · replace hf := (if_neg c120).symm.trans hf
            refine hl_aload_n hx hb dX13_addBar_59 rfl (lv_at hl 0 rfl) ?_
            obtain ⟨q121, hq121, hf⟩ := bnd hf
            refine hcV_v hx hb hml hown hts hKs hT hb0 hH (As := []) (rest := []) (k_X13_starts l E K H.size o q119.2 ho hq121) (gV m8_38 m8_40 ms_80 m1_16 m8_41) hd_X13_starts ⟨Nat.le_of_ble_eq_true rfl, Nat.le_of_ble_eq_true rfl, rfl, rfl⟩ rfl ho rfl rfl rfl hl.1 rfl rc0 rfl dX13_addBar_60 ⟨Nat.zero_le _, Nat.zero_le _⟩ (fun H locs hH => ?_)
            refine hl_aload_n hx hb dX13_addBar_63 rfl (lv_at hl 0 rfl) ?_
            refine g13_3 hx hb hts hown hKs hH rfl ho m6_184 dX13_addBar_64 ?_
            refine lv_bipush (v := 34) hx hb dX13_addBar_67 (by decide) ?_
            refine lv_iload_n hx hb dX13_addBar_69 rfl (lv_at hl 2 rfl) ?_
            refine lv_iadd hx hb dX13_addBar_70 ?_
            refine hl_aload_n hx hb dX13_addBar_71 rfl (lv_at hl 0 rfl) ?_
            refine g13_3 hx hb hts hown hKs hH rfl ho m6_184 dX13_addBar_72 ?_
            refine lv_bipush (v := 34) hx hb dX13_addBar_75 (by decide) ?_
            refine lv_iload_n hx hb dX13_addBar_77 rfl (lv_at hl 2 rfl) ?_
            refine lv_iadd hx hb dX13_addBar_78 ?_
            obtain ⟨a122, ha122, hf⟩ := bnd hf
            replace ha122 := cha_some ha122
            obtain ⟨j123, hj123, hf⟩ := bnd hf
            refine hw_iald hx hb hKs hH ha122.1 ha122.2 hj123 dX13_addBar_79 ?_
            refine lv_iconst (v := 1) hx hb dX13_addBar_80 (by decide) ?_
            refine lv_iload_n hx hb dX13_addBar_81 rfl (lv_at hl 1 rfl) ?_
            refine lv_ishl hx hb dX13_addBar_82 ?_
            refine lv_ior hx hb dX13_addBar_83 ?_
            obtain ⟨j124, hj124, hf⟩ := bnd hf
            obtain ⟨w125, hw125, hf⟩ := bnd hf
            replace hw125 := Option.some.inj hw125
            refine hw_iast (x := ((aI q121 a122.1 j123) ||| (1 <<< (a_1 &&& 31)))) hx hb hKs hH ha122.1 ha122.2 hj124 dX13_addBar_84 (fun H locs hH => ?_)
            rw [hw125] at hH
            refine hl_aload_n hx hb dX13_addBar_85 rfl (lv_at hl 0 rfl) ?_
            refine lv_iload_n hx hb dX13_addBar_86 rfl (lv_at hl 2 rfl) ?_
            refine lv_iconst (v := 0) hx hb dX13_addBar_87 (by decide) ?_
            obtain ⟨q126, hq126, hf⟩ := bnd hf
            refine hcV_i hx hb hml hown hts hKs hT hb0 hH (As := [.int a_2, .int 0]) (rest := []) (k_X13_of l E K H.size o a_2 0 w125 ho hq126) (gV m7_126 m7_128 ms_54 m1_16 m7_129) hd_X13_of ⟨Nat.le_of_ble_eq_true rfl, Nat.le_of_ble_eq_true rfl, rfl, rfl⟩ rfl ho rfl rfl rfl hl.1 rfl rc0 rfl dX13_addBar_88 ⟨Nat.zero_le _, Nat.zero_le _⟩ (fun H locs hH => ?_)
            refine lv_iconst (v := 1) hx hb dX13_addBar_91 (by decide) ?_
            refine lv_icmp_ne (tgt := 110) hx hb dX13_addBar_92 (by decide) (fun c127 => ?_) (fun c127 => ?_)
            · replace hf := (if_neg c127).symm.trans hf
              refine lv_iconst (v := 0) hx hb dX13_addBar_110 (by decide) ?_
              refine lv_istore_n (i := 3) (lv' := [(3, .int 0), (0, rv E (some o)), (1, .int a_1), (2, .int a_2)]) hx hb dX13_addBar_111 rfl hl (by decide) rfl (fun ls hl => ?_)
              refine lv_iload_n hx hb dX13_addBar_112 rfl (lv_at hl 0 rfl) ?_
              refine lv_if_eq (tgt := 122) hx hb dX13_addBar_113 (by decide) (fun c128 => ?_) (fun c128 => ?_)
              · skip
                refine hl_aload_n hx hb dX13_addBar_122 rfl (lv_at hl 1 rfl) ?_
                refine lv_iconst (v := 1) hx hb dX13_addBar_123 (by decide) ?_
                obtain ⟨q129, hq129, hf⟩ := bnd hf
                refine hcV_i hx hb hml hown hts hKs hT hb0 hH (As := [.int 1]) (rest := []) (k_X13_done l E K H.size o 1 q126.2 ho hq129) (gV m8_50 m8_52 ms_83 m1_16 m8_53) hd_X13_done ⟨Nat.le_of_ble_eq_true rfl, Nat.le_of_ble_eq_true rfl, rfl, rfl⟩ rfl ho rfl rfl rfl hl.1 rfl rc0 rfl dX13_addBar_124 ⟨Nat.zero_le _, Nat.zero_le _⟩ (fun H locs hH => ?_)
                refine lv_iconst (v := 1) hx hb dX13_addBar_127 (by decide) ?_
                refine lv_icmp_ne (tgt := 139) hx hb dX13_addBar_128 (by decide) (fun c130 => ?_) (fun c130 => ?_)
                · replace hf := (if_neg c130).symm.trans hf
                  refine lv_iconst (v := 0) hx hb dX13_addBar_139 (by decide) ?_
                  exact hw_zret hx hb hret rfl hf hH hlocks dX13_addBar_140
                · replace hf := (if_pos c130).symm.trans hf
                  refine lv_iload_n hx hb dX13_addBar_131 rfl (lv_at hl 0 rfl) ?_
                  refine lv_if_eq (tgt := 139) hx hb dX13_addBar_132 (by decide) (fun c131 => ?_) (fun c131 => ?_)
                  · skip
                    refine lv_iconst (v := 0) hx hb dX13_addBar_139 (by decide) ?_
                    exact hw_zret hx hb hret rfl hf hH hlocks dX13_addBar_140
                  · exact (by revert c131; decide : False).elim
              · exact (by revert c128; decide : False).elim
            · replace hf := (if_pos c127).symm.trans hf
              refine hl_aload_n hx hb dX13_addBar_95 rfl (lv_at hl 0 rfl) ?_
              refine lv_iload_n hx hb dX13_addBar_96 rfl (lv_at hl 2 rfl) ?_
              refine lv_bipush (v := 6) hx hb dX13_addBar_97 (by decide) ?_
              obtain ⟨q132, hq132, hf⟩ := bnd hf
              refine hcV_i hx hb hml hown hts hKs hT hb0 hH (As := [.int a_2, .int 6]) (rest := []) (k_X13_of l E K H.size o a_2 6 q126.2 ho hq132) (gV m7_126 m7_128 ms_54 m1_16 m7_129) hd_X13_of ⟨Nat.le_of_ble_eq_true rfl, Nat.le_of_ble_eq_true rfl, rfl, rfl⟩ rfl ho rfl rfl rfl hl.1 rfl rc0 rfl dX13_addBar_99 ⟨Nat.zero_le _, Nat.zero_le _⟩ (fun H locs hH => ?_)
              refine lv_iload_n hx hb dX13_addBar_102 rfl (lv_at hl 1 rfl) ?_
              refine lv_icmp_ne (tgt := 110) hx hb dX13_addBar_103 (by decide) (fun c133 => ?_) (fun c133 => ?_)
              · replace hf := (if_neg c133).symm.trans hf
                refine lv_iconst (v := 0) hx hb dX13_addBar_110 (by decide) ?_
                refine lv_istore_n (i := 3) (lv' := [(3, .int 0), (0, rv E (some o)), (1, .int a_1), (2, .int a_2)]) hx hb dX13_addBar_111 rfl hl (by decide) rfl (fun ls hl => ?_)
                refine lv_iload_n hx hb dX13_addBar_112 rfl (lv_at hl 0 rfl) ?_
                refine lv_if_eq (tgt := 122) hx hb dX13_addBar_113 (by decide) (fun c134 => ?_) (fun c134 => ?_)
                · skip
                  refine hl_aload_n hx hb dX13_addBar_122 rfl (lv_at hl 1 rfl) ?_
                  refine lv_iconst (v := 1) hx hb dX13_addBar_123 (by decide) ?_
                  obtain ⟨q135, hq135, hf⟩ := bnd hf
                  refine hcV_i hx hb hml hown hts hKs hT hb0 hH (As := [.int 1]) (rest := []) (k_X13_done l E K H.size o 1 q132.2 ho hq135) (gV m8_50 m8_52 ms_83 m1_16 m8_53) hd_X13_done ⟨Nat.le_of_ble_eq_true rfl, Nat.le_of_ble_eq_true rfl, rfl, rfl⟩ rfl ho rfl rfl rfl hl.1 rfl rc0 rfl dX13_addBar_124 ⟨Nat.zero_le _, Nat.zero_le _⟩ (fun H locs hH => ?_)
                  refine lv_iconst (v := 1) hx hb dX13_addBar_127 (by decide) ?_
                  refine lv_icmp_ne (tgt := 139) hx hb dX13_addBar_128 (by decide) (fun c136 => ?_) (fun c136 => ?_)
                  · replace hf := (if_neg c136).symm.trans hf
                    refine lv_iconst (v := 0) hx hb dX13_addBar_139 (by decide) ?_
                    exact hw_zret hx hb hret rfl hf hH hlocks dX13_addBar_140
                  · replace hf := (if_pos c136).symm.trans hf
                    refine lv_iload_n hx hb dX13_addBar_131 rfl (lv_at hl 0 rfl) ?_
                    refine lv_if_eq (tgt := 139) hx hb dX13_addBar_132 (by decide) (fun c137 => ?_) (fun c137 => ?_)
                    · skip
                      refine lv_iconst (v := 0) hx hb dX13_addBar_139 (by decide) ?_
                      exact hw_zret hx hb hret rfl hf hH hlocks dX13_addBar_140
                    · exact (by revert c137; decide : False).elim
                · exact (by revert c134; decide : False).elim
              · replace hf := (if_pos c133).symm.trans hf
                refine lv_iconst (v := 1) hx hb dX13_addBar_106 (by decide) ?_
                refine lv_goto (tgt := 111) hx hb dX13_addBar_107 (by decide) ?_
                refine lv_istore_n (i := 3) (lv' := [(3, .int 1), (0, rv E (some o)), (1, .int a_1), (2, .int a_2)]) hx hb dX13_addBar_111 rfl hl (by decide) rfl (fun ls hl => ?_)
                refine lv_iload_n hx hb dX13_addBar_112 rfl (lv_at hl 0 rfl) ?_
                refine lv_if_eq (tgt := 122) hx hb dX13_addBar_113 (by decide) (fun c138 => ?_) (fun c138 => ?_)
                · exact (by revert c138; decide : False).elim
                · skip
                  refine hl_aload_n hx hb dX13_addBar_116 rfl (lv_at hl 1 rfl) ?_
                  refine lv_iload_n hx hb dX13_addBar_117 rfl (lv_at hl 3 rfl) ?_
                  refine lv_iconst (v := 1) hx hb dX13_addBar_118 (by decide) ?_
                  obtain ⟨q139, hq139, hf⟩ := bnd hf
                  refine hcV_v hx hb hml hown hts hKs hT hb0 hH (As := [.int a_2, .int 1]) (rest := []) (k_X13_takesAway l E K H.size o a_2 1 q132.2 ho hq139) (gV m8_81 m8_83 ms_87 m1_16 m8_84) hd_X13_takesAway ⟨Nat.le_of_ble_eq_true rfl, Nat.le_of_ble_eq_true rfl, rfl, rfl⟩ rfl ho rfl rfl rfl hl.1 rfl rc0 rfl dX13_addBar_119 ⟨Nat.zero_le _, Nat.zero_le _⟩ (fun H locs hH => ?_)
                  refine hl_aload_n hx hb dX13_addBar_122 rfl (lv_at hl 1 rfl) ?_
                  refine lv_iconst (v := 1) hx hb dX13_addBar_123 (by decide) ?_
                  obtain ⟨q140, hq140, hf⟩ := bnd hf
                  refine hcV_i hx hb hml hown hts hKs hT hb0 hH (As := [.int 1]) (rest := []) (k_X13_done l E K H.size o 1 q139 ho hq140) (gV m8_50 m8_52 ms_83 m1_16 m8_53) hd_X13_done ⟨Nat.le_of_ble_eq_true rfl, Nat.le_of_ble_eq_true rfl, rfl, rfl⟩ rfl ho rfl rfl rfl hl.1 rfl rc0 rfl dX13_addBar_124 ⟨Nat.zero_le _, Nat.zero_le _⟩ (fun H locs hH => ?_)
                  refine lv_iconst (v := 1) hx hb dX13_addBar_127 (by decide) ?_
                  refine lv_icmp_ne (tgt := 139) hx hb dX13_addBar_128 (by decide) (fun c141 => ?_) (fun c141 => ?_)
                  · replace hf := (if_neg c141).symm.trans hf
                    refine lv_iconst (v := 0) hx hb dX13_addBar_139 (by decide) ?_
                    exact hw_zret hx hb hret rfl hf hH hlocks dX13_addBar_140
                  · replace hf := (if_pos c141).symm.trans hf
                    refine lv_iload_n hx hb dX13_addBar_131 rfl (lv_at hl 0 rfl) ?_
                    refine lv_if_eq (tgt := 139) hx hb dX13_addBar_132 (by decide) (fun c142 => ?_) (fun c142 => ?_)
                    · exact (by revert c142; decide : False).elim
                    · skip
                      refine lv_iconst (v := 1) hx hb dX13_addBar_135 (by decide) ?_
                      refine lv_goto (tgt := 140) hx hb dX13_addBar_136 (by decide) ?_
                      exact hw_zret hx hb hret rfl hf hH hlocks dX13_addBar_140
          · replace hf := (if_pos c120).symm.trans hf
            refine lv_iconst (v := 0) hx hb dX13_addBar_57 (by decide) ?_
            exact hw_zret hx hb hret rfl hf hH hlocks dX13_addBar_58
        · replace hf := (if_pos c118).symm.trans hf
          refine lv_iconst (v := 1) hx hb dX13_addBar_45 (by decide) ?_
          refine lv_goto (tgt := 50) hx hb dX13_addBar_46 (by decide) ?_
          refine lv_iconst (v := 2) hx hb dX13_addBar_50 (by decide) ?_
          obtain ⟨q143, hq143, hf⟩ := bnd hf
          refine hcV_i hx hb hml hown hts hKs hT hb0 hH (As := [.int 1, .int 2]) (rest := []) (k_X13_may l E K H.size o true 2 q117.2 ho hq143) (gV m7_183 m7_185 ms_61 m1_16 m7_186) hd_X13_may ⟨Nat.le_of_ble_eq_true rfl, Nat.le_of_ble_eq_true rfl, rfl, rfl⟩ rfl ho rfl rfl rfl hl.1 rfl rc0 rfl dX13_addBar_51 ⟨Nat.zero_le _, Nat.zero_le _⟩ (fun H locs hH => ?_)
          refine lv_if_ne (tgt := 59) hx hb dX13_addBar_54 (by decide) (fun c144 => ?_) (fun c144 => ?_)
          · replace hf := (if_neg c144).symm.trans hf
            refine hl_aload_n hx hb dX13_addBar_59 rfl (lv_at hl 0 rfl) ?_
            obtain ⟨q145, hq145, hf⟩ := bnd hf
            refine hcV_v hx hb hml hown hts hKs hT hb0 hH (As := []) (rest := []) (k_X13_starts l E K H.size o q143.2 ho hq145) (gV m8_38 m8_40 ms_80 m1_16 m8_41) hd_X13_starts ⟨Nat.le_of_ble_eq_true rfl, Nat.le_of_ble_eq_true rfl, rfl, rfl⟩ rfl ho rfl rfl rfl hl.1 rfl rc0 rfl dX13_addBar_60 ⟨Nat.zero_le _, Nat.zero_le _⟩ (fun H locs hH => ?_)
            refine hl_aload_n hx hb dX13_addBar_63 rfl (lv_at hl 0 rfl) ?_
            refine g13_3 hx hb hts hown hKs hH rfl ho m6_184 dX13_addBar_64 ?_
            refine lv_bipush (v := 34) hx hb dX13_addBar_67 (by decide) ?_
            refine lv_iload_n hx hb dX13_addBar_69 rfl (lv_at hl 2 rfl) ?_
            refine lv_iadd hx hb dX13_addBar_70 ?_
            refine hl_aload_n hx hb dX13_addBar_71 rfl (lv_at hl 0 rfl) ?_
            refine g13_3 hx hb hts hown hKs hH rfl ho m6_184 dX13_addBar_72 ?_
            refine lv_bipush (v := 34) hx hb dX13_addBar_75 (by decide) ?_
            refine lv_iload_n hx hb dX13_addBar_77 rfl (lv_at hl 2 rfl) ?_
            refine lv_iadd hx hb dX13_addBar_78 ?_
            obtain ⟨a146, ha146, hf⟩ := bnd hf
            replace ha146 := cha_some ha146
            obtain ⟨j147, hj147, hf⟩ := bnd hf
            refine hw_iald hx hb hKs hH ha146.1 ha146.2 hj147 dX13_addBar_79 ?_
            refine lv_iconst (v := 1) hx hb dX13_addBar_80 (by decide) ?_
            refine lv_iload_n hx hb dX13_addBar_81 rfl (lv_at hl 1 rfl) ?_
            refine lv_ishl hx hb dX13_addBar_82 ?_
            refine lv_ior hx hb dX13_addBar_83 ?_
            obtain ⟨j148, hj148, hf⟩ := bnd hf
            obtain ⟨w149, hw149, hf⟩ := bnd hf
            replace hw149 := Option.some.inj hw149
            refine hw_iast (x := ((aI q145 a146.1 j147) ||| (1 <<< (a_1 &&& 31)))) hx hb hKs hH ha146.1 ha146.2 hj148 dX13_addBar_84 (fun H locs hH => ?_)
            rw [hw149] at hH
            refine hl_aload_n hx hb dX13_addBar_85 rfl (lv_at hl 0 rfl) ?_
            refine lv_iload_n hx hb dX13_addBar_86 rfl (lv_at hl 2 rfl) ?_
            refine lv_iconst (v := 0) hx hb dX13_addBar_87 (by decide) ?_
            obtain ⟨q150, hq150, hf⟩ := bnd hf
            refine hcV_i hx hb hml hown hts hKs hT hb0 hH (As := [.int a_2, .int 0]) (rest := []) (k_X13_of l E K H.size o a_2 0 w149 ho hq150) (gV m7_126 m7_128 ms_54 m1_16 m7_129) hd_X13_of ⟨Nat.le_of_ble_eq_true rfl, Nat.le_of_ble_eq_true rfl, rfl, rfl⟩ rfl ho rfl rfl rfl hl.1 rfl rc0 rfl dX13_addBar_88 ⟨Nat.zero_le _, Nat.zero_le _⟩ (fun H locs hH => ?_)
            refine lv_iconst (v := 1) hx hb dX13_addBar_91 (by decide) ?_
            refine lv_icmp_ne (tgt := 110) hx hb dX13_addBar_92 (by decide) (fun c151 => ?_) (fun c151 => ?_)
            · replace hf := (if_neg c151).symm.trans hf
              refine lv_iconst (v := 0) hx hb dX13_addBar_110 (by decide) ?_
              refine lv_istore_n (i := 3) (lv' := [(3, .int 0), (0, rv E (some o)), (1, .int a_1), (2, .int a_2)]) hx hb dX13_addBar_111 rfl hl (by decide) rfl (fun ls hl => ?_)
              refine lv_iload_n hx hb dX13_addBar_112 rfl (lv_at hl 0 rfl) ?_
              refine lv_if_eq (tgt := 122) hx hb dX13_addBar_113 (by decide) (fun c152 => ?_) (fun c152 => ?_)
              · skip
                refine hl_aload_n hx hb dX13_addBar_122 rfl (lv_at hl 1 rfl) ?_
                refine lv_iconst (v := 1) hx hb dX13_addBar_123 (by decide) ?_
                obtain ⟨q153, hq153, hf⟩ := bnd hf
                refine hcV_i hx hb hml hown hts hKs hT hb0 hH (As := [.int 1]) (rest := []) (k_X13_done l E K H.size o 1 q150.2 ho hq153) (gV m8_50 m8_52 ms_83 m1_16 m8_53) hd_X13_done ⟨Nat.le_of_ble_eq_true rfl, Nat.le_of_ble_eq_true rfl, rfl, rfl⟩ rfl ho rfl rfl rfl hl.1 rfl rc0 rfl dX13_addBar_124 ⟨Nat.zero_le _, Nat.zero_le _⟩ (fun H locs hH => ?_)
                refine lv_iconst (v := 1) hx hb dX13_addBar_127 (by decide) ?_
                refine lv_icmp_ne (tgt := 139) hx hb dX13_addBar_128 (by decide) (fun c154 => ?_) (fun c154 => ?_)
                · replace hf := (if_neg c154).symm.trans hf
                  refine lv_iconst (v := 0) hx hb dX13_addBar_139 (by decide) ?_
                  exact hw_zret hx hb hret rfl hf hH hlocks dX13_addBar_140
                · replace hf := (if_pos c154).symm.trans hf
                  refine lv_iload_n hx hb dX13_addBar_131 rfl (lv_at hl 0 rfl) ?_
                  refine lv_if_eq (tgt := 139) hx hb dX13_addBar_132 (by decide) (fun c155 => ?_) (fun c155 => ?_)
                  · skip
                    refine lv_iconst (v := 0) hx hb dX13_addBar_139 (by decide) ?_
                    exact hw_zret hx hb hret rfl hf hH hlocks dX13_addBar_140
                  · exact (by revert c155; decide : False).elim
              · exact (by revert c152; decide : False).elim
            · replace hf := (if_pos c151).symm.trans hf
              refine hl_aload_n hx hb dX13_addBar_95 rfl (lv_at hl 0 rfl) ?_
              refine lv_iload_n hx hb dX13_addBar_96 rfl (lv_at hl 2 rfl) ?_
              refine lv_bipush (v := 6) hx hb dX13_addBar_97 (by decide) ?_
              obtain ⟨q156, hq156, hf⟩ := bnd hf
              refine hcV_i hx hb hml hown hts hKs hT hb0 hH (As := [.int a_2, .int 6]) (rest := []) (k_X13_of l E K H.size o a_2 6 q150.2 ho hq156) (gV m7_126 m7_128 ms_54 m1_16 m7_129) hd_X13_of ⟨Nat.le_of_ble_eq_true rfl, Nat.le_of_ble_eq_true rfl, rfl, rfl⟩ rfl ho rfl rfl rfl hl.1 rfl rc0 rfl dX13_addBar_99 ⟨Nat.zero_le _, Nat.zero_le _⟩ (fun H locs hH => ?_)
              refine lv_iload_n hx hb dX13_addBar_102 rfl (lv_at hl 1 rfl) ?_
              refine lv_icmp_ne (tgt := 110) hx hb dX13_addBar_103 (by decide) (fun c157 => ?_) (fun c157 => ?_)
              · replace hf := (if_neg c157).symm.trans hf
                refine lv_iconst (v := 0) hx hb dX13_addBar_110 (by decide) ?_
                refine lv_istore_n (i := 3) (lv' := [(3, .int 0), (0, rv E (some o)), (1, .int a_1), (2, .int a_2)]) hx hb dX13_addBar_111 rfl hl (by decide) rfl (fun ls hl => ?_)
                refine lv_iload_n hx hb dX13_addBar_112 rfl (lv_at hl 0 rfl) ?_
                refine lv_if_eq (tgt := 122) hx hb dX13_addBar_113 (by decide) (fun c158 => ?_) (fun c158 => ?_)
                · skip
                  refine hl_aload_n hx hb dX13_addBar_122 rfl (lv_at hl 1 rfl) ?_
                  refine lv_iconst (v := 1) hx hb dX13_addBar_123 (by decide) ?_
                  obtain ⟨q159, hq159, hf⟩ := bnd hf
                  refine hcV_i hx hb hml hown hts hKs hT hb0 hH (As := [.int 1]) (rest := []) (k_X13_done l E K H.size o 1 q156.2 ho hq159) (gV m8_50 m8_52 ms_83 m1_16 m8_53) hd_X13_done ⟨Nat.le_of_ble_eq_true rfl, Nat.le_of_ble_eq_true rfl, rfl, rfl⟩ rfl ho rfl rfl rfl hl.1 rfl rc0 rfl dX13_addBar_124 ⟨Nat.zero_le _, Nat.zero_le _⟩ (fun H locs hH => ?_)
                  refine lv_iconst (v := 1) hx hb dX13_addBar_127 (by decide) ?_
                  refine lv_icmp_ne (tgt := 139) hx hb dX13_addBar_128 (by decide) (fun c160 => ?_) (fun c160 => ?_)
                  · replace hf := (if_neg c160).symm.trans hf
                    refine lv_iconst (v := 0) hx hb dX13_addBar_139 (by decide) ?_
                    exact hw_zret hx hb hret rfl hf hH hlocks dX13_addBar_140
                  · replace hf := (if_pos c160).symm.trans hf
                    refine lv_iload_n hx hb dX13_addBar_131 rfl (lv_at hl 0 rfl) ?_
                    refine lv_if_eq (tgt := 139) hx hb dX13_addBar_132 (by decide) (fun c161 => ?_) (fun c161 => ?_)
                    · skip
                      refine lv_iconst (v := 0) hx hb dX13_addBar_139 (by decide) ?_
                      exact hw_zret hx hb hret rfl hf hH hlocks dX13_addBar_140
                    · exact (by revert c161; decide : False).elim
                · exact (by revert c158; decide : False).elim
              · replace hf := (if_pos c157).symm.trans hf
                refine lv_iconst (v := 1) hx hb dX13_addBar_106 (by decide) ?_
                refine lv_goto (tgt := 111) hx hb dX13_addBar_107 (by decide) ?_
                refine lv_istore_n (i := 3) (lv' := [(3, .int 1), (0, rv E (some o)), (1, .int a_1), (2, .int a_2)]) hx hb dX13_addBar_111 rfl hl (by decide) rfl (fun ls hl => ?_)
                refine lv_iload_n hx hb dX13_addBar_112 rfl (lv_at hl 0 rfl) ?_
                refine lv_if_eq (tgt := 122) hx hb dX13_addBar_113 (by decide) (fun c162 => ?_) (fun c162 => ?_)
                · exact (by revert c162; decide : False).elim
                · skip
                  refine hl_aload_n hx hb dX13_addBar_116 rfl (lv_at hl 1 rfl) ?_
                  refine lv_iload_n hx hb dX13_addBar_117 rfl (lv_at hl 3 rfl) ?_
                  refine lv_iconst (v := 1) hx hb dX13_addBar_118 (by decide) ?_
                  obtain ⟨q163, hq163, hf⟩ := bnd hf
                  refine hcV_v hx hb hml hown hts hKs hT hb0 hH (As := [.int a_2, .int 1]) (rest := []) (k_X13_takesAway l E K H.size o a_2 1 q156.2 ho hq163) (gV m8_81 m8_83 ms_87 m1_16 m8_84) hd_X13_takesAway ⟨Nat.le_of_ble_eq_true rfl, Nat.le_of_ble_eq_true rfl, rfl, rfl⟩ rfl ho rfl rfl rfl hl.1 rfl rc0 rfl dX13_addBar_119 ⟨Nat.zero_le _, Nat.zero_le _⟩ (fun H locs hH => ?_)
                  refine hl_aload_n hx hb dX13_addBar_122 rfl (lv_at hl 1 rfl) ?_
                  refine lv_iconst (v := 1) hx hb dX13_addBar_123 (by decide) ?_
                  obtain ⟨q164, hq164, hf⟩ := bnd hf
                  refine hcV_i hx hb hml hown hts hKs hT hb0 hH (As := [.int 1]) (rest := []) (k_X13_done l E K H.size o 1 q163 ho hq164) (gV m8_50 m8_52 ms_83 m1_16 m8_53) hd_X13_done ⟨Nat.le_of_ble_eq_true rfl, Nat.le_of_ble_eq_true rfl, rfl, rfl⟩ rfl ho rfl rfl rfl hl.1 rfl rc0 rfl dX13_addBar_124 ⟨Nat.zero_le _, Nat.zero_le _⟩ (fun H locs hH => ?_)
                  refine lv_iconst (v := 1) hx hb dX13_addBar_127 (by decide) ?_
                  refine lv_icmp_ne (tgt := 139) hx hb dX13_addBar_128 (by decide) (fun c165 => ?_) (fun c165 => ?_)
                  · replace hf := (if_neg c165).symm.trans hf
                    refine lv_iconst (v := 0) hx hb dX13_addBar_139 (by decide) ?_
                    exact hw_zret hx hb hret rfl hf hH hlocks dX13_addBar_140
                  · replace hf := (if_pos c165).symm.trans hf
                    refine lv_iload_n hx hb dX13_addBar_131 rfl (lv_at hl 0 rfl) ?_
                    refine lv_if_eq (tgt := 139) hx hb dX13_addBar_132 (by decide) (fun c166 => ?_) (fun c166 => ?_)
                    · exact (by revert c166; decide : False).elim
                    · skip
                      refine lv_iconst (v := 1) hx hb dX13_addBar_135 (by decide) ?_
                      refine lv_goto (tgt := 140) hx hb dX13_addBar_136 (by decide) ?_
                      exact hw_zret hx hb hret rfl hf hH hlocks dX13_addBar_140
          · replace hf := (if_pos c144).symm.trans hf
            refine lv_iconst (v := 0) hx hb dX13_addBar_57 (by decide) ?_
            exact hw_zret hx hb hret rfl hf hH hlocks dX13_addBar_58

theorem dX13_passes_0 : decode cX13_passes 0 = .ok (.iconst 0, 1) := by decide +kernel
theorem dX13_passes_1 : decode cX13_passes 1 = .ok (.istore_n 1, 1) := by decide +kernel
theorem dX13_passes_2 : decode cX13_passes 2 = .ok (.iconst 0, 1) := by decide +kernel
theorem dX13_passes_3 : decode cX13_passes 3 = .ok (.istore_n 2, 1) := by decide +kernel
theorem dX13_passes_4 : decode cX13_passes 4 = .ok (.iload_n 2, 1) := by decide +kernel
theorem dX13_passes_5 : decode cX13_passes 5 = .ok (.aload_n 0, 1) := by decide +kernel
theorem dX13_passes_6 : decode cX13_passes 6 = .ok (.getfield 7, 3) := by decide +kernel
theorem dX13_passes_9 : decode cX13_passes 9 = .ok (.iconst 3, 1) := by decide +kernel
theorem dX13_passes_10 : decode cX13_passes 10 = .ok (.iaload, 1) := by decide +kernel
theorem dX13_passes_11 : decode cX13_passes 11 = .ok (.if_icmp .ge 48, 3) := by decide +kernel
theorem dX13_passes_14 : decode cX13_passes 14 = .ok (.aload_n 0, 1) := by decide +kernel
theorem dX13_passes_15 : decode cX13_passes 15 = .ok (.iload_n 2, 1) := by decide +kernel
theorem dX13_passes_16 : decode cX13_passes 16 = .ok (.iconst 0, 1) := by decide +kernel
theorem dX13_passes_17 : decode cX13_passes 17 = .ok (.invokevirtual 141, 3) := by decide +kernel
theorem dX13_passes_20 : decode cX13_passes 20 = .ok (.iconst 1, 1) := by decide +kernel
theorem dX13_passes_21 : decode cX13_passes 21 = .ok (.if_icmp .ne 32, 3) := by decide +kernel
theorem dX13_passes_24 : decode cX13_passes 24 = .ok (.aload_n 0, 1) := by decide +kernel
theorem dX13_passes_25 : decode cX13_passes 25 = .ok (.iload_n 2, 1) := by decide +kernel
theorem dX13_passes_26 : decode cX13_passes 26 = .ok (.iconst 3, 1) := by decide +kernel
theorem dX13_passes_27 : decode cX13_passes 27 = .ok (.invokevirtual 141, 3) := by decide +kernel
theorem dX13_passes_30 : decode cX13_passes 30 = .ok (.aload_n 0, 1) := by decide +kernel
theorem dX13_passes_31 : decode cX13_passes 31 = .ok (.getfield 16, 3) := by decide +kernel
theorem dX13_passes_34 : decode cX13_passes 34 = .ok (.iconst 0, 1) := by decide +kernel
theorem dX13_passes_35 : decode cX13_passes 35 = .ok (.iaload, 1) := by decide +kernel
theorem dX13_passes_36 : decode cX13_passes 36 = .ok (.if_icmp .eq 6, 3) := by decide +kernel
theorem dX13_passes_39 : decode cX13_passes 39 = .ok (.goto 14, 3) := by decide +kernel
theorem dX13_passes_42 : decode cX13_passes 42 = .ok (.aload_n 0, 1) := by decide +kernel
theorem dX13_passes_43 : decode cX13_passes 43 = .ok (.iload_n 2, 1) := by decide +kernel
theorem dX13_passes_44 : decode cX13_passes 44 = .ok (.iconst 0, 1) := by decide +kernel
theorem dX13_passes_45 : decode cX13_passes 45 = .ok (.iconst 2, 1) := by decide +kernel
theorem dX13_passes_46 : decode cX13_passes 46 = .ok (.invokevirtual 258, 3) := by decide +kernel
theorem dX13_passes_49 : decode cX13_passes 49 = .ok (.iload_n 1, 1) := by decide +kernel
theorem dX13_passes_50 : decode cX13_passes 50 = .ok (.iconst 1, 1) := by decide +kernel
theorem dX13_passes_51 : decode cX13_passes 51 = .ok (.iadd, 1) := by decide +kernel
theorem dX13_passes_52 : decode cX13_passes 52 = .ok (.istore_n 1, 1) := by decide +kernel
theorem dX13_passes_53 : decode cX13_passes 53 = .ok (.iinc 2 1, 3) := by decide +kernel
theorem dX13_passes_56 : decode cX13_passes 56 = .ok (.goto (-52), 3) := by decide +kernel
theorem dX13_passes_59 : decode cX13_passes 59 = .ok (.aload_n 0, 1) := by decide +kernel
theorem dX13_passes_60 : decode cX13_passes 60 = .ok (.getfield 16, 3) := by decide +kernel
theorem dX13_passes_63 : decode cX13_passes 63 = .ok (.iconst 0, 1) := by decide +kernel
theorem dX13_passes_64 : decode cX13_passes 64 = .ok (.aload_n 0, 1) := by decide +kernel
theorem dX13_passes_65 : decode cX13_passes 65 = .ok (.getfield 16, 3) := by decide +kernel
theorem dX13_passes_68 : decode cX13_passes 68 = .ok (.iconst 0, 1) := by decide +kernel
theorem dX13_passes_69 : decode cX13_passes 69 = .ok (.iaload, 1) := by decide +kernel
theorem dX13_passes_70 : decode cX13_passes 70 = .ok (.iconst 1, 1) := by decide +kernel
theorem dX13_passes_71 : decode cX13_passes 71 = .ok (.iadd, 1) := by decide +kernel
theorem dX13_passes_72 : decode cX13_passes 72 = .ok (.iastore, 1) := by decide +kernel
theorem dX13_passes_73 : decode cX13_passes 73 = .ok (.iconst 0, 1) := by decide +kernel
theorem dX13_passes_74 : decode cX13_passes 74 = .ok (.istore_n 2, 1) := by decide +kernel
theorem dX13_passes_75 : decode cX13_passes 75 = .ok (.iload_n 2, 1) := by decide +kernel
theorem dX13_passes_76 : decode cX13_passes 76 = .ok (.aload_n 0, 1) := by decide +kernel
theorem dX13_passes_77 : decode cX13_passes 77 = .ok (.getfield 7, 3) := by decide +kernel
theorem dX13_passes_80 : decode cX13_passes 80 = .ok (.iconst 3, 1) := by decide +kernel
theorem dX13_passes_81 : decode cX13_passes 81 = .ok (.iaload, 1) := by decide +kernel
theorem dX13_passes_82 : decode cX13_passes 82 = .ok (.if_icmp .ge 39, 3) := by decide +kernel
theorem dX13_passes_85 : decode cX13_passes 85 = .ok (.aload_n 0, 1) := by decide +kernel
theorem dX13_passes_86 : decode cX13_passes 86 = .ok (.iload_n 2, 1) := by decide +kernel
theorem dX13_passes_87 : decode cX13_passes 87 = .ok (.iconst 0, 1) := by decide +kernel
theorem dX13_passes_88 : decode cX13_passes 88 = .ok (.invokevirtual 141, 3) := by decide +kernel
theorem dX13_passes_91 : decode cX13_passes 91 = .ok (.ifCond .ne 24, 3) := by decide +kernel
theorem dX13_passes_94 : decode cX13_passes 94 = .ok (.aload_n 0, 1) := by decide +kernel
theorem dX13_passes_95 : decode cX13_passes 95 = .ok (.iload_n 2, 1) := by decide +kernel
theorem dX13_passes_96 : decode cX13_passes 96 = .ok (.invokevirtual 144, 3) := by decide +kernel
theorem dX13_passes_99 : decode cX13_passes 99 = .ok (.aload_n 0, 1) := by decide +kernel
theorem dX13_passes_100 : decode cX13_passes 100 = .ok (.getfield 16, 3) := by decide +kernel
theorem dX13_passes_103 : decode cX13_passes 103 = .ok (.iconst 0, 1) := by decide +kernel
theorem dX13_passes_104 : decode cX13_passes 104 = .ok (.iaload, 1) := by decide +kernel
theorem dX13_passes_105 : decode cX13_passes 105 = .ok (.if_icmp .ge 10, 3) := by decide +kernel
theorem dX13_passes_108 : decode cX13_passes 108 = .ok (.aload_n 0, 1) := by decide +kernel
theorem dX13_passes_109 : decode cX13_passes 109 = .ok (.iload_n 2, 1) := by decide +kernel
theorem dX13_passes_110 : decode cX13_passes 110 = .ok (.iconst 0, 1) := by decide +kernel
theorem dX13_passes_111 : decode cX13_passes 111 = .ok (.iconst 3, 1) := by decide +kernel
theorem dX13_passes_112 : decode cX13_passes 112 = .ok (.invokevirtual 258, 3) := by decide +kernel
theorem dX13_passes_115 : decode cX13_passes 115 = .ok (.iinc 2 1, 3) := by decide +kernel
theorem dX13_passes_118 : decode cX13_passes 118 = .ok (.goto (-43), 3) := by decide +kernel
theorem dX13_passes_121 : decode cX13_passes 121 = .ok (.iload_n 1, 1) := by decide +kernel
theorem dX13_passes_122 : decode cX13_passes 122 = .ok (.ireturn, 1) := by decide +kernel
theorem hd_X13_passes : yX13_passes.cls = RX13 ∧ yX13_passes.cls ≠ "java/lang/invoke/MethodHandle" ∧ yX13_passes.cls ≠ "java/lang/invoke/VarHandle" ∧ (parseMethodDescriptor yX13_passes.desc).map (fun d => d.parameters.length) = some 0 := by decide +kernel
theorem hs_X13_passes : yX13_passes.cls ≠ "java/lang/invoke/MethodHandle" ∧ yX13_passes.cls ≠ "java/lang/invoke/VarHandle" ∧ (parseMethodDescriptor yX13_passes.desc).map (fun d => d.parameters.length) = some 0 := by decide +kernel
set_option maxHeartbeats 4000000 in
set_option maxRecDepth 100000 in
theorem l_X13_passes_L4 (C : CX p l e s m args meth c cX13_passes 3 RX13 (Option.some Jvm.ClassFile.FieldType.int) E) {o : Nat} (ho : K o = some (11, 0)) {r : Int32} {w' : Wd} (k : Int32 → Int32 → Wd → Option (Int32 × Wd)) (hk : ∀ (v1_4 : Int32) (v2_4 : Int32) (w : Wd) (H : Heap) (locs : List Loc) (ls : Array Slot), HQ E K z w s H locs → lv_has ls 3 [(1, .int v1_4), (2, .int v2_4), (0, rv E (some o))] → k v1_4 v2_4 w = some (r, w') → W p l e ({ frames := 3, cells := 0, slots := 0, locals := 67 } : Room) s m args below meth c H locs 0 0 (MQ below (QI E K z w' r) args s 0 0 (hA E)) (F0 m 59 ls [])) : ∀ (n : Nat) (v1_4 : Int32) (v2_4 : Int32) (w : Wd) (H : Heap) (locs : List Loc) (ls : Array Slot), HQ E K z w s H locs → lv_has ls 3 [(1, .int v1_4), (2, .int v2_4), (0, rv E (some o))] → f_X13_passes_L4 K o k n v1_4 v2_4 w = some (r, w') → W p l e ({ frames := 3, cells := 0, slots := 0, locals := 67 } : Room) s m args below meth c H locs 0 0 (MQ below (QI E K z w' r) args s 0 0 (hA E)) (F0 m 4 ls []) := by
  obtain ⟨hx, hb, hml, hown, hts, hKs, hT, hb0, hlocks, hret⟩ := id C
  intro n
  induction n with
  | zero =>
    intro v1_4 v2_4 w H locs ls hH hl hf
    cases hf
  | succ n ih =>
    intro v1_4 v2_4 w H locs ls hH hl hf
    rw [f_X13_passes_L4] at hf
    refine lv_iload_n hx hb dX13_passes_4 rfl (lv_at hl 1 rfl) ?_
    refine hl_aload_n hx hb dX13_passes_5 rfl (lv_at hl 2 rfl) ?_
    refine g13_1 hx hb hts hown hKs hH rfl ho m6_182 dX13_passes_6 ?_
    refine lv_iconst (v := 3) hx hb dX13_passes_9 (by decide) ?_
    obtain ⟨a2, ha2, hf⟩ := bnd hf
    replace ha2 := cha_some ha2
    obtain ⟨j3, hj3, hf⟩ := bnd hf
    refine hw_iald hx hb hKs hH ha2.1 ha2.2 hj3 dX13_passes_10 ?_
    refine lv_icmp_ge (tgt := 59) hx hb dX13_passes_11 (by decide) (fun c4 => ?_) (fun c4 => ?_)
    · replace hf := (if_pos c4).symm.trans hf
      exact hk v1_4 v2_4 _ _ _ _ hH (lv_sub hl [0, 1, 2] rfl) hf
    · replace hf := (if_neg c4).symm.trans hf
      refine hl_aload_n hx hb dX13_passes_14 rfl (lv_at hl 2 rfl) ?_
      refine lv_iload_n hx hb dX13_passes_15 rfl (lv_at hl 1 rfl) ?_
      refine lv_iconst (v := 0) hx hb dX13_passes_16 (by decide) ?_
      obtain ⟨q5, hq5, hf⟩ := bnd hf
      refine hcV_i hx hb hml hown hts hKs hT hb0 hH (As := [.int v2_4, .int 0]) (rest := []) (k_X13_of l E K H.size o v2_4 0 w ho hq5) (gV m7_126 m7_128 ms_54 m1_16 m7_129) hd_X13_of ⟨Nat.le_of_ble_eq_true rfl, Nat.le_of_ble_eq_true rfl, rfl, rfl⟩ rfl ho rfl rfl rfl hl.1 rfl rc0 rfl dX13_passes_17 ⟨Nat.zero_le _, Nat.zero_le _⟩ (fun H locs hH => ?_)
      refine lv_iconst (v := 1) hx hb dX13_passes_20 (by decide) ?_
      refine lv_icmp_ne (tgt := 53) hx hb dX13_passes_21 (by decide) (fun c6 => ?_) (fun c6 => ?_)
      · replace hf := (if_neg c6).symm.trans hf
        refine lv_iinc (v := (v2_4 + 1)) (lv' := [(2, .int ((v2_4 + 1))), (1, .int v1_4), (0, rv E (some o))]) hx hb dX13_passes_53 hl (k := 1) rfl rfl (by decide) rfl (fun ls hl => ?_)
        refine lv_goto (tgt := 4) hx hb dX13_passes_56 (by decide) ?_
        exact ih v1_4 (v2_4 + 1) _ _ _ _ hH (lv_sub hl [1, 0, 2] rfl) hf
      · replace hf := (if_pos c6).symm.trans hf
        refine hl_aload_n hx hb dX13_passes_24 rfl (lv_at hl 2 rfl) ?_
        refine lv_iload_n hx hb dX13_passes_25 rfl (lv_at hl 1 rfl) ?_
        refine lv_iconst (v := 3) hx hb dX13_passes_26 (by decide) ?_
        obtain ⟨q7, hq7, hf⟩ := bnd hf
        refine hcV_i hx hb hml hown hts hKs hT hb0 hH (As := [.int v2_4, .int 3]) (rest := []) (k_X13_of l E K H.size o v2_4 3 q5.2 ho hq7) (gV m7_126 m7_128 ms_54 m1_16 m7_129) hd_X13_of ⟨Nat.le_of_ble_eq_true rfl, Nat.le_of_ble_eq_true rfl, rfl, rfl⟩ rfl ho rfl rfl rfl hl.1 rfl rc0 rfl dX13_passes_27 ⟨Nat.zero_le _, Nat.zero_le _⟩ (fun H locs hH => ?_)
        refine hl_aload_n hx hb dX13_passes_30 rfl (lv_at hl 2 rfl) ?_
        refine g13_3 hx hb hts hown hKs hH rfl ho m6_184 dX13_passes_31 ?_
        refine lv_iconst (v := 0) hx hb dX13_passes_34 (by decide) ?_
        obtain ⟨a8, ha8, hf⟩ := bnd hf
        replace ha8 := cha_some ha8
        obtain ⟨j9, hj9, hf⟩ := bnd hf
        refine hw_iald hx hb hKs hH ha8.1 ha8.2 hj9 dX13_passes_35 ?_
        refine lv_icmp_eq (tgt := 42) hx hb dX13_passes_36 (by decide) (fun c10 => ?_) (fun c10 => ?_)
        · replace hf := (if_pos c10).symm.trans hf
          refine hl_aload_n hx hb dX13_passes_42 rfl (lv_at hl 2 rfl) ?_
          refine lv_iload_n hx hb dX13_passes_43 rfl (lv_at hl 1 rfl) ?_
          refine lv_iconst (v := 0) hx hb dX13_passes_44 (by decide) ?_
          refine lv_iconst (v := 2) hx hb dX13_passes_45 (by decide) ?_
          obtain ⟨q11, hq11, hf⟩ := bnd hf
          refine hcV_v hx hb hml hown hts hKs hT hb0 hH (As := [.int v2_4, .int 0, .int 2]) (rest := []) (k_X13_lays l E K H.size o v2_4 0 2 q7.2 ho hq11) (gV m8_46 m8_48 ms_82 m1_16 m8_49) hd_X13_lays ⟨Nat.le_of_ble_eq_true rfl, Nat.le_of_ble_eq_true rfl, rfl, rfl⟩ rfl ho rfl rfl rfl hl.1 rfl rc0 rfl dX13_passes_46 ⟨Nat.zero_le _, Nat.zero_le _⟩ (fun H locs hH => ?_)
          refine lv_iload_n hx hb dX13_passes_49 rfl (lv_at hl 0 rfl) ?_
          refine lv_iconst (v := 1) hx hb dX13_passes_50 (by decide) ?_
          refine lv_iadd hx hb dX13_passes_51 ?_
          refine lv_istore_n (i := 1) (lv' := [(1, .int ((v1_4 + 1))), (2, .int v2_4), (0, rv E (some o))]) hx hb dX13_passes_52 rfl hl (by decide) rfl (fun ls hl => ?_)
          refine lv_iinc (v := (v2_4 + 1)) (lv' := [(2, .int ((v2_4 + 1))), (1, .int ((v1_4 + 1))), (0, rv E (some o))]) hx hb dX13_passes_53 hl (k := 1) rfl rfl (by decide) rfl (fun ls hl => ?_)
          refine lv_goto (tgt := 4) hx hb dX13_passes_56 (by decide) ?_
          exact ih (v1_4 + 1) (v2_4 + 1) _ _ _ _ hH (lv_sub hl [1, 0, 2] rfl) hf
        · replace hf := (if_neg c10).symm.trans hf
          refine lv_goto (tgt := 53) hx hb dX13_passes_39 (by decide) ?_
          refine lv_iinc (v := (v2_4 + 1)) (lv' := [(2, .int ((v2_4 + 1))), (1, .int v1_4), (0, rv E (some o))]) hx hb dX13_passes_53 hl (k := 1) rfl rfl (by decide) rfl (fun ls hl => ?_)
          refine lv_goto (tgt := 4) hx hb dX13_passes_56 (by decide) ?_
          exact ih v1_4 (v2_4 + 1) _ _ _ _ hH (lv_sub hl [1, 0, 2] rfl) hf
set_option maxHeartbeats 4000000 in
set_option maxRecDepth 100000 in
theorem l_X13_passes_L75 (C : CX p l e s m args meth c cX13_passes 3 RX13 (Option.some Jvm.ClassFile.FieldType.int) E) {o : Nat} (ho : K o = some (11, 0)) {r : Int32} {w' : Wd} (k : Int32 → Int32 → Wd → Option (Int32 × Wd)) (hk : ∀ (v1_75 : Int32) (v2_75 : Int32) (w : Wd) (H : Heap) (locs : List Loc) (ls : Array Slot), HQ E K z w s H locs → lv_has ls 3 [(1, .int v1_75), (2, .int v2_75), (0, rv E (some o))] → k v1_75 v2_75 w = some (r, w') → W p l e ({ frames := 3, cells := 0, slots := 0, locals := 67 } : Room) s m args below meth c H locs 0 0 (MQ below (QI E K z w' r) args s 0 0 (hA E)) (F0 m 121 ls [])) : ∀ (n : Nat) (v1_75 : Int32) (v2_75 : Int32) (w : Wd) (H : Heap) (locs : List Loc) (ls : Array Slot), HQ E K z w s H locs → lv_has ls 3 [(1, .int v1_75), (2, .int v2_75), (0, rv E (some o))] → f_X13_passes_L75 K o k n v1_75 v2_75 w = some (r, w') → W p l e ({ frames := 3, cells := 0, slots := 0, locals := 67 } : Room) s m args below meth c H locs 0 0 (MQ below (QI E K z w' r) args s 0 0 (hA E)) (F0 m 75 ls []) := by
  obtain ⟨hx, hb, hml, hown, hts, hKs, hT, hb0, hlocks, hret⟩ := id C
  intro n
  induction n with
  | zero =>
    intro v1_75 v2_75 w H locs ls hH hl hf
    cases hf
  | succ n ih =>
    intro v1_75 v2_75 w H locs ls hH hl hf
    rw [f_X13_passes_L75] at hf
    refine lv_iload_n hx hb dX13_passes_75 rfl (lv_at hl 1 rfl) ?_
    refine hl_aload_n hx hb dX13_passes_76 rfl (lv_at hl 2 rfl) ?_
    refine g13_1 hx hb hts hown hKs hH rfl ho m6_182 dX13_passes_77 ?_
    refine lv_iconst (v := 3) hx hb dX13_passes_80 (by decide) ?_
    obtain ⟨a17, ha17, hf⟩ := bnd hf
    replace ha17 := cha_some ha17
    obtain ⟨j18, hj18, hf⟩ := bnd hf
    refine hw_iald hx hb hKs hH ha17.1 ha17.2 hj18 dX13_passes_81 ?_
    refine lv_icmp_ge (tgt := 121) hx hb dX13_passes_82 (by decide) (fun c19 => ?_) (fun c19 => ?_)
    · replace hf := (if_pos c19).symm.trans hf
      exact hk v1_75 v2_75 _ _ _ _ hH (lv_sub hl [0, 1, 2] rfl) hf
    · replace hf := (if_neg c19).symm.trans hf
      refine hl_aload_n hx hb dX13_passes_85 rfl (lv_at hl 2 rfl) ?_
      refine lv_iload_n hx hb dX13_passes_86 rfl (lv_at hl 1 rfl) ?_
      refine lv_iconst (v := 0) hx hb dX13_passes_87 (by decide) ?_
      obtain ⟨q20, hq20, hf⟩ := bnd hf
      refine hcV_i hx hb hml hown hts hKs hT hb0 hH (As := [.int v2_75, .int 0]) (rest := []) (k_X13_of l E K H.size o v2_75 0 w ho hq20) (gV m7_126 m7_128 ms_54 m1_16 m7_129) hd_X13_of ⟨Nat.le_of_ble_eq_true rfl, Nat.le_of_ble_eq_true rfl, rfl, rfl⟩ rfl ho rfl rfl rfl hl.1 rfl rc0 rfl dX13_passes_88 ⟨Nat.zero_le _, Nat.zero_le _⟩ (fun H locs hH => ?_)
      refine lv_if_ne (tgt := 115) hx hb dX13_passes_91 (by decide) (fun c21 => ?_) (fun c21 => ?_)
      · replace hf := (if_neg c21).symm.trans hf
        refine lv_iinc (v := (v2_75 + 1)) (lv' := [(2, .int ((v2_75 + 1))), (1, .int v1_75), (0, rv E (some o))]) hx hb dX13_passes_115 hl (k := 1) rfl rfl (by decide) rfl (fun ls hl => ?_)
        refine lv_goto (tgt := 75) hx hb dX13_passes_118 (by decide) ?_
        exact ih v1_75 (v2_75 + 1) _ _ _ _ hH (lv_sub hl [1, 0, 2] rfl) hf
      · replace hf := (if_pos c21).symm.trans hf
        refine hl_aload_n hx hb dX13_passes_94 rfl (lv_at hl 2 rfl) ?_
        refine lv_iload_n hx hb dX13_passes_95 rfl (lv_at hl 1 rfl) ?_
        obtain ⟨q22, hq22, hf⟩ := bnd hf
        refine hcV_i hx hb hml hown hts hKs hT hb0 hH (As := [.int v2_75]) (rest := []) (k_X13_limitDay l E K H.size o v2_75 q20.2 ho hq22) (gV m7_122 m7_124 ms_53 m1_16 m7_125) hd_X13_limitDay ⟨Nat.le_of_ble_eq_true rfl, Nat.le_of_ble_eq_true rfl, rfl, rfl⟩ rfl ho rfl rfl rfl hl.1 rfl rc0 rfl dX13_passes_96 ⟨Nat.zero_le _, Nat.zero_le _⟩ (fun H locs hH => ?_)
        refine hl_aload_n hx hb dX13_passes_99 rfl (lv_at hl 2 rfl) ?_
        refine g13_3 hx hb hts hown hKs hH rfl ho m6_184 dX13_passes_100 ?_
        refine lv_iconst (v := 0) hx hb dX13_passes_103 (by decide) ?_
        obtain ⟨a23, ha23, hf⟩ := bnd hf
        replace ha23 := cha_some ha23
        obtain ⟨j24, hj24, hf⟩ := bnd hf
        refine hw_iald hx hb hKs hH ha23.1 ha23.2 hj24 dX13_passes_104 ?_
        refine lv_icmp_ge (tgt := 115) hx hb dX13_passes_105 (by decide) (fun c25 => ?_) (fun c25 => ?_)
        · replace hf := (if_pos c25).symm.trans hf
          refine lv_iinc (v := (v2_75 + 1)) (lv' := [(2, .int ((v2_75 + 1))), (1, .int v1_75), (0, rv E (some o))]) hx hb dX13_passes_115 hl (k := 1) rfl rfl (by decide) rfl (fun ls hl => ?_)
          refine lv_goto (tgt := 75) hx hb dX13_passes_118 (by decide) ?_
          exact ih v1_75 (v2_75 + 1) _ _ _ _ hH (lv_sub hl [1, 0, 2] rfl) hf
        · replace hf := (if_neg c25).symm.trans hf
          refine hl_aload_n hx hb dX13_passes_108 rfl (lv_at hl 2 rfl) ?_
          refine lv_iload_n hx hb dX13_passes_109 rfl (lv_at hl 1 rfl) ?_
          refine lv_iconst (v := 0) hx hb dX13_passes_110 (by decide) ?_
          refine lv_iconst (v := 3) hx hb dX13_passes_111 (by decide) ?_
          obtain ⟨q26, hq26, hf⟩ := bnd hf
          refine hcV_v hx hb hml hown hts hKs hT hb0 hH (As := [.int v2_75, .int 0, .int 3]) (rest := []) (k_X13_lays l E K H.size o v2_75 0 3 q22.2 ho hq26) (gV m8_46 m8_48 ms_82 m1_16 m8_49) hd_X13_lays ⟨Nat.le_of_ble_eq_true rfl, Nat.le_of_ble_eq_true rfl, rfl, rfl⟩ rfl ho rfl rfl rfl hl.1 rfl rc0 rfl dX13_passes_112 ⟨Nat.zero_le _, Nat.zero_le _⟩ (fun H locs hH => ?_)
          refine lv_iinc (v := (v2_75 + 1)) (lv' := [(2, .int ((v2_75 + 1))), (1, .int v1_75), (0, rv E (some o))]) hx hb dX13_passes_115 hl (k := 1) rfl rfl (by decide) rfl (fun ls hl => ?_)
          refine lv_goto (tgt := 75) hx hb dX13_passes_118 (by decide) ?_
          exact ih v1_75 (v2_75 + 1) _ _ _ _ hH (lv_sub hl [1, 0, 2] rfl) hf
set_option maxHeartbeats 4000000 in
set_option maxRecDepth 100000 in
theorem k_X13_passes (l : Launch) (E : Ev) (K : Kd) (z : Nat) (o : Nat) (w : Wd) (ho : K o = some (11, 0)) {r : Int32} {w' : Wd} (hf : f_X13_passes K o w = some (r, w')) : Met l yX13_passes (Cond.code yX13_passes cX13_passes 3 (Option.some Jvm.ClassFile.FieldType.int) :: bt) ({ frames := 3, cells := 0, slots := 0, locals := 67 } : Room) (va_Pc [rv E (some o)] (HB E K w z)) (QI E K z w' r) 0 0 (hA E) := by
  refine Met.ofW (cc := cX13_passes) (maxL := 3) (ret := (Option.some Jvm.ClassFile.FieldType.int)) (by decide) rfl ?_
  intro p e s m args below meth c s₁ B hml hv
  obtain ⟨rfl, hz, hP, hKs, hT, hb0⟩ := hv
  have C : CX p l e s m _ meth c cX13_passes 3 RX13 (Option.some Jvm.ClassFile.FieldType.int) E := ⟨B.exec, B.bytes, hml, findClass_of_methodNamed B.named, fun w h => atoms_spec (ws := Cond.code yX13_passes cX13_passes 3 (Option.some Jvm.ClassFile.FieldType.int) :: bt) B.pre w (List.mem_cons_of_mem _ h), hKs, hT, by rw [hz]; exact hb0, B.notSynchronized, B.returns⟩
  have hH : HQ E K z w s s.heap [] := ⟨hP, va_S.rf, hz⟩
  obtain ⟨hx, hb, hml, hown, hts, hKs, hT, hb0, hlocks, hret⟩ := id C
  have hl := lv_entry [rv E (some o)] (n := 3) (by simp [lg_len_nil, lg_len_i, lg_len_j, lg_len_q, lg_len_f, lg_len_d, lg_len_r])
  rw [lg_entry_eq]
  generalize (lg_sl [rv E (some o)] ++ List.replicate (3 - (lg_sl [rv E (some o)]).length) Slot.unset).toArray = ls at hl ⊢
  replace hl : lv_has ls 3 [(0, rv E (some o))] := by simpa only [lv_args, cat_q, cat_i, cat_j, reduceIte, Nat.reduceEqDiff, Nat.reduceAdd, Nat.zero_add] using hl
  generalize s.heap = H at hH ⊢
  unfold f_X13_passes at hf
  refine lv_iconst (v := 0) hx hb dX13_passes_0 (by decide) ?_
  refine lv_istore_n (i := 1) (lv' := [(1, .int 0), (0, rv E (some o))]) hx hb dX13_passes_1 rfl hl (by decide) rfl (fun ls hl => ?_)
  refine lv_iconst (v := 0) hx hb dX13_passes_2 (by decide) ?_
  refine lv_istore_n (i := 2) (lv' := [(2, .int 0), (1, .int 0), (0, rv E (some o))]) hx hb dX13_passes_3 rfl hl (by decide) rfl (fun ls hl => ?_)
  refine l_X13_passes_L4  C ho _ (fun v1_4 v2_4 w1 H locs ls hH hl hf => ?_) fu 0 0 w _ _ _ hH (lv_sub hl [1, 0, 2] rfl) hf
  refine hl_aload_n hx hb dX13_passes_59 rfl (lv_at hl 2 rfl) ?_
  refine g13_3 hx hb hts hown hKs hH rfl ho m6_184 dX13_passes_60 ?_
  refine lv_iconst (v := 0) hx hb dX13_passes_63 (by decide) ?_
  refine hl_aload_n hx hb dX13_passes_64 rfl (lv_at hl 2 rfl) ?_
  refine g13_3 hx hb hts hown hKs hH rfl ho m6_184 dX13_passes_65 ?_
  refine lv_iconst (v := 0) hx hb dX13_passes_68 (by decide) ?_
  obtain ⟨a12, ha12, hf⟩ := bnd hf
  replace ha12 := cha_some ha12
  obtain ⟨j13, hj13, hf⟩ := bnd hf
  refine hw_iald hx hb hKs hH ha12.1 ha12.2 hj13 dX13_passes_69 ?_
  refine lv_iconst (v := 1) hx hb dX13_passes_70 (by decide) ?_
  refine lv_iadd hx hb dX13_passes_71 ?_
  obtain ⟨j14, hj14, hf⟩ := bnd hf
  obtain ⟨w15, hw15, hf⟩ := bnd hf
  replace hw15 := Option.some.inj hw15
  refine hw_iast (x := ((aI w1 a12.1 j13) + 1)) hx hb hKs hH ha12.1 ha12.2 hj14 dX13_passes_72 (fun H locs hH => ?_)
  rw [hw15] at hH
  refine lv_iconst (v := 0) hx hb dX13_passes_73 (by decide) ?_
  refine lv_istore_n (i := 2) (lv' := [(2, .int 0), (1, .int v1_4), (0, rv E (some o))]) hx hb dX13_passes_74 rfl hl (by decide) rfl (fun ls hl => ?_)
  refine l_X13_passes_L75  C ho _ (fun v1_75 v2_75 w16 H locs ls hH hl hf => ?_) fu v1_4 0 w15 _ _ _ hH (lv_sub hl [1, 0, 2] rfl) hf
  refine lv_iload_n hx hb dX13_passes_121 rfl (lv_at hl 0 rfl) ?_
  exact hw_iret hx hb hret hf hH hlocks dX13_passes_122

theorem dX13_canPass_0 : decode cX13_canPass 0 = .ok (.iload_n 1, 1) := by decide +kernel
theorem dX13_canPass_1 : decode cX13_canPass 1 = .ok (.i2l, 1) := by decide +kernel
theorem dX13_canPass_2 : decode cX13_canPass 2 = .ok (.lconst 1, 1) := by decide +kernel
theorem dX13_canPass_3 : decode cX13_canPass 3 = .ok (.ldc2_w 289, 3) := by decide +kernel
theorem dX13_canPass_6 : decode cX13_canPass 6 = .ok (.invokestatic 123, 3) := by decide +kernel
theorem dX13_canPass_9 : decode cX13_canPass 9 = .ok (.ifCond .eq 21, 3) := by decide +kernel
theorem dX13_canPass_12 : decode cX13_canPass 12 = .ok (.aload_n 0, 1) := by decide +kernel
theorem dX13_canPass_13 : decode cX13_canPass 13 = .ok (.getfield 16, 3) := by decide +kernel
theorem dX13_canPass_16 : decode cX13_canPass 16 = .ok (.iconst 0, 1) := by decide +kernel
theorem dX13_canPass_17 : decode cX13_canPass 17 = .ok (.iaload, 1) := by decide +kernel
theorem dX13_canPass_18 : decode cX13_canPass 18 = .ok (.iload_n 1, 1) := by decide +kernel
theorem dX13_canPass_19 : decode cX13_canPass 19 = .ok (.iadd, 1) := by decide +kernel
theorem dX13_canPass_20 : decode cX13_canPass 20 = .ok (.sipush 600, 3) := by decide +kernel
theorem dX13_canPass_23 : decode cX13_canPass 23 = .ok (.if_icmp .ge 7, 3) := by decide +kernel
theorem dX13_canPass_26 : decode cX13_canPass 26 = .ok (.iconst 1, 1) := by decide +kernel
theorem dX13_canPass_27 : decode cX13_canPass 27 = .ok (.goto 4, 3) := by decide +kernel
theorem dX13_canPass_30 : decode cX13_canPass 30 = .ok (.iconst 0, 1) := by decide +kernel
theorem dX13_canPass_31 : decode cX13_canPass 31 = .ok (.ireturn, 1) := by decide +kernel
theorem hd_X13_canPass : yX13_canPass.cls = RX13 ∧ yX13_canPass.cls ≠ "java/lang/invoke/MethodHandle" ∧ yX13_canPass.cls ≠ "java/lang/invoke/VarHandle" ∧ (parseMethodDescriptor yX13_canPass.desc).map (fun d => d.parameters.length) = some 1 := by decide +kernel
theorem hs_X13_canPass : yX13_canPass.cls ≠ "java/lang/invoke/MethodHandle" ∧ yX13_canPass.cls ≠ "java/lang/invoke/VarHandle" ∧ (parseMethodDescriptor yX13_canPass.desc).map (fun d => d.parameters.length) = some 1 := by decide +kernel
set_option maxHeartbeats 4000000 in
set_option maxRecDepth 100000 in
theorem k_X13_canPass (l : Launch) (E : Ev) (K : Kd) (z : Nat) (o : Nat) (a_1 : Int32) (w : Wd) (ho : K o = some (11, 0)) {r : Bool} {w' : Wd} (hf : f_X13_canPass K o a_1 w = some (r, w')) : Met l yX13_canPass (Cond.code yX13_canPass cX13_canPass 2 (Option.some Jvm.ClassFile.FieldType.boolean) :: bt) ({ frames := 1, cells := 0, slots := 0, locals := 25 } : Room) (va_Pc [rv E (some o), .int a_1] (HB E K w z)) (QI E K z w' (b2i r)) 0 0 (hA E) := by
  refine Met.ofW (cc := cX13_canPass) (maxL := 2) (ret := (Option.some Jvm.ClassFile.FieldType.boolean)) (by decide) rfl ?_
  intro p e s m args below meth c s₁ B hml hv
  obtain ⟨rfl, hz, hP, hKs, hT, hb0⟩ := hv
  have C : CX p l e s m _ meth c cX13_canPass 2 RX13 (Option.some Jvm.ClassFile.FieldType.boolean) E := ⟨B.exec, B.bytes, hml, findClass_of_methodNamed B.named, fun w h => atoms_spec (ws := Cond.code yX13_canPass cX13_canPass 2 (Option.some Jvm.ClassFile.FieldType.boolean) :: bt) B.pre w (List.mem_cons_of_mem _ h), hKs, hT, by rw [hz]; exact hb0, B.notSynchronized, B.returns⟩
  have hH : HQ E K z w s s.heap [] := ⟨hP, va_S.rf, hz⟩
  obtain ⟨hx, hb, hml, hown, hts, hKs, hT, hb0, hlocks, hret⟩ := id C
  have hl := lv_entry [rv E (some o), .int a_1] (n := 2) (by simp [lg_len_nil, lg_len_i, lg_len_j, lg_len_q, lg_len_f, lg_len_d, lg_len_r])
  rw [lg_entry_eq]
  generalize (lg_sl [rv E (some o), .int a_1] ++ List.replicate (2 - (lg_sl [rv E (some o), .int a_1]).length) Slot.unset).toArray = ls at hl ⊢
  replace hl : lv_has ls 2 [(0, rv E (some o)), (1, .int a_1)] := by simpa only [lv_args, cat_q, cat_i, cat_j, reduceIte, Nat.reduceEqDiff, Nat.reduceAdd, Nat.zero_add] using hl
  generalize s.heap = H at hH ⊢
  unfold f_X13_canPass at hf
  refine lv_iload_n hx hb dX13_canPass_0 rfl (lv_at hl 1 rfl) ?_
  refine lv_i2l (v := (a_1.toInt64)) hx hb dX13_canPass_1 rfl ?_
  refine lv_lconst (v := 1) hx hb dX13_canPass_2 rfl ?_
  refine lv_ldc2 (v := 99) hx hb hown (hts _ m8_109) dX13_canPass_3 ?_
  obtain ⟨q1, hq1, hf⟩ := bnd hf
  refine hcS_i hx hb hml hown hts hKs hT hb0 hH (As := [.long (a_1.toInt64), .long 1, .long 99]) (rest := []) (k_X13_isIn l E K H.size (a_1.toInt64) 1 99 w hq1) (gS m7_88 m7_89 m1_16 m7_90) hs_X13_isIn ⟨Nat.le_of_ble_eq_true rfl, Nat.le_of_ble_eq_true rfl, rfl, rfl⟩ hl.1 rfl rc0 rfl dX13_canPass_6 ⟨Nat.zero_le _, Nat.zero_le _⟩ (fun H locs hH => ?_)
  refine lv_if_eq (tgt := 30) hx hb dX13_canPass_9 (by decide) (fun c2 => ?_) (fun c2 => ?_)
  · replace hf := (if_pos c2).symm.trans hf
    refine lv_iconst (v := 0) hx hb dX13_canPass_30 (by decide) ?_
    exact hw_zret hx hb hret rfl hf hH hlocks dX13_canPass_31
  · replace hf := (if_neg c2).symm.trans hf
    refine hl_aload_n hx hb dX13_canPass_12 rfl (lv_at hl 0 rfl) ?_
    refine g13_3 hx hb hts hown hKs hH rfl ho m6_184 dX13_canPass_13 ?_
    refine lv_iconst (v := 0) hx hb dX13_canPass_16 (by decide) ?_
    obtain ⟨a3, ha3, hf⟩ := bnd hf
    replace ha3 := cha_some ha3
    obtain ⟨j4, hj4, hf⟩ := bnd hf
    refine hw_iald hx hb hKs hH ha3.1 ha3.2 hj4 dX13_canPass_17 ?_
    refine lv_iload_n hx hb dX13_canPass_18 rfl (lv_at hl 1 rfl) ?_
    refine lv_iadd hx hb dX13_canPass_19 ?_
    refine lv_sipush (v := 600) hx hb dX13_canPass_20 (by decide) ?_
    refine lv_icmp_ge (tgt := 30) hx hb dX13_canPass_23 (by decide) (fun c5 => ?_) (fun c5 => ?_)
    · replace hf := (if_pos c5).symm.trans hf
      refine lv_iconst (v := 0) hx hb dX13_canPass_30 (by decide) ?_
      exact hw_zret hx hb hret rfl hf hH hlocks dX13_canPass_31
    · replace hf := (if_neg c5).symm.trans hf
      refine lv_iconst (v := 1) hx hb dX13_canPass_26 (by decide) ?_
      refine lv_goto (tgt := 31) hx hb dX13_canPass_27 (by decide) ?_
      exact hw_zret hx hb hret rfl hf hH hlocks dX13_canPass_31

theorem dX13_passesAll_0 : decode cX13_passesAll 0 = .ok (.iconst 0, 1) := by decide +kernel
theorem dX13_passesAll_1 : decode cX13_passesAll 1 = .ok (.istore_n 2, 1) := by decide +kernel
theorem dX13_passesAll_2 : decode cX13_passesAll 2 = .ok (.iconst 0, 1) := by decide +kernel
theorem dX13_passesAll_3 : decode cX13_passesAll 3 = .ok (.istore_n 3, 1) := by decide +kernel
theorem dX13_passesAll_4 : decode cX13_passesAll 4 = .ok (.iload_n 3, 1) := by decide +kernel
theorem dX13_passesAll_5 : decode cX13_passesAll 5 = .ok (.iload_n 1, 1) := by decide +kernel
theorem dX13_passesAll_6 : decode cX13_passesAll 6 = .ok (.if_icmp .ge 16, 3) := by decide +kernel
theorem dX13_passesAll_9 : decode cX13_passesAll 9 = .ok (.iload_n 2, 1) := by decide +kernel
theorem dX13_passesAll_10 : decode cX13_passesAll 10 = .ok (.aload_n 0, 1) := by decide +kernel
theorem dX13_passesAll_11 : decode cX13_passesAll 11 = .ok (.invokevirtual 291, 3) := by decide +kernel
theorem dX13_passesAll_14 : decode cX13_passesAll 14 = .ok (.iadd, 1) := by decide +kernel
theorem dX13_passesAll_15 : decode cX13_passesAll 15 = .ok (.istore_n 2, 1) := by decide +kernel
theorem dX13_passesAll_16 : decode cX13_passesAll 16 = .ok (.iinc 3 1, 3) := by decide +kernel
theorem dX13_passesAll_19 : decode cX13_passesAll 19 = .ok (.goto (-15), 3) := by decide +kernel
theorem dX13_passesAll_22 : decode cX13_passesAll 22 = .ok (.iload_n 2, 1) := by decide +kernel
theorem dX13_passesAll_23 : decode cX13_passesAll 23 = .ok (.ireturn, 1) := by decide +kernel
theorem hd_X13_passesAll : yX13_passesAll.cls = RX13 ∧ yX13_passesAll.cls ≠ "java/lang/invoke/MethodHandle" ∧ yX13_passesAll.cls ≠ "java/lang/invoke/VarHandle" ∧ (parseMethodDescriptor yX13_passesAll.desc).map (fun d => d.parameters.length) = some 1 := by decide +kernel
theorem hs_X13_passesAll : yX13_passesAll.cls ≠ "java/lang/invoke/MethodHandle" ∧ yX13_passesAll.cls ≠ "java/lang/invoke/VarHandle" ∧ (parseMethodDescriptor yX13_passesAll.desc).map (fun d => d.parameters.length) = some 1 := by decide +kernel
set_option maxHeartbeats 4000000 in
set_option maxRecDepth 100000 in
theorem l_X13_passesAll_L4 (C : CX p l e s m args meth c cX13_passesAll 4 RX13 (Option.some Jvm.ClassFile.FieldType.int) E) {o : Nat} (ho : K o = some (11, 0)) {r : Int32} {w' : Wd} (k : Int32 → Int32 → Int32 → Wd → Option (Int32 × Wd)) (hk : ∀ (v1_4 : Int32) (v2_4 : Int32) (v3_4 : Int32) (w : Wd) (H : Heap) (locs : List Loc) (ls : Array Slot), HQ E K z w s H locs → lv_has ls 4 [(1, .int v1_4), (2, .int v2_4), (3, .int v3_4), (0, rv E (some o))] → k v1_4 v2_4 v3_4 w = some (r, w') → W p l e ({ frames := 4, cells := 0, slots := 0, locals := 89 } : Room) s m args below meth c H locs 0 0 (MQ below (QI E K z w' r) args s 0 0 (hA E)) (F0 m 22 ls [])) : ∀ (n : Nat) (v1_4 : Int32) (v2_4 : Int32) (v3_4 : Int32) (w : Wd) (H : Heap) (locs : List Loc) (ls : Array Slot), HQ E K z w s H locs → lv_has ls 4 [(1, .int v1_4), (2, .int v2_4), (3, .int v3_4), (0, rv E (some o))] → f_X13_passesAll_L4 K o k n v1_4 v2_4 v3_4 w = some (r, w') → W p l e ({ frames := 4, cells := 0, slots := 0, locals := 89 } : Room) s m args below meth c H locs 0 0 (MQ below (QI E K z w' r) args s 0 0 (hA E)) (F0 m 4 ls []) := by
  obtain ⟨hx, hb, hml, hown, hts, hKs, hT, hb0, hlocks, hret⟩ := id C
  intro n
  induction n with
  | zero =>
    intro v1_4 v2_4 v3_4 w H locs ls hH hl hf
    cases hf
  | succ n ih =>
    intro v1_4 v2_4 v3_4 w H locs ls hH hl hf
    rw [f_X13_passesAll_L4] at hf
    refine lv_iload_n hx hb dX13_passesAll_4 rfl (lv_at hl 2 rfl) ?_
    refine lv_iload_n hx hb dX13_passesAll_5 rfl (lv_at hl 0 rfl) ?_
    refine lv_icmp_ge (tgt := 22) hx hb dX13_passesAll_6 (by decide) (fun c2 => ?_) (fun c2 => ?_)
    · replace hf := (if_pos c2).symm.trans hf
      exact hk v1_4 v2_4 v3_4 _ _ _ _ hH (lv_sub hl [0, 1, 2, 3] rfl) hf
    · replace hf := (if_neg c2).symm.trans hf
      refine lv_iload_n hx hb dX13_passesAll_9 rfl (lv_at hl 1 rfl) ?_
      refine hl_aload_n hx hb dX13_passesAll_10 rfl (lv_at hl 3 rfl) ?_
      obtain ⟨q3, hq3, hf⟩ := bnd hf
      refine hcV_i hx hb hml hown hts hKs hT hb0 hH (As := []) (rest := [.int v2_4]) (k_X13_passes l E K H.size o w ho hq3) (gV m8_114 m8_116 ms_91 m1_16 m8_117) hd_X13_passes ⟨Nat.le_of_ble_eq_true rfl, Nat.le_of_ble_eq_true rfl, rfl, rfl⟩ rfl ho rfl rfl rfl hl.1 rfl (rcI rc0) rfl dX13_passesAll_11 ⟨Nat.zero_le _, Nat.zero_le _⟩ (fun H locs hH => ?_)
      refine lv_iadd hx hb dX13_passesAll_14 ?_
      refine lv_istore_n (i := 2) (lv' := [(2, .int ((v2_4 + q3.1))), (1, .int v1_4), (3, .int v3_4), (0, rv E (some o))]) hx hb dX13_passesAll_15 rfl hl (by decide) rfl (fun ls hl => ?_)
      refine lv_iinc (v := (v3_4 + 1)) (lv' := [(3, .int ((v3_4 + 1))), (2, .int ((v2_4 + q3.1))), (1, .int v1_4), (0, rv E (some o))]) hx hb dX13_passesAll_16 hl (k := 2) rfl rfl (by decide) rfl (fun ls hl => ?_)
      refine lv_goto (tgt := 4) hx hb dX13_passesAll_19 (by decide) ?_
      exact ih v1_4 (v2_4 + q3.1) (v3_4 + 1) _ _ _ _ hH (lv_sub hl [2, 1, 0, 3] rfl) hf
set_option maxHeartbeats 4000000 in
set_option maxRecDepth 100000 in
theorem k_X13_passesAll (l : Launch) (E : Ev) (K : Kd) (z : Nat) (o : Nat) (a_1 : Int32) (w : Wd) (ho : K o = some (11, 0)) {r : Int32} {w' : Wd} (hf : f_X13_passesAll K o a_1 w = some (r, w')) : Met l yX13_passesAll (Cond.code yX13_passesAll cX13_passesAll 4 (Option.some Jvm.ClassFile.FieldType.int) :: bt) ({ frames := 4, cells := 0, slots := 0, locals := 89 } : Room) (va_Pc [rv E (some o), .int a_1] (HB E K w z)) (QI E K z w' r) 0 0 (hA E) := by
  refine Met.ofW (cc := cX13_passesAll) (maxL := 4) (ret := (Option.some Jvm.ClassFile.FieldType.int)) (by decide) rfl ?_
  intro p e s m args below meth c s₁ B hml hv
  obtain ⟨rfl, hz, hP, hKs, hT, hb0⟩ := hv
  have C : CX p l e s m _ meth c cX13_passesAll 4 RX13 (Option.some Jvm.ClassFile.FieldType.int) E := ⟨B.exec, B.bytes, hml, findClass_of_methodNamed B.named, fun w h => atoms_spec (ws := Cond.code yX13_passesAll cX13_passesAll 4 (Option.some Jvm.ClassFile.FieldType.int) :: bt) B.pre w (List.mem_cons_of_mem _ h), hKs, hT, by rw [hz]; exact hb0, B.notSynchronized, B.returns⟩
  have hH : HQ E K z w s s.heap [] := ⟨hP, va_S.rf, hz⟩
  obtain ⟨hx, hb, hml, hown, hts, hKs, hT, hb0, hlocks, hret⟩ := id C
  have hl := lv_entry [rv E (some o), .int a_1] (n := 4) (by simp [lg_len_nil, lg_len_i, lg_len_j, lg_len_q, lg_len_f, lg_len_d, lg_len_r])
  rw [lg_entry_eq]
  generalize (lg_sl [rv E (some o), .int a_1] ++ List.replicate (4 - (lg_sl [rv E (some o), .int a_1]).length) Slot.unset).toArray = ls at hl ⊢
  replace hl : lv_has ls 4 [(0, rv E (some o)), (1, .int a_1)] := by simpa only [lv_args, cat_q, cat_i, cat_j, reduceIte, Nat.reduceEqDiff, Nat.reduceAdd, Nat.zero_add] using hl
  generalize s.heap = H at hH ⊢
  unfold f_X13_passesAll at hf
  refine lv_iconst (v := 0) hx hb dX13_passesAll_0 (by decide) ?_
  refine lv_istore_n (i := 2) (lv' := [(2, .int 0), (0, rv E (some o)), (1, .int a_1)]) hx hb dX13_passesAll_1 rfl hl (by decide) rfl (fun ls hl => ?_)
  refine lv_iconst (v := 0) hx hb dX13_passesAll_2 (by decide) ?_
  refine lv_istore_n (i := 3) (lv' := [(3, .int 0), (2, .int 0), (0, rv E (some o)), (1, .int a_1)]) hx hb dX13_passesAll_3 rfl hl (by decide) rfl (fun ls hl => ?_)
  refine l_X13_passesAll_L4  C ho _ (fun v1_4 v2_4 v3_4 w1 H locs ls hH hl hf => ?_) fu a_1 0 0 w _ _ _ hH (lv_sub hl [3, 1, 0, 2] rfl) hf
  refine lv_iload_n hx hb dX13_passesAll_22 rfl (lv_at hl 1 rfl) ?_
  exact hw_iret hx hb hret hf hH hlocks dX13_passesAll_23

theorem dX13_pass_0 : decode cX13_pass 0 = .ok (.aload_n 0, 1) := by decide +kernel
theorem dX13_pass_1 : decode cX13_pass 1 = .ok (.aload_n 0, 1) := by decide +kernel
theorem dX13_pass_2 : decode cX13_pass 2 = .ok (.iload_n 1, 1) := by decide +kernel
theorem dX13_pass_3 : decode cX13_pass 3 = .ok (.invokevirtual 294, 3) := by decide +kernel
theorem dX13_pass_6 : decode cX13_pass 6 = .ok (.invokevirtual 110, 3) := by decide +kernel
theorem dX13_pass_9 : decode cX13_pass 9 = .ok (.ifCond .ne 5, 3) := by decide +kernel
theorem dX13_pass_12 : decode cX13_pass 12 = .ok (.iconst 0, 1) := by decide +kernel
theorem dX13_pass_13 : decode cX13_pass 13 = .ok (.ireturn, 1) := by decide +kernel
theorem dX13_pass_14 : decode cX13_pass 14 = .ok (.aload_n 0, 1) := by decide +kernel
theorem dX13_pass_15 : decode cX13_pass 15 = .ok (.invokevirtual 262, 3) := by decide +kernel
theorem dX13_pass_18 : decode cX13_pass 18 = .ok (.aload_n 0, 1) := by decide +kernel
theorem dX13_pass_19 : decode cX13_pass 19 = .ok (.aload_n 0, 1) := by decide +kernel
theorem dX13_pass_20 : decode cX13_pass 20 = .ok (.iload_n 1, 1) := by decide +kernel
theorem dX13_pass_21 : decode cX13_pass 21 = .ok (.invokevirtual 297, 3) := by decide +kernel
theorem dX13_pass_24 : decode cX13_pass 24 = .ok (.invokevirtual 269, 3) := by decide +kernel
theorem dX13_pass_27 : decode cX13_pass 27 = .ok (.ireturn, 1) := by decide +kernel
theorem hd_X13_pass : yX13_pass.cls = RX13 ∧ yX13_pass.cls ≠ "java/lang/invoke/MethodHandle" ∧ yX13_pass.cls ≠ "java/lang/invoke/VarHandle" ∧ (parseMethodDescriptor yX13_pass.desc).map (fun d => d.parameters.length) = some 1 := by decide +kernel
theorem hs_X13_pass : yX13_pass.cls ≠ "java/lang/invoke/MethodHandle" ∧ yX13_pass.cls ≠ "java/lang/invoke/VarHandle" ∧ (parseMethodDescriptor yX13_pass.desc).map (fun d => d.parameters.length) = some 1 := by decide +kernel
set_option maxHeartbeats 4000000 in
set_option maxRecDepth 100000 in
theorem k_X13_pass (l : Launch) (E : Ev) (K : Kd) (z : Nat) (o : Nat) (a_1 : Int32) (w : Wd) (ho : K o = some (11, 0)) {r : Int32} {w' : Wd} (hf : f_X13_pass K o a_1 w = some (r, w')) : Met l yX13_pass (Cond.code yX13_pass cX13_pass 2 (Option.some Jvm.ClassFile.FieldType.int) :: bt) ({ frames := 5, cells := 0, slots := 0, locals := 112 } : Room) (va_Pc [rv E (some o), .int a_1] (HB E K w z)) (QI E K z w' r) 0 0 (hA E) := by
  refine Met.ofW (cc := cX13_pass) (maxL := 2) (ret := (Option.some Jvm.ClassFile.FieldType.int)) (by decide) rfl ?_
  intro p e s m args below meth c s₁ B hml hv
  obtain ⟨rfl, hz, hP, hKs, hT, hb0⟩ := hv
  have C : CX p l e s m _ meth c cX13_pass 2 RX13 (Option.some Jvm.ClassFile.FieldType.int) E := ⟨B.exec, B.bytes, hml, findClass_of_methodNamed B.named, fun w h => atoms_spec (ws := Cond.code yX13_pass cX13_pass 2 (Option.some Jvm.ClassFile.FieldType.int) :: bt) B.pre w (List.mem_cons_of_mem _ h), hKs, hT, by rw [hz]; exact hb0, B.notSynchronized, B.returns⟩
  have hH : HQ E K z w s s.heap [] := ⟨hP, va_S.rf, hz⟩
  obtain ⟨hx, hb, hml, hown, hts, hKs, hT, hb0, hlocks, hret⟩ := id C
  have hl := lv_entry [rv E (some o), .int a_1] (n := 2) (by simp [lg_len_nil, lg_len_i, lg_len_j, lg_len_q, lg_len_f, lg_len_d, lg_len_r])
  rw [lg_entry_eq]
  generalize (lg_sl [rv E (some o), .int a_1] ++ List.replicate (2 - (lg_sl [rv E (some o), .int a_1]).length) Slot.unset).toArray = ls at hl ⊢
  replace hl : lv_has ls 2 [(0, rv E (some o)), (1, .int a_1)] := by simpa only [lv_args, cat_q, cat_i, cat_j, reduceIte, Nat.reduceEqDiff, Nat.reduceAdd, Nat.zero_add] using hl
  generalize s.heap = H at hH ⊢
  unfold f_X13_pass at hf
  refine hl_aload_n hx hb dX13_pass_0 rfl (lv_at hl 0 rfl) ?_
  refine hl_aload_n hx hb dX13_pass_1 rfl (lv_at hl 0 rfl) ?_
  refine lv_iload_n hx hb dX13_pass_2 rfl (lv_at hl 1 rfl) ?_
  obtain ⟨q1, hq1, hf⟩ := bnd hf
  refine hcV_i hx hb hml hown hts hKs hT hb0 hH (As := [.int a_1]) (rest := [rv E (some o)]) (k_X13_canPass l E K H.size o a_1 w ho hq1) (gV m8_105 m8_107 ms_89 m1_16 m8_108) hd_X13_canPass ⟨Nat.le_of_ble_eq_true rfl, Nat.le_of_ble_eq_true rfl, rfl, rfl⟩ rfl ho rfl rfl rfl hl.1 rfl (rcV rc0) rfl dX13_pass_3 ⟨Nat.zero_le _, Nat.zero_le _⟩ (fun H locs hH => ?_)
  obtain ⟨q2, hq2, hf⟩ := bnd hf
  refine hcV_i hx hb hml hown hts hKs hT hb0 hH (As := [.int (b2i q1.1)]) (rest := []) (k_X13_is l E K H.size o q1.1 q1.2 ho hq2) (gV m7_68 m7_70 ms_47 m1_16 m7_71) hd_X13_is ⟨Nat.le_of_ble_eq_true rfl, Nat.le_of_ble_eq_true rfl, rfl, rfl⟩ rfl ho rfl rfl rfl hl.1 rfl rc0 rfl dX13_pass_6 ⟨Nat.zero_le _, Nat.zero_le _⟩ (fun H locs hH => ?_)
  refine lv_if_ne (tgt := 14) hx hb dX13_pass_9 (by decide) (fun c3 => ?_) (fun c3 => ?_)
  · replace hf := (if_neg c3).symm.trans hf
    refine hl_aload_n hx hb dX13_pass_14 rfl (lv_at hl 0 rfl) ?_
    obtain ⟨q4, hq4, hf⟩ := bnd hf
    refine hcV_v hx hb hml hown hts hKs hT hb0 hH (As := []) (rest := []) (k_X13_starts l E K H.size o q2.2 ho hq4) (gV m8_38 m8_40 ms_80 m1_16 m8_41) hd_X13_starts ⟨Nat.le_of_ble_eq_true rfl, Nat.le_of_ble_eq_true rfl, rfl, rfl⟩ rfl ho rfl rfl rfl hl.1 rfl rc0 rfl dX13_pass_15 ⟨Nat.zero_le _, Nat.zero_le _⟩ (fun H locs hH => ?_)
    refine hl_aload_n hx hb dX13_pass_18 rfl (lv_at hl 0 rfl) ?_
    refine hl_aload_n hx hb dX13_pass_19 rfl (lv_at hl 0 rfl) ?_
    refine lv_iload_n hx hb dX13_pass_20 rfl (lv_at hl 1 rfl) ?_
    obtain ⟨q5, hq5, hf⟩ := bnd hf
    refine hcV_i hx hb hml hown hts hKs hT hb0 hH (As := [.int a_1]) (rest := [rv E (some o)]) (k_X13_passesAll l E K H.size o a_1 q4 ho hq5) (gV m8_110 m8_112 ms_90 m1_16 m8_113) hd_X13_passesAll ⟨Nat.le_of_ble_eq_true rfl, Nat.le_of_ble_eq_true rfl, rfl, rfl⟩ rfl ho rfl rfl rfl hl.1 rfl (rcV rc0) rfl dX13_pass_21 ⟨Nat.zero_le _, Nat.zero_le _⟩ (fun H locs hH => ?_)
    obtain ⟨q6, hq6, hf⟩ := bnd hf
    refine hcV_i hx hb hml hown hts hKs hT hb0 hH (As := [.int (q5.1)]) (rest := []) (k_X13_done l E K H.size o q5.1 q5.2 ho hq6) (gV m8_50 m8_52 ms_83 m1_16 m8_53) hd_X13_done ⟨Nat.le_of_ble_eq_true rfl, Nat.le_of_ble_eq_true rfl, rfl, rfl⟩ rfl ho rfl rfl rfl hl.1 rfl rc0 rfl dX13_pass_24 ⟨Nat.zero_le _, Nat.zero_le _⟩ (fun H locs hH => ?_)
    exact hw_iret hx hb hret hf hH hlocks dX13_pass_27
  · replace hf := (if_pos c3).symm.trans hf
    refine lv_iconst (v := 0) hx hb dX13_pass_12 (by decide) ?_
    exact hw_iret hx hb hret hf hH hlocks dX13_pass_13

theorem dX13_lapsesIn_0 : decode cX13_lapsesIn 0 = .ok (.aload_n 0, 1) := by decide +kernel
theorem dX13_lapsesIn_1 : decode cX13_lapsesIn 1 = .ok (.aload_n 0, 1) := by decide +kernel
theorem dX13_lapsesIn_2 : decode cX13_lapsesIn 2 = .ok (.iload_n 1, 1) := by decide +kernel
theorem dX13_lapsesIn_3 : decode cX13_lapsesIn 3 = .ok (.invokevirtual 294, 3) := by decide +kernel
theorem dX13_lapsesIn_6 : decode cX13_lapsesIn 6 = .ok (.invokevirtual 110, 3) := by decide +kernel
theorem dX13_lapsesIn_9 : decode cX13_lapsesIn 9 = .ok (.ifCond .ne 5, 3) := by decide +kernel
theorem dX13_lapsesIn_12 : decode cX13_lapsesIn 12 = .ok (.iconst 0, 1) := by decide +kernel
theorem dX13_lapsesIn_13 : decode cX13_lapsesIn 13 = .ok (.ireturn, 1) := by decide +kernel
theorem dX13_lapsesIn_14 : decode cX13_lapsesIn 14 = .ok (.aload_n 0, 1) := by decide +kernel
theorem dX13_lapsesIn_15 : decode cX13_lapsesIn 15 = .ok (.invokevirtual 300, 3) := by decide +kernel
theorem dX13_lapsesIn_18 : decode cX13_lapsesIn 18 = .ok (.aload_n 0, 1) := by decide +kernel
theorem dX13_lapsesIn_19 : decode cX13_lapsesIn 19 = .ok (.iconst 3, 1) := by decide +kernel
theorem dX13_lapsesIn_20 : decode cX13_lapsesIn 20 = .ok (.invokevirtual 154, 3) := by decide +kernel
theorem dX13_lapsesIn_23 : decode cX13_lapsesIn 23 = .ok (.istore_n 2, 1) := by decide +kernel
theorem dX13_lapsesIn_24 : decode cX13_lapsesIn 24 = .ok (.aload_n 0, 1) := by decide +kernel
theorem dX13_lapsesIn_25 : decode cX13_lapsesIn 25 = .ok (.iload_n 1, 1) := by decide +kernel
theorem dX13_lapsesIn_26 : decode cX13_lapsesIn 26 = .ok (.invokevirtual 297, 3) := by decide +kernel
theorem dX13_lapsesIn_29 : decode cX13_lapsesIn 29 = .ok (.istore_n 3, 1) := by decide +kernel
theorem dX13_lapsesIn_30 : decode cX13_lapsesIn 30 = .ok (.aload_n 0, 1) := by decide +kernel
theorem dX13_lapsesIn_31 : decode cX13_lapsesIn 31 = .ok (.aload_n 0, 1) := by decide +kernel
theorem dX13_lapsesIn_32 : decode cX13_lapsesIn 32 = .ok (.iconst 3, 1) := by decide +kernel
theorem dX13_lapsesIn_33 : decode cX13_lapsesIn 33 = .ok (.invokevirtual 154, 3) := by decide +kernel
theorem dX13_lapsesIn_36 : decode cX13_lapsesIn 36 = .ok (.iload_n 2, 1) := by decide +kernel
theorem dX13_lapsesIn_37 : decode cX13_lapsesIn 37 = .ok (.isub, 1) := by decide +kernel
theorem dX13_lapsesIn_38 : decode cX13_lapsesIn 38 = .ok (.invokevirtual 303, 3) := by decide +kernel
theorem dX13_lapsesIn_41 : decode cX13_lapsesIn 41 = .ok (.ireturn, 1) := by decide +kernel
theorem hd_X13_lapsesIn : yX13_lapsesIn.cls = RX13 ∧ yX13_lapsesIn.cls ≠ "java/lang/invoke/MethodHandle" ∧ yX13_lapsesIn.cls ≠ "java/lang/invoke/VarHandle" ∧ (parseMethodDescriptor yX13_lapsesIn.desc).map (fun d => d.parameters.length) = some 1 := by decide +kernel
theorem hs_X13_lapsesIn : yX13_lapsesIn.cls ≠ "java/lang/invoke/MethodHandle" ∧ yX13_lapsesIn.cls ≠ "java/lang/invoke/VarHandle" ∧ (parseMethodDescriptor yX13_lapsesIn.desc).map (fun d => d.parameters.length) = some 1 := by decide +kernel
set_option maxHeartbeats 4000000 in
set_option maxRecDepth 100000 in
theorem k_X13_lapsesIn (l : Launch) (E : Ev) (K : Kd) (z : Nat) (o : Nat) (a_1 : Int32) (w : Wd) (ho : K o = some (11, 0)) {r : Int32} {w' : Wd} (hf : f_X13_lapsesIn K o a_1 w = some (r, w')) : Met l yX13_lapsesIn (Cond.code yX13_lapsesIn cX13_lapsesIn 4 (Option.some Jvm.ClassFile.FieldType.int) :: bt) ({ frames := 5, cells := 0, slots := 0, locals := 112 } : Room) (va_Pc [rv E (some o), .int a_1] (HB E K w z)) (QI E K z w' r) 0 0 (hA E) := by
  refine Met.ofW (cc := cX13_lapsesIn) (maxL := 4) (ret := (Option.some Jvm.ClassFile.FieldType.int)) (by decide) rfl ?_
  intro p e s m args below meth c s₁ B hml hv
  obtain ⟨rfl, hz, hP, hKs, hT, hb0⟩ := hv
  have C : CX p l e s m _ meth c cX13_lapsesIn 4 RX13 (Option.some Jvm.ClassFile.FieldType.int) E := ⟨B.exec, B.bytes, hml, findClass_of_methodNamed B.named, fun w h => atoms_spec (ws := Cond.code yX13_lapsesIn cX13_lapsesIn 4 (Option.some Jvm.ClassFile.FieldType.int) :: bt) B.pre w (List.mem_cons_of_mem _ h), hKs, hT, by rw [hz]; exact hb0, B.notSynchronized, B.returns⟩
  have hH : HQ E K z w s s.heap [] := ⟨hP, va_S.rf, hz⟩
  obtain ⟨hx, hb, hml, hown, hts, hKs, hT, hb0, hlocks, hret⟩ := id C
  have hl := lv_entry [rv E (some o), .int a_1] (n := 4) (by simp [lg_len_nil, lg_len_i, lg_len_j, lg_len_q, lg_len_f, lg_len_d, lg_len_r])
  rw [lg_entry_eq]
  generalize (lg_sl [rv E (some o), .int a_1] ++ List.replicate (4 - (lg_sl [rv E (some o), .int a_1]).length) Slot.unset).toArray = ls at hl ⊢
  replace hl : lv_has ls 4 [(0, rv E (some o)), (1, .int a_1)] := by simpa only [lv_args, cat_q, cat_i, cat_j, reduceIte, Nat.reduceEqDiff, Nat.reduceAdd, Nat.zero_add] using hl
  generalize s.heap = H at hH ⊢
  unfold f_X13_lapsesIn at hf
  refine hl_aload_n hx hb dX13_lapsesIn_0 rfl (lv_at hl 0 rfl) ?_
  refine hl_aload_n hx hb dX13_lapsesIn_1 rfl (lv_at hl 0 rfl) ?_
  refine lv_iload_n hx hb dX13_lapsesIn_2 rfl (lv_at hl 1 rfl) ?_
  obtain ⟨q1, hq1, hf⟩ := bnd hf
  refine hcV_i hx hb hml hown hts hKs hT hb0 hH (As := [.int a_1]) (rest := [rv E (some o)]) (k_X13_canPass l E K H.size o a_1 w ho hq1) (gV m8_105 m8_107 ms_89 m1_16 m8_108) hd_X13_canPass ⟨Nat.le_of_ble_eq_true rfl, Nat.le_of_ble_eq_true rfl, rfl, rfl⟩ rfl ho rfl rfl rfl hl.1 rfl (rcV rc0) rfl dX13_lapsesIn_3 ⟨Nat.zero_le _, Nat.zero_le _⟩ (fun H locs hH => ?_)
  obtain ⟨q2, hq2, hf⟩ := bnd hf
  refine hcV_i hx hb hml hown hts hKs hT hb0 hH (As := [.int (b2i q1.1)]) (rest := []) (k_X13_is l E K H.size o q1.1 q1.2 ho hq2) (gV m7_68 m7_70 ms_47 m1_16 m7_71) hd_X13_is ⟨Nat.le_of_ble_eq_true rfl, Nat.le_of_ble_eq_true rfl, rfl, rfl⟩ rfl ho rfl rfl rfl hl.1 rfl rc0 rfl dX13_lapsesIn_6 ⟨Nat.zero_le _, Nat.zero_le _⟩ (fun H locs hH => ?_)
  refine lv_if_ne (tgt := 14) hx hb dX13_lapsesIn_9 (by decide) (fun c3 => ?_) (fun c3 => ?_)
  · replace hf := (if_neg c3).symm.trans hf
    refine hl_aload_n hx hb dX13_lapsesIn_14 rfl (lv_at hl 0 rfl) ?_
    obtain ⟨q4, hq4, hf⟩ := bnd hf
    refine hcV_v hx hb hml hown hts hKs hT hb0 hH (As := []) (rest := []) (k_X13_tries l E K H.size o q2.2 ho hq4) (gV m8_122 m8_124 ms_92 m1_16 m8_125) hd_X13_tries ⟨Nat.le_of_ble_eq_true rfl, Nat.le_of_ble_eq_true rfl, rfl, rfl⟩ rfl ho rfl rfl rfl hl.1 rfl rc0 rfl dX13_lapsesIn_15 ⟨Nat.zero_le _, Nat.zero_le _⟩ (fun H locs hH => ?_)
    refine hl_aload_n hx hb dX13_lapsesIn_18 rfl (lv_at hl 0 rfl) ?_
    refine lv_iconst (v := 3) hx hb dX13_lapsesIn_19 (by decide) ?_
    obtain ⟨q5, hq5, hf⟩ := bnd hf
    refine hcV_i hx hb hml hown hts hKs hT hb0 hH (As := [.int 3]) (rest := []) (k_X13_manyIn l E K H.size o 3 q4 ho hq5) (gV m7_138 m7_140 ms_56 m1_16 m7_141) hd_X13_manyIn ⟨Nat.le_of_ble_eq_true rfl, Nat.le_of_ble_eq_true rfl, rfl, rfl⟩ rfl ho rfl rfl rfl hl.1 rfl rc0 rfl dX13_lapsesIn_20 ⟨Nat.zero_le _, Nat.zero_le _⟩ (fun H locs hH => ?_)
    refine lv_istore_n (i := 2) (lv' := [(2, .int (q5.1)), (0, rv E (some o)), (1, .int a_1)]) hx hb dX13_lapsesIn_23 rfl hl (by decide) rfl (fun ls hl => ?_)
    refine hl_aload_n hx hb dX13_lapsesIn_24 rfl (lv_at hl 1 rfl) ?_
    refine lv_iload_n hx hb dX13_lapsesIn_25 rfl (lv_at hl 2 rfl) ?_
    obtain ⟨q6, hq6, hf⟩ := bnd hf
    refine hcV_i hx hb hml hown hts hKs hT hb0 hH (As := [.int a_1]) (rest := []) (k_X13_passesAll l E K H.size o a_1 q5.2 ho hq6) (gV m8_110 m8_112 ms_90 m1_16 m8_113) hd_X13_passesAll ⟨Nat.le_of_ble_eq_true rfl, Nat.le_of_ble_eq_true rfl, rfl, rfl⟩ rfl ho rfl rfl rfl hl.1 rfl rc0 rfl dX13_lapsesIn_26 ⟨Nat.zero_le _, Nat.zero_le _⟩ (fun H locs hH => ?_)
    refine lv_istore_n (i := 3) (lv' := [(3, .int (q6.1)), (2, .int (q5.1)), (0, rv E (some o)), (1, .int a_1)]) hx hb dX13_lapsesIn_29 rfl hl (by decide) rfl (fun ls hl => ?_)
    refine hl_aload_n hx hb dX13_lapsesIn_30 rfl (lv_at hl 2 rfl) ?_
    refine hl_aload_n hx hb dX13_lapsesIn_31 rfl (lv_at hl 2 rfl) ?_
    refine lv_iconst (v := 3) hx hb dX13_lapsesIn_32 (by decide) ?_
    obtain ⟨q7, hq7, hf⟩ := bnd hf
    refine hcV_i hx hb hml hown hts hKs hT hb0 hH (As := [.int 3]) (rest := [rv E (some o)]) (k_X13_manyIn l E K H.size o 3 q6.2 ho hq7) (gV m7_138 m7_140 ms_56 m1_16 m7_141) hd_X13_manyIn ⟨Nat.le_of_ble_eq_true rfl, Nat.le_of_ble_eq_true rfl, rfl, rfl⟩ rfl ho rfl rfl rfl hl.1 rfl (rcV rc0) rfl dX13_lapsesIn_33 ⟨Nat.zero_le _, Nat.zero_le _⟩ (fun H locs hH => ?_)
    refine lv_iload_n hx hb dX13_lapsesIn_36 rfl (lv_at hl 1 rfl) ?_
    refine lv_isub hx hb dX13_lapsesIn_37 ?_
    obtain ⟨q8, hq8, hf⟩ := bnd hf
    refine hcV_i hx hb hml hown hts hKs hT hb0 hH (As := [.int ((q7.1 - q5.1))]) (rest := []) (k_X13_laysBack l E K H.size o (q7.1 - q5.1) q7.2 ho hq8) (gV m8_126 m8_128 ms_93 m1_16 m8_129) hd_X13_laysBack ⟨Nat.le_of_ble_eq_true rfl, Nat.le_of_ble_eq_true rfl, rfl, rfl⟩ rfl ho rfl rfl rfl hl.1 rfl rc0 rfl dX13_lapsesIn_38 ⟨Nat.zero_le _, Nat.zero_le _⟩ (fun H locs hH => ?_)
    exact hw_iret hx hb hret hf hH hlocks dX13_lapsesIn_41
  · replace hf := (if_pos c3).symm.trans hf
    refine lv_iconst (v := 0) hx hb dX13_lapsesIn_12 (by decide) ?_
    exact hw_iret hx hb hret hf hH hlocks dX13_lapsesIn_13

theorem dX13_plannableNow_0 : decode cX13_plannableNow 0 = .ok (.aload_n 0, 1) := by decide +kernel
theorem dX13_plannableNow_1 : decode cX13_plannableNow 1 = .ok (.invokevirtual 300, 3) := by decide +kernel
theorem dX13_plannableNow_4 : decode cX13_plannableNow 4 = .ok (.aload_n 0, 1) := by decide +kernel
theorem dX13_plannableNow_5 : decode cX13_plannableNow 5 = .ok (.aload_n 0, 1) := by decide +kernel
theorem dX13_plannableNow_6 : decode cX13_plannableNow 6 = .ok (.invokevirtual 275, 3) := by decide +kernel
theorem dX13_plannableNow_9 : decode cX13_plannableNow 9 = .ok (.invokevirtual 303, 3) := by decide +kernel
theorem dX13_plannableNow_12 : decode cX13_plannableNow 12 = .ok (.ireturn, 1) := by decide +kernel
theorem hd_X13_plannableNow : yX13_plannableNow.cls = RX13 ∧ yX13_plannableNow.cls ≠ "java/lang/invoke/MethodHandle" ∧ yX13_plannableNow.cls ≠ "java/lang/invoke/VarHandle" ∧ (parseMethodDescriptor yX13_plannableNow.desc).map (fun d => d.parameters.length) = some 0 := by decide +kernel
theorem hs_X13_plannableNow : yX13_plannableNow.cls ≠ "java/lang/invoke/MethodHandle" ∧ yX13_plannableNow.cls ≠ "java/lang/invoke/VarHandle" ∧ (parseMethodDescriptor yX13_plannableNow.desc).map (fun d => d.parameters.length) = some 0 := by decide +kernel
set_option maxHeartbeats 4000000 in
set_option maxRecDepth 100000 in
theorem k_X13_plannableNow (l : Launch) (E : Ev) (K : Kd) (z : Nat) (o : Nat) (w : Wd) (ho : K o = some (11, 0)) {r : Int32} {w' : Wd} (hf : f_X13_plannableNow K o w = some (r, w')) : Met l yX13_plannableNow (Cond.code yX13_plannableNow cX13_plannableNow 1 (Option.some Jvm.ClassFile.FieldType.int) :: bt) ({ frames := 11, cells := 0, slots := 0, locals := 258 } : Room) (va_Pc [rv E (some o)] (HB E K w z)) (QI E K z w' r) 0 0 (hA E) := by
  refine Met.ofW (cc := cX13_plannableNow) (maxL := 1) (ret := (Option.some Jvm.ClassFile.FieldType.int)) (by decide) rfl ?_
  intro p e s m args below meth c s₁ B hml hv
  obtain ⟨rfl, hz, hP, hKs, hT, hb0⟩ := hv
  have C : CX p l e s m _ meth c cX13_plannableNow 1 RX13 (Option.some Jvm.ClassFile.FieldType.int) E := ⟨B.exec, B.bytes, hml, findClass_of_methodNamed B.named, fun w h => atoms_spec (ws := Cond.code yX13_plannableNow cX13_plannableNow 1 (Option.some Jvm.ClassFile.FieldType.int) :: bt) B.pre w (List.mem_cons_of_mem _ h), hKs, hT, by rw [hz]; exact hb0, B.notSynchronized, B.returns⟩
  have hH : HQ E K z w s s.heap [] := ⟨hP, va_S.rf, hz⟩
  obtain ⟨hx, hb, hml, hown, hts, hKs, hT, hb0, hlocks, hret⟩ := id C
  have hl := lv_entry [rv E (some o)] (n := 1) (by simp [lg_len_nil, lg_len_i, lg_len_j, lg_len_q, lg_len_f, lg_len_d, lg_len_r])
  rw [lg_entry_eq]
  generalize (lg_sl [rv E (some o)] ++ List.replicate (1 - (lg_sl [rv E (some o)]).length) Slot.unset).toArray = ls at hl ⊢
  replace hl : lv_has ls 1 [(0, rv E (some o))] := by simpa only [lv_args, cat_q, cat_i, cat_j, reduceIte, Nat.reduceEqDiff, Nat.reduceAdd, Nat.zero_add] using hl
  generalize s.heap = H at hH ⊢
  unfold f_X13_plannableNow at hf
  refine hl_aload_n hx hb dX13_plannableNow_0 rfl (lv_at hl 0 rfl) ?_
  obtain ⟨q1, hq1, hf⟩ := bnd hf
  refine hcV_v hx hb hml hown hts hKs hT hb0 hH (As := []) (rest := []) (k_X13_tries l E K H.size o w ho hq1) (gV m8_122 m8_124 ms_92 m1_16 m8_125) hd_X13_tries ⟨Nat.le_of_ble_eq_true rfl, Nat.le_of_ble_eq_true rfl, rfl, rfl⟩ rfl ho rfl rfl rfl hl.1 rfl rc0 rfl dX13_plannableNow_1 ⟨Nat.zero_le _, Nat.zero_le _⟩ (fun H locs hH => ?_)
  refine hl_aload_n hx hb dX13_plannableNow_4 rfl (lv_at hl 0 rfl) ?_
  refine hl_aload_n hx hb dX13_plannableNow_5 rfl (lv_at hl 0 rfl) ?_
  obtain ⟨q2, hq2, hf⟩ := bnd hf
  refine hcV_i hx hb hml hown hts hKs hT hb0 hH (As := []) (rest := [rv E (some o)]) (k_X13_plansAll l E K H.size o q1 ho hq2) (gV m8_66 m8_68 ms_85 m1_16 m8_69) hd_X13_plansAll ⟨Nat.le_of_ble_eq_true rfl, Nat.le_of_ble_eq_true rfl, rfl, rfl⟩ rfl ho rfl rfl rfl hl.1 rfl (rcV rc0) rfl dX13_plannableNow_6 ⟨Nat.zero_le _, Nat.zero_le _⟩ (fun H locs hH => ?_)
  obtain ⟨q3, hq3, hf⟩ := bnd hf
  refine hcV_i hx hb hml hown hts hKs hT hb0 hH (As := [.int (q2.1)]) (rest := []) (k_X13_laysBack l E K H.size o q2.1 q2.2 ho hq3) (gV m8_126 m8_128 ms_93 m1_16 m8_129) hd_X13_laysBack ⟨Nat.le_of_ble_eq_true rfl, Nat.le_of_ble_eq_true rfl, rfl, rfl⟩ rfl ho rfl rfl rfl hl.1 rfl rc0 rfl dX13_plannableNow_9 ⟨Nat.zero_le _, Nat.zero_le _⟩ (fun H locs hH => ?_)
  exact hw_iret hx hb hret hf hH hlocks dX13_plannableNow_12

theorem dX13_plannable_0 : decode cX13_plannable 0 = .ok (.aload_n 0, 1) := by decide +kernel
theorem dX13_plannable_1 : decode cX13_plannable 1 = .ok (.iconst 0, 1) := by decide +kernel
theorem dX13_plannable_2 : decode cX13_plannable 2 = .ok (.putfield 104, 3) := by decide +kernel
theorem dX13_plannable_5 : decode cX13_plannable 5 = .ok (.aload_n 0, 1) := by decide +kernel
theorem dX13_plannable_6 : decode cX13_plannable 6 = .ok (.invokevirtual 306, 3) := by decide +kernel
theorem dX13_plannable_9 : decode cX13_plannable 9 = .ok (.ireturn, 1) := by decide +kernel
theorem hd_X13_plannable : yX13_plannable.cls = RX13 ∧ yX13_plannable.cls ≠ "java/lang/invoke/MethodHandle" ∧ yX13_plannable.cls ≠ "java/lang/invoke/VarHandle" ∧ (parseMethodDescriptor yX13_plannable.desc).map (fun d => d.parameters.length) = some 0 := by decide +kernel
theorem hs_X13_plannable : yX13_plannable.cls ≠ "java/lang/invoke/MethodHandle" ∧ yX13_plannable.cls ≠ "java/lang/invoke/VarHandle" ∧ (parseMethodDescriptor yX13_plannable.desc).map (fun d => d.parameters.length) = some 0 := by decide +kernel
set_option maxHeartbeats 4000000 in
set_option maxRecDepth 100000 in
theorem k_X13_plannable (l : Launch) (E : Ev) (K : Kd) (z : Nat) (o : Nat) (w : Wd) (ho : K o = some (11, 0)) {r : Int32} {w' : Wd} (hf : f_X13_plannable K o w = some (r, w')) : Met l yX13_plannable (Cond.code yX13_plannable cX13_plannable 1 (Option.some Jvm.ClassFile.FieldType.int) :: bt) ({ frames := 12, cells := 0, slots := 0, locals := 278 } : Room) (va_Pc [rv E (some o)] (HB E K w z)) (QI E K z w' r) 0 0 (hA E) := by
  refine Met.ofW (cc := cX13_plannable) (maxL := 1) (ret := (Option.some Jvm.ClassFile.FieldType.int)) (by decide) rfl ?_
  intro p e s m args below meth c s₁ B hml hv
  obtain ⟨rfl, hz, hP, hKs, hT, hb0⟩ := hv
  have C : CX p l e s m _ meth c cX13_plannable 1 RX13 (Option.some Jvm.ClassFile.FieldType.int) E := ⟨B.exec, B.bytes, hml, findClass_of_methodNamed B.named, fun w h => atoms_spec (ws := Cond.code yX13_plannable cX13_plannable 1 (Option.some Jvm.ClassFile.FieldType.int) :: bt) B.pre w (List.mem_cons_of_mem _ h), hKs, hT, by rw [hz]; exact hb0, B.notSynchronized, B.returns⟩
  have hH : HQ E K z w s s.heap [] := ⟨hP, va_S.rf, hz⟩
  obtain ⟨hx, hb, hml, hown, hts, hKs, hT, hb0, hlocks, hret⟩ := id C
  have hl := lv_entry [rv E (some o)] (n := 1) (by simp [lg_len_nil, lg_len_i, lg_len_j, lg_len_q, lg_len_f, lg_len_d, lg_len_r])
  rw [lg_entry_eq]
  generalize (lg_sl [rv E (some o)] ++ List.replicate (1 - (lg_sl [rv E (some o)]).length) Slot.unset).toArray = ls at hl ⊢
  replace hl : lv_has ls 1 [(0, rv E (some o))] := by simpa only [lv_args, cat_q, cat_i, cat_j, reduceIte, Nat.reduceEqDiff, Nat.reduceAdd, Nat.zero_add] using hl
  generalize s.heap = H at hH ⊢
  unfold f_X13_plannable at hf
  refine hl_aload_n hx hb dX13_plannable_0 rfl (lv_at hl 0 rfl) ?_
  refine lv_iconst (v := 0) hx hb dX13_plannable_1 (by decide) ?_
  obtain ⟨w1, hw1, hf⟩ := bnd hf
  replace hw1 := Option.some.inj hw1
  refine p13_0 (v := 0) hx hb hts hown hKs hH rfl ho m6_181 dX13_plannable_2 (fun H locs hH => ?_)
  rw [hw1] at hH
  refine hl_aload_n hx hb dX13_plannable_5 rfl (lv_at hl 0 rfl) ?_
  obtain ⟨q2, hq2, hf⟩ := bnd hf
  refine hcV_i hx hb hml hown hts hKs hT hb0 hH (As := []) (rest := []) (k_X13_plannableNow l E K H.size o w1 ho hq2) (gV m8_134 m8_136 ms_94 m1_16 m8_137) hd_X13_plannableNow ⟨Nat.le_of_ble_eq_true rfl, Nat.le_of_ble_eq_true rfl, rfl, rfl⟩ rfl ho rfl rfl rfl hl.1 rfl rc0 rfl dX13_plannable_6 ⟨Nat.zero_le _, Nat.zero_le _⟩ (fun H locs hH => ?_)
  exact hw_iret hx hb hret hf hH hlocks dX13_plannable_9

theorem dX13_keyOfficer_0 : decode cX13_keyOfficer 0 = .ok (.aload_n 0, 1) := by decide +kernel
theorem dX13_keyOfficer_1 : decode cX13_keyOfficer 1 = .ok (.iconst 0, 1) := by decide +kernel
theorem dX13_keyOfficer_2 : decode cX13_keyOfficer 2 = .ok (.putfield 104, 3) := by decide +kernel
theorem dX13_keyOfficer_5 : decode cX13_keyOfficer 5 = .ok (.iconst (-1), 1) := by decide +kernel
theorem dX13_keyOfficer_6 : decode cX13_keyOfficer 6 = .ok (.istore_n 1, 1) := by decide +kernel
theorem dX13_keyOfficer_7 : decode cX13_keyOfficer 7 = .ok (.aload_n 0, 1) := by decide +kernel
theorem dX13_keyOfficer_8 : decode cX13_keyOfficer 8 = .ok (.invokevirtual 306, 3) := by decide +kernel
theorem dX13_keyOfficer_11 : decode cX13_keyOfficer 11 = .ok (.istore_n 2, 1) := by decide +kernel
theorem dX13_keyOfficer_12 : decode cX13_keyOfficer 12 = .ok (.iconst 0, 1) := by decide +kernel
theorem dX13_keyOfficer_13 : decode cX13_keyOfficer 13 = .ok (.istore_n 3, 1) := by decide +kernel
theorem dX13_keyOfficer_14 : decode cX13_keyOfficer 14 = .ok (.iload_n 3, 1) := by decide +kernel
theorem dX13_keyOfficer_15 : decode cX13_keyOfficer 15 = .ok (.aload_n 0, 1) := by decide +kernel
theorem dX13_keyOfficer_16 : decode cX13_keyOfficer 16 = .ok (.getfield 7, 3) := by decide +kernel
theorem dX13_keyOfficer_19 : decode cX13_keyOfficer 19 = .ok (.iconst 1, 1) := by decide +kernel
theorem dX13_keyOfficer_20 : decode cX13_keyOfficer 20 = .ok (.iaload, 1) := by decide +kernel
theorem dX13_keyOfficer_21 : decode cX13_keyOfficer 21 = .ok (.if_icmp .ge 39, 3) := by decide +kernel
theorem dX13_keyOfficer_24 : decode cX13_keyOfficer 24 = .ok (.aload_n 0, 1) := by decide +kernel
theorem dX13_keyOfficer_25 : decode cX13_keyOfficer 25 = .ok (.iload_n 3, 1) := by decide +kernel
theorem dX13_keyOfficer_26 : decode cX13_keyOfficer 26 = .ok (.putfield 47, 3) := by decide +kernel
theorem dX13_keyOfficer_29 : decode cX13_keyOfficer 29 = .ok (.aload_n 0, 1) := by decide +kernel
theorem dX13_keyOfficer_30 : decode cX13_keyOfficer 30 = .ok (.invokevirtual 306, 3) := by decide +kernel
theorem dX13_keyOfficer_33 : decode cX13_keyOfficer 33 = .ok (.istore 4, 2) := by decide +kernel
theorem dX13_keyOfficer_35 : decode cX13_keyOfficer 35 = .ok (.aload_n 0, 1) := by decide +kernel
theorem dX13_keyOfficer_36 : decode cX13_keyOfficer 36 = .ok (.iconst (-1), 1) := by decide +kernel
theorem dX13_keyOfficer_37 : decode cX13_keyOfficer 37 = .ok (.putfield 47, 3) := by decide +kernel
theorem dX13_keyOfficer_40 : decode cX13_keyOfficer 40 = .ok (.iload 4, 2) := by decide +kernel
theorem dX13_keyOfficer_42 : decode cX13_keyOfficer 42 = .ok (.iload_n 2, 1) := by decide +kernel
theorem dX13_keyOfficer_43 : decode cX13_keyOfficer 43 = .ok (.if_icmp .lt 6, 3) := by decide +kernel
theorem dX13_keyOfficer_46 : decode cX13_keyOfficer 46 = .ok (.goto 8, 3) := by decide +kernel
theorem dX13_keyOfficer_49 : decode cX13_keyOfficer 49 = .ok (.iload_n 3, 1) := by decide +kernel
theorem dX13_keyOfficer_50 : decode cX13_keyOfficer 50 = .ok (.istore_n 1, 1) := by decide +kernel
theorem dX13_keyOfficer_51 : decode cX13_keyOfficer 51 = .ok (.iload 4, 2) := by decide +kernel
theorem dX13_keyOfficer_53 : decode cX13_keyOfficer 53 = .ok (.istore_n 2, 1) := by decide +kernel
theorem dX13_keyOfficer_54 : decode cX13_keyOfficer 54 = .ok (.iinc 3 1, 3) := by decide +kernel
theorem dX13_keyOfficer_57 : decode cX13_keyOfficer 57 = .ok (.goto (-43), 3) := by decide +kernel
theorem dX13_keyOfficer_60 : decode cX13_keyOfficer 60 = .ok (.iload_n 1, 1) := by decide +kernel
theorem dX13_keyOfficer_61 : decode cX13_keyOfficer 61 = .ok (.ireturn, 1) := by decide +kernel
theorem hd_X13_keyOfficer : yX13_keyOfficer.cls = RX13 ∧ yX13_keyOfficer.cls ≠ "java/lang/invoke/MethodHandle" ∧ yX13_keyOfficer.cls ≠ "java/lang/invoke/VarHandle" ∧ (parseMethodDescriptor yX13_keyOfficer.desc).map (fun d => d.parameters.length) = some 0 := by decide +kernel
theorem hs_X13_keyOfficer : yX13_keyOfficer.cls ≠ "java/lang/invoke/MethodHandle" ∧ yX13_keyOfficer.cls ≠ "java/lang/invoke/VarHandle" ∧ (parseMethodDescriptor yX13_keyOfficer.desc).map (fun d => d.parameters.length) = some 0 := by decide +kernel
set_option maxHeartbeats 4000000 in
set_option maxRecDepth 100000 in
theorem l_X13_keyOfficer_L14 (C : CX p l e s m args meth c cX13_keyOfficer 5 RX13 (Option.some Jvm.ClassFile.FieldType.int) E) {o : Nat} (ho : K o = some (11, 0)) {r : Int32} {w' : Wd} (k : Int32 → Int32 → Int32 → Wd → Option (Int32 × Wd)) (hk : ∀ (v1_14 : Int32) (v2_14 : Int32) (v3_14 : Int32) (w : Wd) (H : Heap) (locs : List Loc) (ls : Array Slot), HQ E K z w s H locs → lv_has ls 5 [(1, .int v1_14), (2, .int v2_14), (3, .int v3_14), (0, rv E (some o))] → k v1_14 v2_14 v3_14 w = some (r, w') → W p l e ({ frames := 12, cells := 0, slots := 0, locals := 278 } : Room) s m args below meth c H locs 0 0 (MQ below (QI E K z w' r) args s 0 0 (hA E)) (F0 m 60 ls [])) : ∀ (n : Nat) (v1_14 : Int32) (v2_14 : Int32) (v3_14 : Int32) (w : Wd) (H : Heap) (locs : List Loc) (ls : Array Slot), HQ E K z w s H locs → lv_has ls 5 [(1, .int v1_14), (2, .int v2_14), (3, .int v3_14), (0, rv E (some o))] → f_X13_keyOfficer_L14 K o k n v1_14 v2_14 v3_14 w = some (r, w') → W p l e ({ frames := 12, cells := 0, slots := 0, locals := 278 } : Room) s m args below meth c H locs 0 0 (MQ below (QI E K z w' r) args s 0 0 (hA E)) (F0 m 14 ls []) := by
  obtain ⟨hx, hb, hml, hown, hts, hKs, hT, hb0, hlocks, hret⟩ := id C
  intro n
  induction n with
  | zero =>
    intro v1_14 v2_14 v3_14 w H locs ls hH hl hf
    cases hf
  | succ n ih =>
    intro v1_14 v2_14 v3_14 w H locs ls hH hl hf
    rw [f_X13_keyOfficer_L14] at hf
    refine lv_iload_n hx hb dX13_keyOfficer_14 rfl (lv_at hl 2 rfl) ?_
    refine hl_aload_n hx hb dX13_keyOfficer_15 rfl (lv_at hl 3 rfl) ?_
    refine g13_1 hx hb hts hown hKs hH rfl ho m6_182 dX13_keyOfficer_16 ?_
    refine lv_iconst (v := 1) hx hb dX13_keyOfficer_19 (by decide) ?_
    obtain ⟨a4, ha4, hf⟩ := bnd hf
    replace ha4 := cha_some ha4
    obtain ⟨j5, hj5, hf⟩ := bnd hf
    refine hw_iald hx hb hKs hH ha4.1 ha4.2 hj5 dX13_keyOfficer_20 ?_
    refine lv_icmp_ge (tgt := 60) hx hb dX13_keyOfficer_21 (by decide) (fun c6 => ?_) (fun c6 => ?_)
    · replace hf := (if_pos c6).symm.trans hf
      exact hk v1_14 v2_14 v3_14 _ _ _ _ hH (lv_sub hl [0, 1, 2, 3] rfl) hf
    · replace hf := (if_neg c6).symm.trans hf
      refine hl_aload_n hx hb dX13_keyOfficer_24 rfl (lv_at hl 3 rfl) ?_
      refine lv_iload_n hx hb dX13_keyOfficer_25 rfl (lv_at hl 2 rfl) ?_
      obtain ⟨w7, hw7, hf⟩ := bnd hf
      replace hw7 := Option.some.inj hw7
      refine p13_15 (v := v3_14) hx hb hts hown hKs hH rfl ho m6_196 dX13_keyOfficer_26 (fun H locs hH => ?_)
      rw [hw7] at hH
      refine hl_aload_n hx hb dX13_keyOfficer_29 rfl (lv_at hl 3 rfl) ?_
      obtain ⟨q8, hq8, hf⟩ := bnd hf
      refine hcV_i hx hb hml hown hts hKs hT hb0 hH (As := []) (rest := []) (k_X13_plannableNow l E K H.size o w7 ho hq8) (gV m8_134 m8_136 ms_94 m1_16 m8_137) hd_X13_plannableNow ⟨Nat.le_of_ble_eq_true rfl, Nat.le_of_ble_eq_true rfl, rfl, rfl⟩ rfl ho rfl rfl rfl hl.1 rfl rc0 rfl dX13_keyOfficer_30 ⟨Nat.zero_le _, Nat.zero_le _⟩ (fun H locs hH => ?_)
      refine lv_istore (i := 4) (lv' := [(4, .int (q8.1)), (1, .int v1_14), (2, .int v2_14), (3, .int v3_14), (0, rv E (some o))]) hx hb dX13_keyOfficer_33 hl (by decide) rfl (fun ls hl => ?_)
      refine hl_aload_n hx hb dX13_keyOfficer_35 rfl (lv_at hl 4 rfl) ?_
      refine lv_iconst (v := (-1)) hx hb dX13_keyOfficer_36 (by decide) ?_
      obtain ⟨w9, hw9, hf⟩ := bnd hf
      replace hw9 := Option.some.inj hw9
      refine p13_15 (v := (-1)) hx hb hts hown hKs hH rfl ho m6_196 dX13_keyOfficer_37 (fun H locs hH => ?_)
      rw [hw9] at hH
      refine lv_iload hx hb dX13_keyOfficer_40 (lv_at hl 0 rfl) ?_
      refine lv_iload_n hx hb dX13_keyOfficer_42 rfl (lv_at hl 2 rfl) ?_
      refine lv_icmp_lt (tgt := 49) hx hb dX13_keyOfficer_43 (by decide) (fun c10 => ?_) (fun c10 => ?_)
      · replace hf := (if_pos c10).symm.trans hf
        refine lv_iload_n hx hb dX13_keyOfficer_49 rfl (lv_at hl 3 rfl) ?_
        refine lv_istore_n (i := 1) (lv' := [(1, .int v3_14), (4, .int (q8.1)), (2, .int v2_14), (3, .int v3_14), (0, rv E (some o))]) hx hb dX13_keyOfficer_50 rfl hl (by decide) rfl (fun ls hl => ?_)
        refine lv_iload hx hb dX13_keyOfficer_51 (lv_at hl 1 rfl) ?_
        refine lv_istore_n (i := 2) (lv' := [(2, .int (q8.1)), (1, .int v3_14), (4, .int (q8.1)), (3, .int v3_14), (0, rv E (some o))]) hx hb dX13_keyOfficer_53 rfl hl (by decide) rfl (fun ls hl => ?_)
        refine lv_iinc (v := (v3_14 + 1)) (lv' := [(3, .int ((v3_14 + 1))), (2, .int (q8.1)), (1, .int v3_14), (4, .int (q8.1)), (0, rv E (some o))]) hx hb dX13_keyOfficer_54 hl (k := 3) rfl rfl (by decide) rfl (fun ls hl => ?_)
        refine lv_goto (tgt := 14) hx hb dX13_keyOfficer_57 (by decide) ?_
        exact ih v3_14 q8.1 (v3_14 + 1) _ _ _ _ hH (lv_sub hl [2, 1, 0, 4] rfl) hf
      · replace hf := (if_neg c10).symm.trans hf
        refine lv_goto (tgt := 54) hx hb dX13_keyOfficer_46 (by decide) ?_
        refine lv_iinc (v := (v3_14 + 1)) (lv' := [(3, .int ((v3_14 + 1))), (4, .int (q8.1)), (1, .int v1_14), (2, .int v2_14), (0, rv E (some o))]) hx hb dX13_keyOfficer_54 hl (k := 3) rfl rfl (by decide) rfl (fun ls hl => ?_)
        refine lv_goto (tgt := 14) hx hb dX13_keyOfficer_57 (by decide) ?_
        exact ih v1_14 v2_14 (v3_14 + 1) _ _ _ _ hH (lv_sub hl [2, 3, 0, 4] rfl) hf
set_option maxHeartbeats 4000000 in
set_option maxRecDepth 100000 in
theorem k_X13_keyOfficer (l : Launch) (E : Ev) (K : Kd) (z : Nat) (o : Nat) (w : Wd) (ho : K o = some (11, 0)) {r : Int32} {w' : Wd} (hf : f_X13_keyOfficer K o w = some (r, w')) : Met l yX13_keyOfficer (Cond.code yX13_keyOfficer cX13_keyOfficer 5 (Option.some Jvm.ClassFile.FieldType.int) :: bt) ({ frames := 12, cells := 0, slots := 0, locals := 278 } : Room) (va_Pc [rv E (some o)] (HB E K w z)) (QI E K z w' r) 0 0 (hA E) := by
  refine Met.ofW (cc := cX13_keyOfficer) (maxL := 5) (ret := (Option.some Jvm.ClassFile.FieldType.int)) (by decide) rfl ?_
  intro p e s m args below meth c s₁ B hml hv
  obtain ⟨rfl, hz, hP, hKs, hT, hb0⟩ := hv
  have C : CX p l e s m _ meth c cX13_keyOfficer 5 RX13 (Option.some Jvm.ClassFile.FieldType.int) E := ⟨B.exec, B.bytes, hml, findClass_of_methodNamed B.named, fun w h => atoms_spec (ws := Cond.code yX13_keyOfficer cX13_keyOfficer 5 (Option.some Jvm.ClassFile.FieldType.int) :: bt) B.pre w (List.mem_cons_of_mem _ h), hKs, hT, by rw [hz]; exact hb0, B.notSynchronized, B.returns⟩
  have hH : HQ E K z w s s.heap [] := ⟨hP, va_S.rf, hz⟩
  obtain ⟨hx, hb, hml, hown, hts, hKs, hT, hb0, hlocks, hret⟩ := id C
  have hl := lv_entry [rv E (some o)] (n := 5) (by simp [lg_len_nil, lg_len_i, lg_len_j, lg_len_q, lg_len_f, lg_len_d, lg_len_r])
  rw [lg_entry_eq]
  generalize (lg_sl [rv E (some o)] ++ List.replicate (5 - (lg_sl [rv E (some o)]).length) Slot.unset).toArray = ls at hl ⊢
  replace hl : lv_has ls 5 [(0, rv E (some o))] := by simpa only [lv_args, cat_q, cat_i, cat_j, reduceIte, Nat.reduceEqDiff, Nat.reduceAdd, Nat.zero_add] using hl
  generalize s.heap = H at hH ⊢
  unfold f_X13_keyOfficer at hf
  refine hl_aload_n hx hb dX13_keyOfficer_0 rfl (lv_at hl 0 rfl) ?_
  refine lv_iconst (v := 0) hx hb dX13_keyOfficer_1 (by decide) ?_
  obtain ⟨w1, hw1, hf⟩ := bnd hf
  replace hw1 := Option.some.inj hw1
  refine p13_0 (v := 0) hx hb hts hown hKs hH rfl ho m6_181 dX13_keyOfficer_2 (fun H locs hH => ?_)
  rw [hw1] at hH
  refine lv_iconst (v := (-1)) hx hb dX13_keyOfficer_5 (by decide) ?_
  refine lv_istore_n (i := 1) (lv' := [(1, .int ((-1))), (0, rv E (some o))]) hx hb dX13_keyOfficer_6 rfl hl (by decide) rfl (fun ls hl => ?_)
  refine hl_aload_n hx hb dX13_keyOfficer_7 rfl (lv_at hl 1 rfl) ?_
  obtain ⟨q2, hq2, hf⟩ := bnd hf
  refine hcV_i hx hb hml hown hts hKs hT hb0 hH (As := []) (rest := []) (k_X13_plannableNow l E K H.size o w1 ho hq2) (gV m8_134 m8_136 ms_94 m1_16 m8_137) hd_X13_plannableNow ⟨Nat.le_of_ble_eq_true rfl, Nat.le_of_ble_eq_true rfl, rfl, rfl⟩ rfl ho rfl rfl rfl hl.1 rfl rc0 rfl dX13_keyOfficer_8 ⟨Nat.zero_le _, Nat.zero_le _⟩ (fun H locs hH => ?_)
  refine lv_istore_n (i := 2) (lv' := [(2, .int (q2.1)), (1, .int ((-1))), (0, rv E (some o))]) hx hb dX13_keyOfficer_11 rfl hl (by decide) rfl (fun ls hl => ?_)
  refine lv_iconst (v := 0) hx hb dX13_keyOfficer_12 (by decide) ?_
  refine lv_istore_n (i := 3) (lv' := [(3, .int 0), (2, .int (q2.1)), (1, .int ((-1))), (0, rv E (some o))]) hx hb dX13_keyOfficer_13 rfl hl (by decide) rfl (fun ls hl => ?_)
  refine l_X13_keyOfficer_L14  C ho _ (fun v1_14 v2_14 v3_14 w3 H locs ls hH hl hf => ?_) fu (-1) q2.1 0 q2.2 _ _ _ hH (lv_sub hl [2, 1, 0, 3] rfl) hf
  refine lv_iload_n hx hb dX13_keyOfficer_60 rfl (lv_at hl 0 rfl) ?_
  exact hw_iret hx hb hret hf hH hlocks dX13_keyOfficer_61

theorem dX13_needing_0 : decode cX13_needing 0 = .ok (.iconst 0, 1) := by decide +kernel
theorem dX13_needing_1 : decode cX13_needing 1 = .ok (.istore_n 2, 1) := by decide +kernel
theorem dX13_needing_2 : decode cX13_needing 2 = .ok (.iconst 0, 1) := by decide +kernel
theorem dX13_needing_3 : decode cX13_needing 3 = .ok (.istore_n 3, 1) := by decide +kernel
theorem dX13_needing_4 : decode cX13_needing 4 = .ok (.iload_n 3, 1) := by decide +kernel
theorem dX13_needing_5 : decode cX13_needing 5 = .ok (.aload_n 0, 1) := by decide +kernel
theorem dX13_needing_6 : decode cX13_needing 6 = .ok (.getfield 7, 3) := by decide +kernel
theorem dX13_needing_9 : decode cX13_needing 9 = .ok (.iconst 3, 1) := by decide +kernel
theorem dX13_needing_10 : decode cX13_needing 10 = .ok (.iaload, 1) := by decide +kernel
theorem dX13_needing_11 : decode cX13_needing 11 = .ok (.if_icmp .ge 40, 3) := by decide +kernel
theorem dX13_needing_14 : decode cX13_needing 14 = .ok (.aload_n 0, 1) := by decide +kernel
theorem dX13_needing_15 : decode cX13_needing 15 = .ok (.iload_n 3, 1) := by decide +kernel
theorem dX13_needing_16 : decode cX13_needing 16 = .ok (.iconst 0, 1) := by decide +kernel
theorem dX13_needing_17 : decode cX13_needing 17 = .ok (.invokevirtual 141, 3) := by decide +kernel
theorem dX13_needing_20 : decode cX13_needing 20 = .ok (.iconst 1, 1) := by decide +kernel
theorem dX13_needing_21 : decode cX13_needing 21 = .ok (.if_icmp .ne 24, 3) := by decide +kernel
theorem dX13_needing_24 : decode cX13_needing 24 = .ok (.aload_n 0, 1) := by decide +kernel
theorem dX13_needing_25 : decode cX13_needing 25 = .ok (.getfield 7, 3) := by decide +kernel
theorem dX13_needing_28 : decode cX13_needing 28 = .ok (.sipush 136, 3) := by decide +kernel
theorem dX13_needing_31 : decode cX13_needing 31 = .ok (.iload_n 3, 1) := by decide +kernel
theorem dX13_needing_32 : decode cX13_needing 32 = .ok (.iadd, 1) := by decide +kernel
theorem dX13_needing_33 : decode cX13_needing 33 = .ok (.iaload, 1) := by decide +kernel
theorem dX13_needing_34 : decode cX13_needing 34 = .ok (.iload_n 1, 1) := by decide +kernel
theorem dX13_needing_35 : decode cX13_needing 35 = .ok (.invokestatic 167, 3) := by decide +kernel
theorem dX13_needing_38 : decode cX13_needing 38 = .ok (.ifCond .eq 7, 3) := by decide +kernel
theorem dX13_needing_41 : decode cX13_needing 41 = .ok (.iload_n 2, 1) := by decide +kernel
theorem dX13_needing_42 : decode cX13_needing 42 = .ok (.iconst 1, 1) := by decide +kernel
theorem dX13_needing_43 : decode cX13_needing 43 = .ok (.iadd, 1) := by decide +kernel
theorem dX13_needing_44 : decode cX13_needing 44 = .ok (.istore_n 2, 1) := by decide +kernel
theorem dX13_needing_45 : decode cX13_needing 45 = .ok (.iinc 3 1, 3) := by decide +kernel
theorem dX13_needing_48 : decode cX13_needing 48 = .ok (.goto (-44), 3) := by decide +kernel
theorem dX13_needing_51 : decode cX13_needing 51 = .ok (.iload_n 2, 1) := by decide +kernel
theorem dX13_needing_52 : decode cX13_needing 52 = .ok (.ireturn, 1) := by decide +kernel
theorem hd_X13_needing : yX13_needing.cls = RX13 ∧ yX13_needing.cls ≠ "java/lang/invoke/MethodHandle" ∧ yX13_needing.cls ≠ "java/lang/invoke/VarHandle" ∧ (parseMethodDescriptor yX13_needing.desc).map (fun d => d.parameters.length) = some 1 := by decide +kernel
theorem hs_X13_needing : yX13_needing.cls ≠ "java/lang/invoke/MethodHandle" ∧ yX13_needing.cls ≠ "java/lang/invoke/VarHandle" ∧ (parseMethodDescriptor yX13_needing.desc).map (fun d => d.parameters.length) = some 1 := by decide +kernel
set_option maxHeartbeats 4000000 in
set_option maxRecDepth 100000 in
theorem l_X13_needing_L4 (C : CX p l e s m args meth c cX13_needing 4 RX13 (Option.some Jvm.ClassFile.FieldType.int) E) {o : Nat} (ho : K o = some (11, 0)) {r : Int32} {w' : Wd} (k : Int32 → Int32 → Int32 → Wd → Option (Int32 × Wd)) (hk : ∀ (v1_4 : Int32) (v2_4 : Int32) (v3_4 : Int32) (w : Wd) (H : Heap) (locs : List Loc) (ls : Array Slot), HQ E K z w s H locs → lv_has ls 4 [(1, .int v1_4), (2, .int v2_4), (3, .int v3_4), (0, rv E (some o))] → k v1_4 v2_4 v3_4 w = some (r, w') → W p l e ({ frames := 2, cells := 0, slots := 0, locals := 44 } : Room) s m args below meth c H locs 0 0 (MQ below (QI E K z w' r) args s 0 0 (hA E)) (F0 m 51 ls [])) : ∀ (n : Nat) (v1_4 : Int32) (v2_4 : Int32) (v3_4 : Int32) (w : Wd) (H : Heap) (locs : List Loc) (ls : Array Slot), HQ E K z w s H locs → lv_has ls 4 [(1, .int v1_4), (2, .int v2_4), (3, .int v3_4), (0, rv E (some o))] → f_X13_needing_L4 K o k n v1_4 v2_4 v3_4 w = some (r, w') → W p l e ({ frames := 2, cells := 0, slots := 0, locals := 44 } : Room) s m args below meth c H locs 0 0 (MQ below (QI E K z w' r) args s 0 0 (hA E)) (F0 m 4 ls []) := by
  obtain ⟨hx, hb, hml, hown, hts, hKs, hT, hb0, hlocks, hret⟩ := id C
  intro n
  induction n with
  | zero =>
    intro v1_4 v2_4 v3_4 w H locs ls hH hl hf
    cases hf
  | succ n ih =>
    intro v1_4 v2_4 v3_4 w H locs ls hH hl hf
    rw [f_X13_needing_L4] at hf
    refine lv_iload_n hx hb dX13_needing_4 rfl (lv_at hl 2 rfl) ?_
    refine hl_aload_n hx hb dX13_needing_5 rfl (lv_at hl 3 rfl) ?_
    refine g13_1 hx hb hts hown hKs hH rfl ho m6_182 dX13_needing_6 ?_
    refine lv_iconst (v := 3) hx hb dX13_needing_9 (by decide) ?_
    obtain ⟨a2, ha2, hf⟩ := bnd hf
    replace ha2 := cha_some ha2
    obtain ⟨j3, hj3, hf⟩ := bnd hf
    refine hw_iald hx hb hKs hH ha2.1 ha2.2 hj3 dX13_needing_10 ?_
    refine lv_icmp_ge (tgt := 51) hx hb dX13_needing_11 (by decide) (fun c4 => ?_) (fun c4 => ?_)
    · replace hf := (if_pos c4).symm.trans hf
      exact hk v1_4 v2_4 v3_4 _ _ _ _ hH (lv_sub hl [0, 1, 2, 3] rfl) hf
    · replace hf := (if_neg c4).symm.trans hf
      refine hl_aload_n hx hb dX13_needing_14 rfl (lv_at hl 3 rfl) ?_
      refine lv_iload_n hx hb dX13_needing_15 rfl (lv_at hl 2 rfl) ?_
      refine lv_iconst (v := 0) hx hb dX13_needing_16 (by decide) ?_
      obtain ⟨q5, hq5, hf⟩ := bnd hf
      refine hcV_i hx hb hml hown hts hKs hT hb0 hH (As := [.int v3_4, .int 0]) (rest := []) (k_X13_of l E K H.size o v3_4 0 w ho hq5) (gV m7_126 m7_128 ms_54 m1_16 m7_129) hd_X13_of ⟨Nat.le_of_ble_eq_true rfl, Nat.le_of_ble_eq_true rfl, rfl, rfl⟩ rfl ho rfl rfl rfl hl.1 rfl rc0 rfl dX13_needing_17 ⟨Nat.zero_le _, Nat.zero_le _⟩ (fun H locs hH => ?_)
      refine lv_iconst (v := 1) hx hb dX13_needing_20 (by decide) ?_
      refine lv_icmp_ne (tgt := 45) hx hb dX13_needing_21 (by decide) (fun c6 => ?_) (fun c6 => ?_)
      · replace hf := (if_neg c6).symm.trans hf
        refine lv_iinc (v := (v3_4 + 1)) (lv' := [(3, .int ((v3_4 + 1))), (1, .int v1_4), (2, .int v2_4), (0, rv E (some o))]) hx hb dX13_needing_45 hl (k := 2) rfl rfl (by decide) rfl (fun ls hl => ?_)
        refine lv_goto (tgt := 4) hx hb dX13_needing_48 (by decide) ?_
        exact ih v1_4 v2_4 (v3_4 + 1) _ _ _ _ hH (lv_sub hl [1, 2, 0, 3] rfl) hf
      · replace hf := (if_pos c6).symm.trans hf
        refine hl_aload_n hx hb dX13_needing_24 rfl (lv_at hl 3 rfl) ?_
        refine g13_1 hx hb hts hown hKs hH rfl ho m6_182 dX13_needing_25 ?_
        refine lv_sipush (v := 136) hx hb dX13_needing_28 (by decide) ?_
        refine lv_iload_n hx hb dX13_needing_31 rfl (lv_at hl 2 rfl) ?_
        refine lv_iadd hx hb dX13_needing_32 ?_
        obtain ⟨a7, ha7, hf⟩ := bnd hf
        replace ha7 := cha_some ha7
        obtain ⟨j8, hj8, hf⟩ := bnd hf
        refine hw_iald hx hb hKs hH ha7.1 ha7.2 hj8 dX13_needing_33 ?_
        refine lv_iload_n hx hb dX13_needing_34 rfl (lv_at hl 0 rfl) ?_
        obtain ⟨q9, hq9, hf⟩ := bnd hf
        refine hcS_i hx hb hml hown hts hKs hT hb0 hH (As := [.int ((aI q5.2 a7.1 j8)), .int v1_4]) (rest := []) (k_X13_has l E K H.size (aI q5.2 a7.1 j8) v1_4 q5.2 hq9) (gS m7_223 m7_224 m1_16 m7_225) hs_X13_has ⟨Nat.le_of_ble_eq_true rfl, Nat.le_of_ble_eq_true rfl, rfl, rfl⟩ hl.1 rfl rc0 rfl dX13_needing_35 ⟨Nat.zero_le _, Nat.zero_le _⟩ (fun H locs hH => ?_)
        refine lv_if_eq (tgt := 45) hx hb dX13_needing_38 (by decide) (fun c10 => ?_) (fun c10 => ?_)
        · replace hf := (if_pos c10).symm.trans hf
          refine lv_iinc (v := (v3_4 + 1)) (lv' := [(3, .int ((v3_4 + 1))), (1, .int v1_4), (2, .int v2_4), (0, rv E (some o))]) hx hb dX13_needing_45 hl (k := 2) rfl rfl (by decide) rfl (fun ls hl => ?_)
          refine lv_goto (tgt := 4) hx hb dX13_needing_48 (by decide) ?_
          exact ih v1_4 v2_4 (v3_4 + 1) _ _ _ _ hH (lv_sub hl [1, 2, 0, 3] rfl) hf
        · replace hf := (if_neg c10).symm.trans hf
          refine lv_iload_n hx hb dX13_needing_41 rfl (lv_at hl 1 rfl) ?_
          refine lv_iconst (v := 1) hx hb dX13_needing_42 (by decide) ?_
          refine lv_iadd hx hb dX13_needing_43 ?_
          refine lv_istore_n (i := 2) (lv' := [(2, .int ((v2_4 + 1))), (1, .int v1_4), (3, .int v3_4), (0, rv E (some o))]) hx hb dX13_needing_44 rfl hl (by decide) rfl (fun ls hl => ?_)
          refine lv_iinc (v := (v3_4 + 1)) (lv' := [(3, .int ((v3_4 + 1))), (2, .int ((v2_4 + 1))), (1, .int v1_4), (0, rv E (some o))]) hx hb dX13_needing_45 hl (k := 2) rfl rfl (by decide) rfl (fun ls hl => ?_)
          refine lv_goto (tgt := 4) hx hb dX13_needing_48 (by decide) ?_
          exact ih v1_4 (v2_4 + 1) (v3_4 + 1) _ _ _ _ hH (lv_sub hl [2, 1, 0, 3] rfl) hf
set_option maxHeartbeats 4000000 in
set_option maxRecDepth 100000 in
theorem k_X13_needing (l : Launch) (E : Ev) (K : Kd) (z : Nat) (o : Nat) (a_1 : Int32) (w : Wd) (ho : K o = some (11, 0)) {r : Int32} {w' : Wd} (hf : f_X13_needing K o a_1 w = some (r, w')) : Met l yX13_needing (Cond.code yX13_needing cX13_needing 4 (Option.some Jvm.ClassFile.FieldType.int) :: bt) ({ frames := 2, cells := 0, slots := 0, locals := 44 } : Room) (va_Pc [rv E (some o), .int a_1] (HB E K w z)) (QI E K z w' r) 0 0 (hA E) := by
  refine Met.ofW (cc := cX13_needing) (maxL := 4) (ret := (Option.some Jvm.ClassFile.FieldType.int)) (by decide) rfl ?_
  intro p e s m args below meth c s₁ B hml hv
  obtain ⟨rfl, hz, hP, hKs, hT, hb0⟩ := hv
  have C : CX p l e s m _ meth c cX13_needing 4 RX13 (Option.some Jvm.ClassFile.FieldType.int) E := ⟨B.exec, B.bytes, hml, findClass_of_methodNamed B.named, fun w h => atoms_spec (ws := Cond.code yX13_needing cX13_needing 4 (Option.some Jvm.ClassFile.FieldType.int) :: bt) B.pre w (List.mem_cons_of_mem _ h), hKs, hT, by rw [hz]; exact hb0, B.notSynchronized, B.returns⟩
  have hH : HQ E K z w s s.heap [] := ⟨hP, va_S.rf, hz⟩
  obtain ⟨hx, hb, hml, hown, hts, hKs, hT, hb0, hlocks, hret⟩ := id C
  have hl := lv_entry [rv E (some o), .int a_1] (n := 4) (by simp [lg_len_nil, lg_len_i, lg_len_j, lg_len_q, lg_len_f, lg_len_d, lg_len_r])
  rw [lg_entry_eq]
  generalize (lg_sl [rv E (some o), .int a_1] ++ List.replicate (4 - (lg_sl [rv E (some o), .int a_1]).length) Slot.unset).toArray = ls at hl ⊢
  replace hl : lv_has ls 4 [(0, rv E (some o)), (1, .int a_1)] := by simpa only [lv_args, cat_q, cat_i, cat_j, reduceIte, Nat.reduceEqDiff, Nat.reduceAdd, Nat.zero_add] using hl
  generalize s.heap = H at hH ⊢
  unfold f_X13_needing at hf
  refine lv_iconst (v := 0) hx hb dX13_needing_0 (by decide) ?_
  refine lv_istore_n (i := 2) (lv' := [(2, .int 0), (0, rv E (some o)), (1, .int a_1)]) hx hb dX13_needing_1 rfl hl (by decide) rfl (fun ls hl => ?_)
  refine lv_iconst (v := 0) hx hb dX13_needing_2 (by decide) ?_
  refine lv_istore_n (i := 3) (lv' := [(3, .int 0), (2, .int 0), (0, rv E (some o)), (1, .int a_1)]) hx hb dX13_needing_3 rfl hl (by decide) rfl (fun ls hl => ?_)
  refine l_X13_needing_L4  C ho _ (fun v1_4 v2_4 v3_4 w1 H locs ls hH hl hf => ?_) fu a_1 0 0 w _ _ _ hH (lv_sub hl [3, 1, 0, 2] rfl) hf
  refine lv_iload_n hx hb dX13_needing_51 rfl (lv_at hl 1 rfl) ?_
  exact hw_iret hx hb hret hf hH hlocks dX13_needing_52

theorem dX13_isOff_0 : decode cX13_isOff 0 = .ok (.aload_n 0, 1) := by decide +kernel
theorem dX13_isOff_1 : decode cX13_isOff 1 = .ok (.aload_n 0, 1) := by decide +kernel
theorem dX13_isOff_2 : decode cX13_isOff 2 = .ok (.iload_n 1, 1) := by decide +kernel
theorem dX13_isOff_3 : decode cX13_isOff 3 = .ok (.invokevirtual 203, 3) := by decide +kernel
theorem dX13_isOff_6 : decode cX13_isOff 6 = .ok (.invokevirtual 110, 3) := by decide +kernel
theorem dX13_isOff_9 : decode cX13_isOff 9 = .ok (.ifCond .eq 28, 3) := by decide +kernel
theorem dX13_isOff_12 : decode cX13_isOff 12 = .ok (.aload_n 0, 1) := by decide +kernel
theorem dX13_isOff_13 : decode cX13_isOff 13 = .ok (.iload_n 2, 1) := by decide +kernel
theorem dX13_isOff_14 : decode cX13_isOff 14 = .ok (.invokestatic 127, 3) := by decide +kernel
theorem dX13_isOff_17 : decode cX13_isOff 17 = .ok (.iconst 2, 1) := by decide +kernel
theorem dX13_isOff_18 : decode cX13_isOff 18 = .ok (.invokevirtual 214, 3) := by decide +kernel
theorem dX13_isOff_21 : decode cX13_isOff 21 = .ok (.ifCond .eq 16, 3) := by decide +kernel
theorem dX13_isOff_24 : decode cX13_isOff 24 = .ok (.aload_n 0, 1) := by decide +kernel
theorem dX13_isOff_25 : decode cX13_isOff 25 = .ok (.iload_n 1, 1) := by decide +kernel
theorem dX13_isOff_26 : decode cX13_isOff 26 = .ok (.iload_n 2, 1) := by decide +kernel
theorem dX13_isOff_27 : decode cX13_isOff 27 = .ok (.invokevirtual 177, 3) := by decide +kernel
theorem dX13_isOff_30 : decode cX13_isOff 30 = .ok (.ifCond .eq 7, 3) := by decide +kernel
theorem dX13_isOff_33 : decode cX13_isOff 33 = .ok (.iconst 1, 1) := by decide +kernel
theorem dX13_isOff_34 : decode cX13_isOff 34 = .ok (.goto 4, 3) := by decide +kernel
theorem dX13_isOff_37 : decode cX13_isOff 37 = .ok (.iconst 0, 1) := by decide +kernel
theorem dX13_isOff_38 : decode cX13_isOff 38 = .ok (.ireturn, 1) := by decide +kernel
theorem hd_X13_isOff : yX13_isOff.cls = RX13 ∧ yX13_isOff.cls ≠ "java/lang/invoke/MethodHandle" ∧ yX13_isOff.cls ≠ "java/lang/invoke/VarHandle" ∧ (parseMethodDescriptor yX13_isOff.desc).map (fun d => d.parameters.length) = some 2 := by decide +kernel
theorem hs_X13_isOff : yX13_isOff.cls ≠ "java/lang/invoke/MethodHandle" ∧ yX13_isOff.cls ≠ "java/lang/invoke/VarHandle" ∧ (parseMethodDescriptor yX13_isOff.desc).map (fun d => d.parameters.length) = some 2 := by decide +kernel
set_option maxHeartbeats 4000000 in
set_option maxRecDepth 100000 in
theorem k_X13_isOff (l : Launch) (E : Ev) (K : Kd) (z : Nat) (o : Nat) (a_1 : Int32) (a_2 : Int32) (w : Wd) (ho : K o = some (11, 0)) {r : Bool} {w' : Wd} (hf : f_X13_isOff K o a_1 a_2 w = some (r, w')) : Met l yX13_isOff (Cond.code yX13_isOff cX13_isOff 3 (Option.some Jvm.ClassFile.FieldType.boolean) :: bt) ({ frames := 2, cells := 0, slots := 0, locals := 48 } : Room) (va_Pc [rv E (some o), .int a_1, .int a_2] (HB E K w z)) (QI E K z w' (b2i r)) 0 0 (hA E) := by
  refine Met.ofW (cc := cX13_isOff) (maxL := 3) (ret := (Option.some Jvm.ClassFile.FieldType.boolean)) (by decide) rfl ?_
  intro p e s m args below meth c s₁ B hml hv
  obtain ⟨rfl, hz, hP, hKs, hT, hb0⟩ := hv
  have C : CX p l e s m _ meth c cX13_isOff 3 RX13 (Option.some Jvm.ClassFile.FieldType.boolean) E := ⟨B.exec, B.bytes, hml, findClass_of_methodNamed B.named, fun w h => atoms_spec (ws := Cond.code yX13_isOff cX13_isOff 3 (Option.some Jvm.ClassFile.FieldType.boolean) :: bt) B.pre w (List.mem_cons_of_mem _ h), hKs, hT, by rw [hz]; exact hb0, B.notSynchronized, B.returns⟩
  have hH : HQ E K z w s s.heap [] := ⟨hP, va_S.rf, hz⟩
  obtain ⟨hx, hb, hml, hown, hts, hKs, hT, hb0, hlocks, hret⟩ := id C
  have hl := lv_entry [rv E (some o), .int a_1, .int a_2] (n := 3) (by simp [lg_len_nil, lg_len_i, lg_len_j, lg_len_q, lg_len_f, lg_len_d, lg_len_r])
  rw [lg_entry_eq]
  generalize (lg_sl [rv E (some o), .int a_1, .int a_2] ++ List.replicate (3 - (lg_sl [rv E (some o), .int a_1, .int a_2]).length) Slot.unset).toArray = ls at hl ⊢
  replace hl : lv_has ls 3 [(0, rv E (some o)), (1, .int a_1), (2, .int a_2)] := by simpa only [lv_args, cat_q, cat_i, cat_j, reduceIte, Nat.reduceEqDiff, Nat.reduceAdd, Nat.zero_add] using hl
  generalize s.heap = H at hH ⊢
  unfold f_X13_isOff at hf
  refine hl_aload_n hx hb dX13_isOff_0 rfl (lv_at hl 0 rfl) ?_
  refine hl_aload_n hx hb dX13_isOff_1 rfl (lv_at hl 0 rfl) ?_
  refine lv_iload_n hx hb dX13_isOff_2 rfl (lv_at hl 1 rfl) ?_
  obtain ⟨q1, hq1, hf⟩ := bnd hf
  refine hcV_i hx hb hml hown hts hKs hT hb0 hH (As := [.int a_1]) (rest := [rv E (some o)]) (k_X13_isOfficer l E K H.size o a_1 w ho hq1) (gV m7_175 m7_177 ms_60 m1_16 m7_178) hd_X13_isOfficer ⟨Nat.le_of_ble_eq_true rfl, Nat.le_of_ble_eq_true rfl, rfl, rfl⟩ rfl ho rfl rfl rfl hl.1 rfl (rcV rc0) rfl dX13_isOff_3 ⟨Nat.zero_le _, Nat.zero_le _⟩ (fun H locs hH => ?_)
  obtain ⟨q2, hq2, hf⟩ := bnd hf
  refine hcV_i hx hb hml hown hts hKs hT hb0 hH (As := [.int (b2i q1.1)]) (rest := []) (k_X13_is l E K H.size o q1.1 q1.2 ho hq2) (gV m7_68 m7_70 ms_47 m1_16 m7_71) hd_X13_is ⟨Nat.le_of_ble_eq_true rfl, Nat.le_of_ble_eq_true rfl, rfl, rfl⟩ rfl ho rfl rfl rfl hl.1 rfl rc0 rfl dX13_isOff_6 ⟨Nat.zero_le _, Nat.zero_le _⟩ (fun H locs hH => ?_)
  refine lv_if_eq (tgt := 37) hx hb dX13_isOff_9 (by decide) (fun c3 => ?_) (fun c3 => ?_)
  · replace hf := (if_pos c3).symm.trans hf
    refine lv_iconst (v := 0) hx hb dX13_isOff_37 (by decide) ?_
    exact hw_zret hx hb hret rfl hf hH hlocks dX13_isOff_38
  · replace hf := (if_neg c3).symm.trans hf
    refine hl_aload_n hx hb dX13_isOff_12 rfl (lv_at hl 0 rfl) ?_
    refine lv_iload_n hx hb dX13_isOff_13 rfl (lv_at hl 2 rfl) ?_
    obtain ⟨q4, hq4, hf⟩ := bnd hf
    refine hcS_i hx hb hml hown hts hKs hT hb0 hH (As := [.int a_2]) (rest := [rv E (some o)]) (k_X13_isDay l E K H.size a_2 q2.2 hq4) (gS m7_84 m7_85 m1_16 m7_86) hs_X13_isDay ⟨Nat.le_of_ble_eq_true rfl, Nat.le_of_ble_eq_true rfl, rfl, rfl⟩ hl.1 rfl (rcV rc0) rfl dX13_isOff_14 ⟨Nat.zero_le _, Nat.zero_le _⟩ (fun H locs hH => ?_)
    refine lv_iconst (v := 2) hx hb dX13_isOff_17 (by decide) ?_
    obtain ⟨q5, hq5, hf⟩ := bnd hf
    refine hcV_i hx hb hml hown hts hKs hT hb0 hH (As := [.int (b2i q4.1), .int 2]) (rest := []) (k_X13_may l E K H.size o q4.1 2 q4.2 ho hq5) (gV m7_183 m7_185 ms_61 m1_16 m7_186) hd_X13_may ⟨Nat.le_of_ble_eq_true rfl, Nat.le_of_ble_eq_true rfl, rfl, rfl⟩ rfl ho rfl rfl rfl hl.1 rfl rc0 rfl dX13_isOff_18 ⟨Nat.zero_le _, Nat.zero_le _⟩ (fun H locs hH => ?_)
    refine lv_if_eq (tgt := 37) hx hb dX13_isOff_21 (by decide) (fun c6 => ?_) (fun c6 => ?_)
    · replace hf := (if_pos c6).symm.trans hf
      refine lv_iconst (v := 0) hx hb dX13_isOff_37 (by decide) ?_
      exact hw_zret hx hb hret rfl hf hH hlocks dX13_isOff_38
    · replace hf := (if_neg c6).symm.trans hf
      refine hl_aload_n hx hb dX13_isOff_24 rfl (lv_at hl 0 rfl) ?_
      refine lv_iload_n hx hb dX13_isOff_25 rfl (lv_at hl 1 rfl) ?_
      refine lv_iload_n hx hb dX13_isOff_26 rfl (lv_at hl 2 rfl) ?_
      obtain ⟨q7, hq7, hf⟩ := bnd hf
      refine hcV_i hx hb hml hown hts hKs hT hb0 hH (As := [.int a_1, .int a_2]) (rest := []) (k_X13_isOffOn l E K H.size o a_1 a_2 q5.2 ho hq7) (gV m7_211 m7_213 ms_68 m1_16 m7_214) hd_X13_isOffOn ⟨Nat.le_of_ble_eq_true rfl, Nat.le_of_ble_eq_true rfl, rfl, rfl⟩ rfl ho rfl rfl rfl hl.1 rfl rc0 rfl dX13_isOff_27 ⟨Nat.zero_le _, Nat.zero_le _⟩ (fun H locs hH => ?_)
      refine lv_if_eq (tgt := 37) hx hb dX13_isOff_30 (by decide) (fun c8 => ?_) (fun c8 => ?_)
      · replace hf := (if_pos c8).symm.trans hf
        refine lv_iconst (v := 0) hx hb dX13_isOff_37 (by decide) ?_
        exact hw_zret hx hb hret rfl hf hH hlocks dX13_isOff_38
      · replace hf := (if_neg c8).symm.trans hf
        refine lv_iconst (v := 1) hx hb dX13_isOff_33 (by decide) ?_
        refine lv_goto (tgt := 38) hx hb dX13_isOff_34 (by decide) ?_
        exact hw_zret hx hb hret rfl hf hH hlocks dX13_isOff_38

theorem dX13_isBarred_0 : decode cX13_isBarred 0 = .ok (.aload_n 0, 1) := by decide +kernel
theorem dX13_isBarred_1 : decode cX13_isBarred 1 = .ok (.aload_n 0, 1) := by decide +kernel
theorem dX13_isBarred_2 : decode cX13_isBarred 2 = .ok (.iload_n 1, 1) := by decide +kernel
theorem dX13_isBarred_3 : decode cX13_isBarred 3 = .ok (.invokevirtual 203, 3) := by decide +kernel
theorem dX13_isBarred_6 : decode cX13_isBarred 6 = .ok (.ifCond .eq 15, 3) := by decide +kernel
theorem dX13_isBarred_9 : decode cX13_isBarred 9 = .ok (.aload_n 0, 1) := by decide +kernel
theorem dX13_isBarred_10 : decode cX13_isBarred 10 = .ok (.iload_n 2, 1) := by decide +kernel
theorem dX13_isBarred_11 : decode cX13_isBarred 11 = .ok (.invokevirtual 148, 3) := by decide +kernel
theorem dX13_isBarred_14 : decode cX13_isBarred 14 = .ok (.ifCond .eq 7, 3) := by decide +kernel
theorem dX13_isBarred_17 : decode cX13_isBarred 17 = .ok (.iconst 1, 1) := by decide +kernel
theorem dX13_isBarred_18 : decode cX13_isBarred 18 = .ok (.goto 4, 3) := by decide +kernel
theorem dX13_isBarred_21 : decode cX13_isBarred 21 = .ok (.iconst 0, 1) := by decide +kernel
theorem dX13_isBarred_22 : decode cX13_isBarred 22 = .ok (.invokevirtual 110, 3) := by decide +kernel
theorem dX13_isBarred_25 : decode cX13_isBarred 25 = .ok (.ifCond .eq 16, 3) := by decide +kernel
theorem dX13_isBarred_28 : decode cX13_isBarred 28 = .ok (.aload_n 0, 1) := by decide +kernel
theorem dX13_isBarred_29 : decode cX13_isBarred 29 = .ok (.iload_n 1, 1) := by decide +kernel
theorem dX13_isBarred_30 : decode cX13_isBarred 30 = .ok (.iload_n 2, 1) := by decide +kernel
theorem dX13_isBarred_31 : decode cX13_isBarred 31 = .ok (.invokevirtual 183, 3) := by decide +kernel
theorem dX13_isBarred_34 : decode cX13_isBarred 34 = .ok (.ifCond .eq 7, 3) := by decide +kernel
theorem dX13_isBarred_37 : decode cX13_isBarred 37 = .ok (.iconst 1, 1) := by decide +kernel
theorem dX13_isBarred_38 : decode cX13_isBarred 38 = .ok (.goto 4, 3) := by decide +kernel
theorem dX13_isBarred_41 : decode cX13_isBarred 41 = .ok (.iconst 0, 1) := by decide +kernel
theorem dX13_isBarred_42 : decode cX13_isBarred 42 = .ok (.ireturn, 1) := by decide +kernel
theorem hd_X13_isBarred : yX13_isBarred.cls = RX13 ∧ yX13_isBarred.cls ≠ "java/lang/invoke/MethodHandle" ∧ yX13_isBarred.cls ≠ "java/lang/invoke/VarHandle" ∧ (parseMethodDescriptor yX13_isBarred.desc).map (fun d => d.parameters.length) = some 2 := by decide +kernel
theorem hs_X13_isBarred : yX13_isBarred.cls ≠ "java/lang/invoke/MethodHandle" ∧ yX13_isBarred.cls ≠ "java/lang/invoke/VarHandle" ∧ (parseMethodDescriptor yX13_isBarred.desc).map (fun d => d.parameters.length) = some 2 := by decide +kernel
set_option maxHeartbeats 4000000 in
set_option maxRecDepth 100000 in
theorem k_X13_isBarred (l : Launch) (E : Ev) (K : Kd) (z : Nat) (o : Nat) (a_1 : Int32) (a_2 : Int32) (w : Wd) (ho : K o = some (11, 0)) {r : Bool} {w' : Wd} (hf : f_X13_isBarred K o a_1 a_2 w = some (r, w')) : Met l yX13_isBarred (Cond.code yX13_isBarred cX13_isBarred 3 (Option.some Jvm.ClassFile.FieldType.boolean) :: bt) ({ frames := 4, cells := 0, slots := 0, locals := 88 } : Room) (va_Pc [rv E (some o), .int a_1, .int a_2] (HB E K w z)) (QI E K z w' (b2i r)) 0 0 (hA E) := by
  refine Met.ofW (cc := cX13_isBarred) (maxL := 3) (ret := (Option.some Jvm.ClassFile.FieldType.boolean)) (by decide) rfl ?_
  intro p e s m args below meth c s₁ B hml hv
  obtain ⟨rfl, hz, hP, hKs, hT, hb0⟩ := hv
  have C : CX p l e s m _ meth c cX13_isBarred 3 RX13 (Option.some Jvm.ClassFile.FieldType.boolean) E := ⟨B.exec, B.bytes, hml, findClass_of_methodNamed B.named, fun w h => atoms_spec (ws := Cond.code yX13_isBarred cX13_isBarred 3 (Option.some Jvm.ClassFile.FieldType.boolean) :: bt) B.pre w (List.mem_cons_of_mem _ h), hKs, hT, by rw [hz]; exact hb0, B.notSynchronized, B.returns⟩
  have hH : HQ E K z w s s.heap [] := ⟨hP, va_S.rf, hz⟩
  obtain ⟨hx, hb, hml, hown, hts, hKs, hT, hb0, hlocks, hret⟩ := id C
  have hl := lv_entry [rv E (some o), .int a_1, .int a_2] (n := 3) (by simp [lg_len_nil, lg_len_i, lg_len_j, lg_len_q, lg_len_f, lg_len_d, lg_len_r])
  rw [lg_entry_eq]
  generalize (lg_sl [rv E (some o), .int a_1, .int a_2] ++ List.replicate (3 - (lg_sl [rv E (some o), .int a_1, .int a_2]).length) Slot.unset).toArray = ls at hl ⊢
  replace hl : lv_has ls 3 [(0, rv E (some o)), (1, .int a_1), (2, .int a_2)] := by simpa only [lv_args, cat_q, cat_i, cat_j, reduceIte, Nat.reduceEqDiff, Nat.reduceAdd, Nat.zero_add] using hl
  generalize s.heap = H at hH ⊢
  unfold f_X13_isBarred at hf
  refine hl_aload_n hx hb dX13_isBarred_0 rfl (lv_at hl 0 rfl) ?_
  refine hl_aload_n hx hb dX13_isBarred_1 rfl (lv_at hl 0 rfl) ?_
  refine lv_iload_n hx hb dX13_isBarred_2 rfl (lv_at hl 1 rfl) ?_
  obtain ⟨q1, hq1, hf⟩ := bnd hf
  refine hcV_i hx hb hml hown hts hKs hT hb0 hH (As := [.int a_1]) (rest := [rv E (some o)]) (k_X13_isOfficer l E K H.size o a_1 w ho hq1) (gV m7_175 m7_177 ms_60 m1_16 m7_178) hd_X13_isOfficer ⟨Nat.le_of_ble_eq_true rfl, Nat.le_of_ble_eq_true rfl, rfl, rfl⟩ rfl ho rfl rfl rfl hl.1 rfl (rcV rc0) rfl dX13_isBarred_3 ⟨Nat.zero_le _, Nat.zero_le _⟩ (fun H locs hH => ?_)
  refine lv_if_eq (tgt := 21) hx hb dX13_isBarred_6 (by decide) (fun c2 => ?_) (fun c2 => ?_)
  · replace hf := (if_pos c2).symm.trans hf
    refine lv_iconst (v := 0) hx hb dX13_isBarred_21 (by decide) ?_
    obtain ⟨q3, hq3, hf⟩ := bnd hf
    refine hcV_i hx hb hml hown hts hKs hT hb0 hH (As := [.int 0]) (rest := []) (k_X13_is l E K H.size o false q1.2 ho hq3) (gV m7_68 m7_70 ms_47 m1_16 m7_71) hd_X13_is ⟨Nat.le_of_ble_eq_true rfl, Nat.le_of_ble_eq_true rfl, rfl, rfl⟩ rfl ho rfl rfl rfl hl.1 rfl rc0 rfl dX13_isBarred_22 ⟨Nat.zero_le _, Nat.zero_le _⟩ (fun H locs hH => ?_)
    refine lv_if_eq (tgt := 41) hx hb dX13_isBarred_25 (by decide) (fun c4 => ?_) (fun c4 => ?_)
    · replace hf := (if_pos c4).symm.trans hf
      refine lv_iconst (v := 0) hx hb dX13_isBarred_41 (by decide) ?_
      exact hw_zret hx hb hret rfl hf hH hlocks dX13_isBarred_42
    · replace hf := (if_neg c4).symm.trans hf
      refine hl_aload_n hx hb dX13_isBarred_28 rfl (lv_at hl 0 rfl) ?_
      refine lv_iload_n hx hb dX13_isBarred_29 rfl (lv_at hl 1 rfl) ?_
      refine lv_iload_n hx hb dX13_isBarred_30 rfl (lv_at hl 2 rfl) ?_
      obtain ⟨q5, hq5, hf⟩ := bnd hf
      refine hcV_i hx hb hml hown hts hKs hT hb0 hH (As := [.int a_1, .int a_2]) (rest := []) (k_X13_isBarredFrom l E K H.size o a_1 a_2 q3.2 ho hq5) (gV m7_219 m7_221 ms_70 m1_16 m7_222) hd_X13_isBarredFrom ⟨Nat.le_of_ble_eq_true rfl, Nat.le_of_ble_eq_true rfl, rfl, rfl⟩ rfl ho rfl rfl rfl hl.1 rfl rc0 rfl dX13_isBarred_31 ⟨Nat.zero_le _, Nat.zero_le _⟩ (fun H locs hH => ?_)
      refine lv_if_eq (tgt := 41) hx hb dX13_isBarred_34 (by decide) (fun c6 => ?_) (fun c6 => ?_)
      · replace hf := (if_pos c6).symm.trans hf
        refine lv_iconst (v := 0) hx hb dX13_isBarred_41 (by decide) ?_
        exact hw_zret hx hb hret rfl hf hH hlocks dX13_isBarred_42
      · replace hf := (if_neg c6).symm.trans hf
        refine lv_iconst (v := 1) hx hb dX13_isBarred_37 (by decide) ?_
        refine lv_goto (tgt := 42) hx hb dX13_isBarred_38 (by decide) ?_
        exact hw_zret hx hb hret rfl hf hH hlocks dX13_isBarred_42
  · replace hf := (if_neg c2).symm.trans hf
    refine hl_aload_n hx hb dX13_isBarred_9 rfl (lv_at hl 0 rfl) ?_
    refine lv_iload_n hx hb dX13_isBarred_10 rfl (lv_at hl 2 rfl) ?_
    obtain ⟨q7, hq7, hf⟩ := bnd hf
    refine hcV_i hx hb hml hown hts hKs hT hb0 hH (As := [.int a_2]) (rest := [rv E (some o)]) (k_X13_isCase l E K H.size o a_2 q1.2 ho hq7) (gV m7_114 m7_116 ms_51 m1_16 m7_117) hd_X13_isCase ⟨Nat.le_of_ble_eq_true rfl, Nat.le_of_ble_eq_true rfl, rfl, rfl⟩ rfl ho rfl rfl rfl hl.1 rfl (rcV rc0) rfl dX13_isBarred_11 ⟨Nat.zero_le _, Nat.zero_le _⟩ (fun H locs hH => ?_)
    refine lv_if_eq (tgt := 21) hx hb dX13_isBarred_14 (by decide) (fun c8 => ?_) (fun c8 => ?_)
    · replace hf := (if_pos c8).symm.trans hf
      refine lv_iconst (v := 0) hx hb dX13_isBarred_21 (by decide) ?_
      obtain ⟨q9, hq9, hf⟩ := bnd hf
      refine hcV_i hx hb hml hown hts hKs hT hb0 hH (As := [.int 0]) (rest := []) (k_X13_is l E K H.size o false q7.2 ho hq9) (gV m7_68 m7_70 ms_47 m1_16 m7_71) hd_X13_is ⟨Nat.le_of_ble_eq_true rfl, Nat.le_of_ble_eq_true rfl, rfl, rfl⟩ rfl ho rfl rfl rfl hl.1 rfl rc0 rfl dX13_isBarred_22 ⟨Nat.zero_le _, Nat.zero_le _⟩ (fun H locs hH => ?_)
      refine lv_if_eq (tgt := 41) hx hb dX13_isBarred_25 (by decide) (fun c10 => ?_) (fun c10 => ?_)
      · replace hf := (if_pos c10).symm.trans hf
        refine lv_iconst (v := 0) hx hb dX13_isBarred_41 (by decide) ?_
        exact hw_zret hx hb hret rfl hf hH hlocks dX13_isBarred_42
      · replace hf := (if_neg c10).symm.trans hf
        refine hl_aload_n hx hb dX13_isBarred_28 rfl (lv_at hl 0 rfl) ?_
        refine lv_iload_n hx hb dX13_isBarred_29 rfl (lv_at hl 1 rfl) ?_
        refine lv_iload_n hx hb dX13_isBarred_30 rfl (lv_at hl 2 rfl) ?_
        obtain ⟨q11, hq11, hf⟩ := bnd hf
        refine hcV_i hx hb hml hown hts hKs hT hb0 hH (As := [.int a_1, .int a_2]) (rest := []) (k_X13_isBarredFrom l E K H.size o a_1 a_2 q9.2 ho hq11) (gV m7_219 m7_221 ms_70 m1_16 m7_222) hd_X13_isBarredFrom ⟨Nat.le_of_ble_eq_true rfl, Nat.le_of_ble_eq_true rfl, rfl, rfl⟩ rfl ho rfl rfl rfl hl.1 rfl rc0 rfl dX13_isBarred_31 ⟨Nat.zero_le _, Nat.zero_le _⟩ (fun H locs hH => ?_)
        refine lv_if_eq (tgt := 41) hx hb dX13_isBarred_34 (by decide) (fun c12 => ?_) (fun c12 => ?_)
        · replace hf := (if_pos c12).symm.trans hf
          refine lv_iconst (v := 0) hx hb dX13_isBarred_41 (by decide) ?_
          exact hw_zret hx hb hret rfl hf hH hlocks dX13_isBarred_42
        · replace hf := (if_neg c12).symm.trans hf
          refine lv_iconst (v := 1) hx hb dX13_isBarred_37 (by decide) ?_
          refine lv_goto (tgt := 42) hx hb dX13_isBarred_38 (by decide) ?_
          exact hw_zret hx hb hret rfl hf hH hlocks dX13_isBarred_42
    · replace hf := (if_neg c8).symm.trans hf
      refine lv_iconst (v := 1) hx hb dX13_isBarred_17 (by decide) ?_
      refine lv_goto (tgt := 22) hx hb dX13_isBarred_18 (by decide) ?_
      obtain ⟨q13, hq13, hf⟩ := bnd hf
      refine hcV_i hx hb hml hown hts hKs hT hb0 hH (As := [.int 1]) (rest := []) (k_X13_is l E K H.size o true q7.2 ho hq13) (gV m7_68 m7_70 ms_47 m1_16 m7_71) hd_X13_is ⟨Nat.le_of_ble_eq_true rfl, Nat.le_of_ble_eq_true rfl, rfl, rfl⟩ rfl ho rfl rfl rfl hl.1 rfl rc0 rfl dX13_isBarred_22 ⟨Nat.zero_le _, Nat.zero_le _⟩ (fun H locs hH => ?_)
      refine lv_if_eq (tgt := 41) hx hb dX13_isBarred_25 (by decide) (fun c14 => ?_) (fun c14 => ?_)
      · replace hf := (if_pos c14).symm.trans hf
        refine lv_iconst (v := 0) hx hb dX13_isBarred_41 (by decide) ?_
        exact hw_zret hx hb hret rfl hf hH hlocks dX13_isBarred_42
      · replace hf := (if_neg c14).symm.trans hf
        refine hl_aload_n hx hb dX13_isBarred_28 rfl (lv_at hl 0 rfl) ?_
        refine lv_iload_n hx hb dX13_isBarred_29 rfl (lv_at hl 1 rfl) ?_
        refine lv_iload_n hx hb dX13_isBarred_30 rfl (lv_at hl 2 rfl) ?_
        obtain ⟨q15, hq15, hf⟩ := bnd hf
        refine hcV_i hx hb hml hown hts hKs hT hb0 hH (As := [.int a_1, .int a_2]) (rest := []) (k_X13_isBarredFrom l E K H.size o a_1 a_2 q13.2 ho hq15) (gV m7_219 m7_221 ms_70 m1_16 m7_222) hd_X13_isBarredFrom ⟨Nat.le_of_ble_eq_true rfl, Nat.le_of_ble_eq_true rfl, rfl, rfl⟩ rfl ho rfl rfl rfl hl.1 rfl rc0 rfl dX13_isBarred_31 ⟨Nat.zero_le _, Nat.zero_le _⟩ (fun H locs hH => ?_)
        refine lv_if_eq (tgt := 41) hx hb dX13_isBarred_34 (by decide) (fun c16 => ?_) (fun c16 => ?_)
        · replace hf := (if_pos c16).symm.trans hf
          refine lv_iconst (v := 0) hx hb dX13_isBarred_41 (by decide) ?_
          exact hw_zret hx hb hret rfl hf hH hlocks dX13_isBarred_42
        · replace hf := (if_neg c16).symm.trans hf
          refine lv_iconst (v := 1) hx hb dX13_isBarred_37 (by decide) ?_
          refine lv_goto (tgt := 42) hx hb dX13_isBarred_38 (by decide) ?_
          exact hw_zret hx hb hret rfl hf hH hlocks dX13_isBarred_42

theorem dX13_load_0 : decode cX13_load 0 = .ok (.aload_n 0, 1) := by decide +kernel
theorem dX13_load_1 : decode cX13_load 1 = .ok (.aload_n 0, 1) := by decide +kernel
theorem dX13_load_2 : decode cX13_load 2 = .ok (.iload_n 1, 1) := by decide +kernel
theorem dX13_load_3 : decode cX13_load 3 = .ok (.invokevirtual 203, 3) := by decide +kernel
theorem dX13_load_6 : decode cX13_load 6 = .ok (.invokevirtual 110, 3) := by decide +kernel
theorem dX13_load_9 : decode cX13_load 9 = .ok (.ifCond .eq 11, 3) := by decide +kernel
theorem dX13_load_12 : decode cX13_load 12 = .ok (.aload_n 0, 1) := by decide +kernel
theorem dX13_load_13 : decode cX13_load 13 = .ok (.iload_n 1, 1) := by decide +kernel
theorem dX13_load_14 : decode cX13_load 14 = .ok (.invokevirtual 224, 3) := by decide +kernel
theorem dX13_load_17 : decode cX13_load 17 = .ok (.goto 4, 3) := by decide +kernel
theorem dX13_load_20 : decode cX13_load 20 = .ok (.iconst 0, 1) := by decide +kernel
theorem dX13_load_21 : decode cX13_load 21 = .ok (.ireturn, 1) := by decide +kernel
theorem hd_X13_load : yX13_load.cls = RX13 ∧ yX13_load.cls ≠ "java/lang/invoke/MethodHandle" ∧ yX13_load.cls ≠ "java/lang/invoke/VarHandle" ∧ (parseMethodDescriptor yX13_load.desc).map (fun d => d.parameters.length) = some 1 := by decide +kernel
theorem hs_X13_load : yX13_load.cls ≠ "java/lang/invoke/MethodHandle" ∧ yX13_load.cls ≠ "java/lang/invoke/VarHandle" ∧ (parseMethodDescriptor yX13_load.desc).map (fun d => d.parameters.length) = some 1 := by decide +kernel
set_option maxHeartbeats 4000000 in
set_option maxRecDepth 100000 in
theorem k_X13_load (l : Launch) (E : Ev) (K : Kd) (z : Nat) (o : Nat) (a_1 : Int32) (w : Wd) (ho : K o = some (11, 0)) {r : Int32} {w' : Wd} (hf : f_X13_load K o a_1 w = some (r, w')) : Met l yX13_load (Cond.code yX13_load cX13_load 2 (Option.some Jvm.ClassFile.FieldType.int) :: bt) ({ frames := 4, cells := 0, slots := 0, locals := 88 } : Room) (va_Pc [rv E (some o), .int a_1] (HB E K w z)) (QI E K z w' r) 0 0 (hA E) := by
  refine Met.ofW (cc := cX13_load) (maxL := 2) (ret := (Option.some Jvm.ClassFile.FieldType.int)) (by decide) rfl ?_
  intro p e s m args below meth c s₁ B hml hv
  obtain ⟨rfl, hz, hP, hKs, hT, hb0⟩ := hv
  have C : CX p l e s m _ meth c cX13_load 2 RX13 (Option.some Jvm.ClassFile.FieldType.int) E := ⟨B.exec, B.bytes, hml, findClass_of_methodNamed B.named, fun w h => atoms_spec (ws := Cond.code yX13_load cX13_load 2 (Option.some Jvm.ClassFile.FieldType.int) :: bt) B.pre w (List.mem_cons_of_mem _ h), hKs, hT, by rw [hz]; exact hb0, B.notSynchronized, B.returns⟩
  have hH : HQ E K z w s s.heap [] := ⟨hP, va_S.rf, hz⟩
  obtain ⟨hx, hb, hml, hown, hts, hKs, hT, hb0, hlocks, hret⟩ := id C
  have hl := lv_entry [rv E (some o), .int a_1] (n := 2) (by simp [lg_len_nil, lg_len_i, lg_len_j, lg_len_q, lg_len_f, lg_len_d, lg_len_r])
  rw [lg_entry_eq]
  generalize (lg_sl [rv E (some o), .int a_1] ++ List.replicate (2 - (lg_sl [rv E (some o), .int a_1]).length) Slot.unset).toArray = ls at hl ⊢
  replace hl : lv_has ls 2 [(0, rv E (some o)), (1, .int a_1)] := by simpa only [lv_args, cat_q, cat_i, cat_j, reduceIte, Nat.reduceEqDiff, Nat.reduceAdd, Nat.zero_add] using hl
  generalize s.heap = H at hH ⊢
  unfold f_X13_load at hf
  refine hl_aload_n hx hb dX13_load_0 rfl (lv_at hl 0 rfl) ?_
  refine hl_aload_n hx hb dX13_load_1 rfl (lv_at hl 0 rfl) ?_
  refine lv_iload_n hx hb dX13_load_2 rfl (lv_at hl 1 rfl) ?_
  obtain ⟨q1, hq1, hf⟩ := bnd hf
  refine hcV_i hx hb hml hown hts hKs hT hb0 hH (As := [.int a_1]) (rest := [rv E (some o)]) (k_X13_isOfficer l E K H.size o a_1 w ho hq1) (gV m7_175 m7_177 ms_60 m1_16 m7_178) hd_X13_isOfficer ⟨Nat.le_of_ble_eq_true rfl, Nat.le_of_ble_eq_true rfl, rfl, rfl⟩ rfl ho rfl rfl rfl hl.1 rfl (rcV rc0) rfl dX13_load_3 ⟨Nat.zero_le _, Nat.zero_le _⟩ (fun H locs hH => ?_)
  obtain ⟨q2, hq2, hf⟩ := bnd hf
  refine hcV_i hx hb hml hown hts hKs hT hb0 hH (As := [.int (b2i q1.1)]) (rest := []) (k_X13_is l E K H.size o q1.1 q1.2 ho hq2) (gV m7_68 m7_70 ms_47 m1_16 m7_71) hd_X13_is ⟨Nat.le_of_ble_eq_true rfl, Nat.le_of_ble_eq_true rfl, rfl, rfl⟩ rfl ho rfl rfl rfl hl.1 rfl rc0 rfl dX13_load_6 ⟨Nat.zero_le _, Nat.zero_le _⟩ (fun H locs hH => ?_)
  refine lv_if_eq (tgt := 20) hx hb dX13_load_9 (by decide) (fun c3 => ?_) (fun c3 => ?_)
  · replace hf := (if_pos c3).symm.trans hf
    refine lv_iconst (v := 0) hx hb dX13_load_20 (by decide) ?_
    exact hw_iret hx hb hret hf hH hlocks dX13_load_21
  · replace hf := (if_neg c3).symm.trans hf
    refine hl_aload_n hx hb dX13_load_12 rfl (lv_at hl 0 rfl) ?_
    refine lv_iload_n hx hb dX13_load_13 rfl (lv_at hl 1 rfl) ?_
    obtain ⟨q4, hq4, hf⟩ := bnd hf
    refine hcV_i hx hb hml hown hts hKs hT hb0 hH (As := [.int a_1]) (rest := []) (k_X13_loadOf l E K H.size o a_1 q2.2 ho hq4) (gV m8_14 m8_16 ms_77 m1_16 m8_17) hd_X13_loadOf ⟨Nat.le_of_ble_eq_true rfl, Nat.le_of_ble_eq_true rfl, rfl, rfl⟩ rfl ho rfl rfl rfl hl.1 rfl rc0 rfl dX13_load_14 ⟨Nat.zero_le _, Nat.zero_le _⟩ (fun H locs hH => ?_)
    refine lv_goto (tgt := 21) hx hb dX13_load_17 (by decide) ?_
    exact hw_iret hx hb hret hf hH hlocks dX13_load_21
end
