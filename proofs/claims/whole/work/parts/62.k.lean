section
variable {p : Program} {l : Launch} {e : Env} {s : State} {m : MethodId} {args : Array Value} {below : List Frame} {meth : Method} {c : Code} {E : Ev} {K : Kd} {z : Nat}

theorem dX13_meets_0 : decode cX13_meets 0 = .ok (.iload_n 1, 1) := by decide +kernel
theorem dX13_meets_1 : decode cX13_meets 1 = .ok (.iload_n 2, 1) := by decide +kernel
theorem dX13_meets_2 : decode cX13_meets 2 = .ok (.if_icmp .eq 21, 3) := by decide +kernel
theorem dX13_meets_5 : decode cX13_meets 5 = .ok (.aload_n 0, 1) := by decide +kernel
theorem dX13_meets_6 : decode cX13_meets 6 = .ok (.iload_n 1, 1) := by decide +kernel
theorem dX13_meets_7 : decode cX13_meets 7 = .ok (.invokevirtual 164, 3) := by decide +kernel
theorem dX13_meets_10 : decode cX13_meets 10 = .ok (.ifCond .eq 13, 3) := by decide +kernel
theorem dX13_meets_13 : decode cX13_meets 13 = .ok (.aload_n 0, 1) := by decide +kernel
theorem dX13_meets_14 : decode cX13_meets 14 = .ok (.iload_n 1, 1) := by decide +kernel
theorem dX13_meets_15 : decode cX13_meets 15 = .ok (.iconst 3, 1) := by decide +kernel
theorem dX13_meets_16 : decode cX13_meets 16 = .ok (.invokevirtual 141, 3) := by decide +kernel
theorem dX13_meets_19 : decode cX13_meets 19 = .ok (.iload_n 3, 1) := by decide +kernel
theorem dX13_meets_20 : decode cX13_meets 20 = .ok (.if_icmp .eq 5, 3) := by decide +kernel
theorem dX13_meets_23 : decode cX13_meets 23 = .ok (.iconst 0, 1) := by decide +kernel
theorem dX13_meets_24 : decode cX13_meets 24 = .ok (.ireturn, 1) := by decide +kernel
theorem dX13_meets_25 : decode cX13_meets 25 = .ok (.aload_n 0, 1) := by decide +kernel
theorem dX13_meets_26 : decode cX13_meets 26 = .ok (.iload_n 1, 1) := by decide +kernel
theorem dX13_meets_27 : decode cX13_meets 27 = .ok (.iconst 4, 1) := by decide +kernel
theorem dX13_meets_28 : decode cX13_meets 28 = .ok (.invokevirtual 141, 3) := by decide +kernel
theorem dX13_meets_31 : decode cX13_meets 31 = .ok (.istore 5, 2) := by decide +kernel
theorem dX13_meets_33 : decode cX13_meets 33 = .ok (.iload 5, 2) := by decide +kernel
theorem dX13_meets_35 : decode cX13_meets 35 = .ok (.iload 4, 2) := by decide +kernel
theorem dX13_meets_37 : decode cX13_meets 37 = .ok (.aload_n 0, 1) := by decide +kernel
theorem dX13_meets_38 : decode cX13_meets 38 = .ok (.getfield 7, 3) := by decide +kernel
theorem dX13_meets_41 : decode cX13_meets 41 = .ok (.bipush 100, 2) := by decide +kernel
theorem dX13_meets_43 : decode cX13_meets 43 = .ok (.iload_n 2, 1) := by decide +kernel
theorem dX13_meets_44 : decode cX13_meets 44 = .ok (.iadd, 1) := by decide +kernel
theorem dX13_meets_45 : decode cX13_meets 45 = .ok (.iaload, 1) := by decide +kernel
theorem dX13_meets_46 : decode cX13_meets 46 = .ok (.iadd, 1) := by decide +kernel
theorem dX13_meets_47 : decode cX13_meets 47 = .ok (.if_icmp .ge 24, 3) := by decide +kernel
theorem dX13_meets_50 : decode cX13_meets 50 = .ok (.iload 4, 2) := by decide +kernel
theorem dX13_meets_52 : decode cX13_meets 52 = .ok (.iload 5, 2) := by decide +kernel
theorem dX13_meets_54 : decode cX13_meets 54 = .ok (.aload_n 0, 1) := by decide +kernel
theorem dX13_meets_55 : decode cX13_meets 55 = .ok (.getfield 7, 3) := by decide +kernel
theorem dX13_meets_58 : decode cX13_meets 58 = .ok (.bipush 100, 2) := by decide +kernel
theorem dX13_meets_60 : decode cX13_meets 60 = .ok (.iload_n 1, 1) := by decide +kernel
theorem dX13_meets_61 : decode cX13_meets 61 = .ok (.iadd, 1) := by decide +kernel
theorem dX13_meets_62 : decode cX13_meets 62 = .ok (.iaload, 1) := by decide +kernel
theorem dX13_meets_63 : decode cX13_meets 63 = .ok (.iadd, 1) := by decide +kernel
theorem dX13_meets_64 : decode cX13_meets 64 = .ok (.if_icmp .ge 7, 3) := by decide +kernel
theorem dX13_meets_67 : decode cX13_meets 67 = .ok (.iconst 1, 1) := by decide +kernel
theorem dX13_meets_68 : decode cX13_meets 68 = .ok (.goto 4, 3) := by decide +kernel
theorem dX13_meets_71 : decode cX13_meets 71 = .ok (.iconst 0, 1) := by decide +kernel
theorem dX13_meets_72 : decode cX13_meets 72 = .ok (.ireturn, 1) := by decide +kernel
theorem hd_X13_meets : yX13_meets.cls = RX13 ∧ yX13_meets.cls ≠ "java/lang/invoke/MethodHandle" ∧ yX13_meets.cls ≠ "java/lang/invoke/VarHandle" ∧ (parseMethodDescriptor yX13_meets.desc).map (fun d => d.parameters.length) = some 4 := by decide +kernel
theorem hs_X13_meets : yX13_meets.cls ≠ "java/lang/invoke/MethodHandle" ∧ yX13_meets.cls ≠ "java/lang/invoke/VarHandle" ∧ (parseMethodDescriptor yX13_meets.desc).map (fun d => d.parameters.length) = some 4 := by decide +kernel
set_option maxHeartbeats 4000000 in
set_option maxRecDepth 100000 in
theorem k_X13_meets (l : Launch) (E : Ev) (K : Kd) (z : Nat) (o : Nat) (a_1 : Int32) (a_2 : Int32) (a_3 : Int32) (a_4 : Int32) (w : Wd) (ho : K o = some (11, 0)) {r : Bool} {w' : Wd} (hf : f_X13_meets K o a_1 a_2 a_3 a_4 w = some (r, w')) : Met l yX13_meets (Cond.code yX13_meets cX13_meets 6 (Option.some Jvm.ClassFile.FieldType.boolean) :: bt) ({ frames := 3, cells := 0, slots := 0, locals := 65 } : Room) (va_Pc [rv E (some o), .int a_1, .int a_2, .int a_3, .int a_4] (HB E K w z)) (QI E K z w' (b2i r)) 0 0 (hA E) := by
  refine Met.ofW (cc := cX13_meets) (maxL := 6) (ret := (Option.some Jvm.ClassFile.FieldType.boolean)) (by decide) rfl ?_
  intro p e s m args below meth c s₁ B hml hv
  obtain ⟨rfl, hz, hP, hKs, hT, hb0⟩ := hv
  have C : CX p l e s m _ meth c cX13_meets 6 RX13 (Option.some Jvm.ClassFile.FieldType.boolean) E := ⟨B.exec, B.bytes, hml, findClass_of_methodNamed B.named, fun w h => atoms_spec (ws := Cond.code yX13_meets cX13_meets 6 (Option.some Jvm.ClassFile.FieldType.boolean) :: bt) B.pre w (List.mem_cons_of_mem _ h), hKs, hT, by rw [hz]; exact hb0, B.notSynchronized, B.returns⟩
  have hH : HQ E K z w s s.heap [] := ⟨hP, va_S.rf, hz⟩
  obtain ⟨hx, hb, hml, hown, hts, hKs, hT, hb0, hlocks, hret⟩ := id C
  have hl := lv_entry [rv E (some o), .int a_1, .int a_2, .int a_3, .int a_4] (n := 6) (by simp [lg_len_nil, lg_len_i, lg_len_j, lg_len_q, lg_len_f, lg_len_d, lg_len_r])
  rw [lg_entry_eq]
  generalize (lg_sl [rv E (some o), .int a_1, .int a_2, .int a_3, .int a_4] ++ List.replicate (6 - (lg_sl [rv E (some o), .int a_1, .int a_2, .int a_3, .int a_4]).length) Slot.unset).toArray = ls at hl ⊢
  replace hl : lv_has ls 6 [(0, rv E (some o)), (1, .int a_1), (2, .int a_2), (3, .int a_3), (4, .int a_4)] := by simpa only [lv_args, cat_q, cat_i, cat_j, reduceIte, Nat.reduceEqDiff, Nat.reduceAdd, Nat.zero_add] using hl
  generalize s.heap = H at hH ⊢
  unfold f_X13_meets at hf
  refine lv_iload_n hx hb dX13_meets_0 rfl (lv_at hl 1 rfl) ?_
  refine lv_iload_n hx hb dX13_meets_1 rfl (lv_at hl 2 rfl) ?_
  refine lv_icmp_eq (tgt := 23) hx hb dX13_meets_2 (by decide) (fun c1 => ?_) (fun c1 => ?_)
  · replace hf := (if_pos c1).symm.trans hf
    refine lv_iconst (v := 0) hx hb dX13_meets_23 (by decide) ?_
    exact hw_zret hx hb hret rfl hf hH hlocks dX13_meets_24
  · replace hf := (if_neg c1).symm.trans hf
    refine hl_aload_n hx hb dX13_meets_5 rfl (lv_at hl 0 rfl) ?_
    refine lv_iload_n hx hb dX13_meets_6 rfl (lv_at hl 1 rfl) ?_
    obtain ⟨q2, hq2, hf⟩ := bnd hf
    refine hcV_i hx hb hml hown hts hKs hT hb0 hH (As := [.int a_1]) (rest := []) (k_X13_hasHearing l E K H.size o a_1 w ho hq2) (gV m7_155 m7_157 ms_57 m1_16 m7_158) hd_X13_hasHearing ⟨Nat.le_of_ble_eq_true rfl, Nat.le_of_ble_eq_true rfl, rfl, rfl⟩ rfl ho rfl rfl rfl hl.1 rfl rc0 rfl dX13_meets_7 ⟨Nat.zero_le _, Nat.zero_le _⟩ (fun H locs hH => ?_)
    refine lv_if_eq (tgt := 23) hx hb dX13_meets_10 (by decide) (fun c3 => ?_) (fun c3 => ?_)
    · replace hf := (if_pos c3).symm.trans hf
      refine lv_iconst (v := 0) hx hb dX13_meets_23 (by decide) ?_
      exact hw_zret hx hb hret rfl hf hH hlocks dX13_meets_24
    · replace hf := (if_neg c3).symm.trans hf
      refine hl_aload_n hx hb dX13_meets_13 rfl (lv_at hl 0 rfl) ?_
      refine lv_iload_n hx hb dX13_meets_14 rfl (lv_at hl 1 rfl) ?_
      refine lv_iconst (v := 3) hx hb dX13_meets_15 (by decide) ?_
      obtain ⟨q4, hq4, hf⟩ := bnd hf
      refine hcV_i hx hb hml hown hts hKs hT hb0 hH (As := [.int a_1, .int 3]) (rest := []) (k_X13_of l E K H.size o a_1 3 q2.2 ho hq4) (gV m7_126 m7_128 ms_54 m1_16 m7_129) hd_X13_of ⟨Nat.le_of_ble_eq_true rfl, Nat.le_of_ble_eq_true rfl, rfl, rfl⟩ rfl ho rfl rfl rfl hl.1 rfl rc0 rfl dX13_meets_16 ⟨Nat.zero_le _, Nat.zero_le _⟩ (fun H locs hH => ?_)
      refine lv_iload_n hx hb dX13_meets_19 rfl (lv_at hl 3 rfl) ?_
      refine lv_icmp_eq (tgt := 25) hx hb dX13_meets_20 (by decide) (fun c5 => ?_) (fun c5 => ?_)
      · replace hf := (if_pos c5).symm.trans hf
        refine hl_aload_n hx hb dX13_meets_25 rfl (lv_at hl 0 rfl) ?_
        refine lv_iload_n hx hb dX13_meets_26 rfl (lv_at hl 1 rfl) ?_
        refine lv_iconst (v := 4) hx hb dX13_meets_27 (by decide) ?_
        obtain ⟨q6, hq6, hf⟩ := bnd hf
        refine hcV_i hx hb hml hown hts hKs hT hb0 hH (As := [.int a_1, .int 4]) (rest := []) (k_X13_of l E K H.size o a_1 4 q4.2 ho hq6) (gV m7_126 m7_128 ms_54 m1_16 m7_129) hd_X13_of ⟨Nat.le_of_ble_eq_true rfl, Nat.le_of_ble_eq_true rfl, rfl, rfl⟩ rfl ho rfl rfl rfl hl.1 rfl rc0 rfl dX13_meets_28 ⟨Nat.zero_le _, Nat.zero_le _⟩ (fun H locs hH => ?_)
        refine lv_istore (i := 5) (lv' := [(5, .int (q6.1)), (0, rv E (some o)), (1, .int a_1), (2, .int a_2), (3, .int a_3), (4, .int a_4)]) hx hb dX13_meets_31 hl (by decide) rfl (fun ls hl => ?_)
        refine lv_iload hx hb dX13_meets_33 (lv_at hl 0 rfl) ?_
        refine lv_iload hx hb dX13_meets_35 (lv_at hl 5 rfl) ?_
        refine hl_aload_n hx hb dX13_meets_37 rfl (lv_at hl 1 rfl) ?_
        refine g13_1 hx hb hts hown hKs hH rfl ho m6_182 dX13_meets_38 ?_
        refine lv_bipush (v := 100) hx hb dX13_meets_41 (by decide) ?_
        refine lv_iload_n hx hb dX13_meets_43 rfl (lv_at hl 3 rfl) ?_
        refine lv_iadd hx hb dX13_meets_44 ?_
        obtain ⟨a7, ha7, hf⟩ := bnd hf
        replace ha7 := cha_some ha7
        obtain ⟨j8, hj8, hf⟩ := bnd hf
        refine hw_iald hx hb hKs hH ha7.1 ha7.2 hj8 dX13_meets_45 ?_
        refine lv_iadd hx hb dX13_meets_46 ?_
        refine lv_icmp_ge (tgt := 71) hx hb dX13_meets_47 (by decide) (fun c9 => ?_) (fun c9 => ?_)
        · replace hf := (if_pos c9).symm.trans hf
          refine lv_iconst (v := 0) hx hb dX13_meets_71 (by decide) ?_
          exact hw_zret hx hb hret rfl hf hH hlocks dX13_meets_72
        · replace hf := (if_neg c9).symm.trans hf
          refine lv_iload hx hb dX13_meets_50 (lv_at hl 5 rfl) ?_
          refine lv_iload hx hb dX13_meets_52 (lv_at hl 0 rfl) ?_
          refine hl_aload_n hx hb dX13_meets_54 rfl (lv_at hl 1 rfl) ?_
          refine g13_1 hx hb hts hown hKs hH rfl ho m6_182 dX13_meets_55 ?_
          refine lv_bipush (v := 100) hx hb dX13_meets_58 (by decide) ?_
          refine lv_iload_n hx hb dX13_meets_60 rfl (lv_at hl 2 rfl) ?_
          refine lv_iadd hx hb dX13_meets_61 ?_
          obtain ⟨j10, hj10, hf⟩ := bnd hf
          refine hw_iald hx hb hKs hH ha7.1 ha7.2 hj10 dX13_meets_62 ?_
          refine lv_iadd hx hb dX13_meets_63 ?_
          refine lv_icmp_ge (tgt := 71) hx hb dX13_meets_64 (by decide) (fun c11 => ?_) (fun c11 => ?_)
          · replace hf := (if_pos c11).symm.trans hf
            refine lv_iconst (v := 0) hx hb dX13_meets_71 (by decide) ?_
            exact hw_zret hx hb hret rfl hf hH hlocks dX13_meets_72
          · replace hf := (if_neg c11).symm.trans hf
            refine lv_iconst (v := 1) hx hb dX13_meets_67 (by decide) ?_
            refine lv_goto (tgt := 72) hx hb dX13_meets_68 (by decide) ?_
            exact hw_zret hx hb hret rfl hf hH hlocks dX13_meets_72
      · replace hf := (if_neg c5).symm.trans hf
        refine lv_iconst (v := 0) hx hb dX13_meets_23 (by decide) ?_
        exact hw_zret hx hb hret rfl hf hH hlocks dX13_meets_24

theorem dX13_isOffOn_0 : decode cX13_isOffOn 0 = .ok (.iconst 0, 1) := by decide +kernel
theorem dX13_isOffOn_1 : decode cX13_isOffOn 1 = .ok (.istore_n 3, 1) := by decide +kernel
theorem dX13_isOffOn_2 : decode cX13_isOffOn 2 = .ok (.iload_n 3, 1) := by decide +kernel
theorem dX13_isOffOn_3 : decode cX13_isOffOn 3 = .ok (.aload_n 0, 1) := by decide +kernel
theorem dX13_isOffOn_4 : decode cX13_isOffOn 4 = .ok (.getfield 7, 3) := by decide +kernel
theorem dX13_isOffOn_7 : decode cX13_isOffOn 7 = .ok (.bipush 10, 2) := by decide +kernel
theorem dX13_isOffOn_9 : decode cX13_isOffOn 9 = .ok (.iload_n 1, 1) := by decide +kernel
theorem dX13_isOffOn_10 : decode cX13_isOffOn 10 = .ok (.iadd, 1) := by decide +kernel
theorem dX13_isOffOn_11 : decode cX13_isOffOn 11 = .ok (.iaload, 1) := by decide +kernel
theorem dX13_isOffOn_12 : decode cX13_isOffOn 12 = .ok (.if_icmp .ge 55, 3) := by decide +kernel
theorem dX13_isOffOn_15 : decode cX13_isOffOn 15 = .ok (.iload_n 2, 1) := by decide +kernel
theorem dX13_isOffOn_16 : decode cX13_isOffOn 16 = .ok (.i2l, 1) := by decide +kernel
theorem dX13_isOffOn_17 : decode cX13_isOffOn 17 = .ok (.aload_n 0, 1) := by decide +kernel
theorem dX13_isOffOn_18 : decode cX13_isOffOn 18 = .ok (.getfield 7, 3) := by decide +kernel
theorem dX13_isOffOn_21 : decode cX13_isOffOn 21 = .ok (.bipush 16, 2) := by decide +kernel
theorem dX13_isOffOn_23 : decode cX13_isOffOn 23 = .ok (.bipush 6, 2) := by decide +kernel
theorem dX13_isOffOn_25 : decode cX13_isOffOn 25 = .ok (.iload_n 1, 1) := by decide +kernel
theorem dX13_isOffOn_26 : decode cX13_isOffOn 26 = .ok (.imul, 1) := by decide +kernel
theorem dX13_isOffOn_27 : decode cX13_isOffOn 27 = .ok (.iadd, 1) := by decide +kernel
theorem dX13_isOffOn_28 : decode cX13_isOffOn 28 = .ok (.iconst 2, 1) := by decide +kernel
theorem dX13_isOffOn_29 : decode cX13_isOffOn 29 = .ok (.iload_n 3, 1) := by decide +kernel
theorem dX13_isOffOn_30 : decode cX13_isOffOn 30 = .ok (.imul, 1) := by decide +kernel
theorem dX13_isOffOn_31 : decode cX13_isOffOn 31 = .ok (.iadd, 1) := by decide +kernel
theorem dX13_isOffOn_32 : decode cX13_isOffOn 32 = .ok (.iaload, 1) := by decide +kernel
theorem dX13_isOffOn_33 : decode cX13_isOffOn 33 = .ok (.i2l, 1) := by decide +kernel
theorem dX13_isOffOn_34 : decode cX13_isOffOn 34 = .ok (.aload_n 0, 1) := by decide +kernel
theorem dX13_isOffOn_35 : decode cX13_isOffOn 35 = .ok (.getfield 7, 3) := by decide +kernel
theorem dX13_isOffOn_38 : decode cX13_isOffOn 38 = .ok (.bipush 16, 2) := by decide +kernel
theorem dX13_isOffOn_40 : decode cX13_isOffOn 40 = .ok (.bipush 6, 2) := by decide +kernel
theorem dX13_isOffOn_42 : decode cX13_isOffOn 42 = .ok (.iload_n 1, 1) := by decide +kernel
theorem dX13_isOffOn_43 : decode cX13_isOffOn 43 = .ok (.imul, 1) := by decide +kernel
theorem dX13_isOffOn_44 : decode cX13_isOffOn 44 = .ok (.iadd, 1) := by decide +kernel
theorem dX13_isOffOn_45 : decode cX13_isOffOn 45 = .ok (.iconst 2, 1) := by decide +kernel
theorem dX13_isOffOn_46 : decode cX13_isOffOn 46 = .ok (.iload_n 3, 1) := by decide +kernel
theorem dX13_isOffOn_47 : decode cX13_isOffOn 47 = .ok (.imul, 1) := by decide +kernel
theorem dX13_isOffOn_48 : decode cX13_isOffOn 48 = .ok (.iadd, 1) := by decide +kernel
theorem dX13_isOffOn_49 : decode cX13_isOffOn 49 = .ok (.iconst 1, 1) := by decide +kernel
theorem dX13_isOffOn_50 : decode cX13_isOffOn 50 = .ok (.iadd, 1) := by decide +kernel
theorem dX13_isOffOn_51 : decode cX13_isOffOn 51 = .ok (.iaload, 1) := by decide +kernel
theorem dX13_isOffOn_52 : decode cX13_isOffOn 52 = .ok (.i2l, 1) := by decide +kernel
theorem dX13_isOffOn_53 : decode cX13_isOffOn 53 = .ok (.invokestatic 123, 3) := by decide +kernel
theorem dX13_isOffOn_56 : decode cX13_isOffOn 56 = .ok (.ifCond .eq 5, 3) := by decide +kernel
theorem dX13_isOffOn_59 : decode cX13_isOffOn 59 = .ok (.iconst 1, 1) := by decide +kernel
theorem dX13_isOffOn_60 : decode cX13_isOffOn 60 = .ok (.ireturn, 1) := by decide +kernel
theorem dX13_isOffOn_61 : decode cX13_isOffOn 61 = .ok (.iinc 3 1, 3) := by decide +kernel
theorem dX13_isOffOn_64 : decode cX13_isOffOn 64 = .ok (.goto (-62), 3) := by decide +kernel
theorem dX13_isOffOn_67 : decode cX13_isOffOn 67 = .ok (.iload_n 1, 1) := by decide +kernel
theorem dX13_isOffOn_68 : decode cX13_isOffOn 68 = .ok (.aload_n 0, 1) := by decide +kernel
theorem dX13_isOffOn_69 : decode cX13_isOffOn 69 = .ok (.getfield 47, 3) := by decide +kernel
theorem dX13_isOffOn_72 : decode cX13_isOffOn 72 = .ok (.if_icmp .ne 7, 3) := by decide +kernel
theorem dX13_isOffOn_75 : decode cX13_isOffOn 75 = .ok (.iconst 1, 1) := by decide +kernel
theorem dX13_isOffOn_76 : decode cX13_isOffOn 76 = .ok (.goto 4, 3) := by decide +kernel
theorem dX13_isOffOn_79 : decode cX13_isOffOn 79 = .ok (.iconst 0, 1) := by decide +kernel
theorem dX13_isOffOn_80 : decode cX13_isOffOn 80 = .ok (.ireturn, 1) := by decide +kernel
theorem hd_X13_isOffOn : yX13_isOffOn.cls = RX13 ∧ yX13_isOffOn.cls ≠ "java/lang/invoke/MethodHandle" ∧ yX13_isOffOn.cls ≠ "java/lang/invoke/VarHandle" ∧ (parseMethodDescriptor yX13_isOffOn.desc).map (fun d => d.parameters.length) = some 2 := by decide +kernel
theorem hs_X13_isOffOn : yX13_isOffOn.cls ≠ "java/lang/invoke/MethodHandle" ∧ yX13_isOffOn.cls ≠ "java/lang/invoke/VarHandle" ∧ (parseMethodDescriptor yX13_isOffOn.desc).map (fun d => d.parameters.length) = some 2 := by decide +kernel
set_option maxHeartbeats 4000000 in
set_option maxRecDepth 100000 in
theorem l_X13_isOffOn_L2 (C : CX p l e s m args meth c cX13_isOffOn 4 RX13 (Option.some Jvm.ClassFile.FieldType.boolean) E) {o : Nat} (ho : K o = some (11, 0)) {r : Bool} {w' : Wd} (k : Int32 → Int32 → Int32 → Wd → Option (Bool × Wd)) (hk : ∀ (v1_2 : Int32) (v2_2 : Int32) (v3_2 : Int32) (w : Wd) (H : Heap) (locs : List Loc) (ls : Array Slot), HQ E K z w s H locs → lv_has ls 4 [(1, .int v1_2), (2, .int v2_2), (3, .int v3_2), (0, rv E (some o))] → k v1_2 v2_2 v3_2 w = some (r, w') → W p l e ({ frames := 1, cells := 0, slots := 0, locals := 25 } : Room) s m args below meth c H locs 0 0 (MQ below (QI E K z w' (b2i r)) args s 0 0 (hA E)) (F0 m 67 ls [])) : ∀ (n : Nat) (v1_2 : Int32) (v2_2 : Int32) (v3_2 : Int32) (w : Wd) (H : Heap) (locs : List Loc) (ls : Array Slot), HQ E K z w s H locs → lv_has ls 4 [(1, .int v1_2), (2, .int v2_2), (3, .int v3_2), (0, rv E (some o))] → f_X13_isOffOn_L2 K o k n v1_2 v2_2 v3_2 w = some (r, w') → W p l e ({ frames := 1, cells := 0, slots := 0, locals := 25 } : Room) s m args below meth c H locs 0 0 (MQ below (QI E K z w' (b2i r)) args s 0 0 (hA E)) (F0 m 2 ls []) := by
  obtain ⟨hx, hb, hml, hown, hts, hKs, hT, hb0, hlocks, hret⟩ := id C
  intro n
  induction n with
  | zero =>
    intro v1_2 v2_2 v3_2 w H locs ls hH hl hf
    cases hf
  | succ n ih =>
    intro v1_2 v2_2 v3_2 w H locs ls hH hl hf
    rw [f_X13_isOffOn_L2] at hf
    refine lv_iload_n hx hb dX13_isOffOn_2 rfl (lv_at hl 2 rfl) ?_
    refine hl_aload_n hx hb dX13_isOffOn_3 rfl (lv_at hl 3 rfl) ?_
    refine g13_1 hx hb hts hown hKs hH rfl ho m6_182 dX13_isOffOn_4 ?_
    refine lv_bipush (v := 10) hx hb dX13_isOffOn_7 (by decide) ?_
    refine lv_iload_n hx hb dX13_isOffOn_9 rfl (lv_at hl 0 rfl) ?_
    refine lv_iadd hx hb dX13_isOffOn_10 ?_
    obtain ⟨a2, ha2, hf⟩ := bnd hf
    replace ha2 := cha_some ha2
    obtain ⟨j3, hj3, hf⟩ := bnd hf
    refine hw_iald hx hb hKs hH ha2.1 ha2.2 hj3 dX13_isOffOn_11 ?_
    refine lv_icmp_ge (tgt := 67) hx hb dX13_isOffOn_12 (by decide) (fun c4 => ?_) (fun c4 => ?_)
    · replace hf := (if_pos c4).symm.trans hf
      exact hk v1_2 v2_2 v3_2 _ _ _ _ hH (lv_sub hl [0, 1, 2, 3] rfl) hf
    · replace hf := (if_neg c4).symm.trans hf
      refine lv_iload_n hx hb dX13_isOffOn_15 rfl (lv_at hl 1 rfl) ?_
      refine lv_i2l (v := (v2_2.toInt64)) hx hb dX13_isOffOn_16 rfl ?_
      refine hl_aload_n hx hb dX13_isOffOn_17 rfl (lv_at hl 3 rfl) ?_
      refine g13_1 hx hb hts hown hKs hH rfl ho m6_182 dX13_isOffOn_18 ?_
      refine lv_bipush (v := 16) hx hb dX13_isOffOn_21 (by decide) ?_
      refine lv_bipush (v := 6) hx hb dX13_isOffOn_23 (by decide) ?_
      refine lv_iload_n hx hb dX13_isOffOn_25 rfl (lv_at hl 0 rfl) ?_
      refine lv_imul hx hb dX13_isOffOn_26 ?_
      refine lv_iadd hx hb dX13_isOffOn_27 ?_
      refine lv_iconst (v := 2) hx hb dX13_isOffOn_28 (by decide) ?_
      refine lv_iload_n hx hb dX13_isOffOn_29 rfl (lv_at hl 2 rfl) ?_
      refine lv_imul hx hb dX13_isOffOn_30 ?_
      refine lv_iadd hx hb dX13_isOffOn_31 ?_
      obtain ⟨j5, hj5, hf⟩ := bnd hf
      refine hw_iald hx hb hKs hH ha2.1 ha2.2 hj5 dX13_isOffOn_32 ?_
      refine lv_i2l (v := ((aI w a2.1 j5).toInt64)) hx hb dX13_isOffOn_33 rfl ?_
      refine hl_aload_n hx hb dX13_isOffOn_34 rfl (lv_at hl 3 rfl) ?_
      refine g13_1 hx hb hts hown hKs hH rfl ho m6_182 dX13_isOffOn_35 ?_
      refine lv_bipush (v := 16) hx hb dX13_isOffOn_38 (by decide) ?_
      refine lv_bipush (v := 6) hx hb dX13_isOffOn_40 (by decide) ?_
      refine lv_iload_n hx hb dX13_isOffOn_42 rfl (lv_at hl 0 rfl) ?_
      refine lv_imul hx hb dX13_isOffOn_43 ?_
      refine lv_iadd hx hb dX13_isOffOn_44 ?_
      refine lv_iconst (v := 2) hx hb dX13_isOffOn_45 (by decide) ?_
      refine lv_iload_n hx hb dX13_isOffOn_46 rfl (lv_at hl 2 rfl) ?_
      refine lv_imul hx hb dX13_isOffOn_47 ?_
      refine lv_iadd hx hb dX13_isOffOn_48 ?_
      refine lv_iconst (v := 1) hx hb dX13_isOffOn_49 (by decide) ?_
      refine lv_iadd hx hb dX13_isOffOn_50 ?_
      obtain ⟨j6, hj6, hf⟩ := bnd hf
      refine hw_iald hx hb hKs hH ha2.1 ha2.2 hj6 dX13_isOffOn_51 ?_
      refine lv_i2l (v := ((aI w a2.1 j6).toInt64)) hx hb dX13_isOffOn_52 rfl ?_
      obtain ⟨q7, hq7, hf⟩ := bnd hf
      refine hcS_i hx hb hml hown hts hKs hT hb0 hH (As := [.long (v2_2.toInt64), .long ((aI w a2.1 j5).toInt64), .long ((aI w a2.1 j6).toInt64)]) (rest := []) (k_X13_isIn l E K H.size (v2_2.toInt64) ((aI w a2.1 j5).toInt64) ((aI w a2.1 j6).toInt64) w hq7) (gS m7_88 m7_89 m1_16 m7_90) hs_X13_isIn ⟨Nat.le_of_ble_eq_true rfl, Nat.le_of_ble_eq_true rfl, rfl, rfl⟩ hl.1 rfl rc0 rfl dX13_isOffOn_53 ⟨Nat.zero_le _, Nat.zero_le _⟩ (fun H locs hH => ?_)
      refine lv_if_eq (tgt := 61) hx hb dX13_isOffOn_56 (by decide) (fun c8 => ?_) (fun c8 => ?_)
      · replace hf := (if_pos c8).symm.trans hf
        refine lv_iinc (v := (v3_2 + 1)) (lv' := [(3, .int ((v3_2 + 1))), (1, .int v1_2), (2, .int v2_2), (0, rv E (some o))]) hx hb dX13_isOffOn_61 hl (k := 2) rfl rfl (by decide) rfl (fun ls hl => ?_)
        refine lv_goto (tgt := 2) hx hb dX13_isOffOn_64 (by decide) ?_
        exact ih v1_2 v2_2 (v3_2 + 1) _ _ _ _ hH (lv_sub hl [1, 2, 0, 3] rfl) hf
      · replace hf := (if_neg c8).symm.trans hf
        refine lv_iconst (v := 1) hx hb dX13_isOffOn_59 (by decide) ?_
        exact hw_zret hx hb hret rfl hf hH hlocks dX13_isOffOn_60
set_option maxHeartbeats 4000000 in
set_option maxRecDepth 100000 in
theorem k_X13_isOffOn (l : Launch) (E : Ev) (K : Kd) (z : Nat) (o : Nat) (a_1 : Int32) (a_2 : Int32) (w : Wd) (ho : K o = some (11, 0)) {r : Bool} {w' : Wd} (hf : f_X13_isOffOn K o a_1 a_2 w = some (r, w')) : Met l yX13_isOffOn (Cond.code yX13_isOffOn cX13_isOffOn 4 (Option.some Jvm.ClassFile.FieldType.boolean) :: bt) ({ frames := 1, cells := 0, slots := 0, locals := 25 } : Room) (va_Pc [rv E (some o), .int a_1, .int a_2] (HB E K w z)) (QI E K z w' (b2i r)) 0 0 (hA E) := by
  refine Met.ofW (cc := cX13_isOffOn) (maxL := 4) (ret := (Option.some Jvm.ClassFile.FieldType.boolean)) (by decide) rfl ?_
  intro p e s m args below meth c s₁ B hml hv
  obtain ⟨rfl, hz, hP, hKs, hT, hb0⟩ := hv
  have C : CX p l e s m _ meth c cX13_isOffOn 4 RX13 (Option.some Jvm.ClassFile.FieldType.boolean) E := ⟨B.exec, B.bytes, hml, findClass_of_methodNamed B.named, fun w h => atoms_spec (ws := Cond.code yX13_isOffOn cX13_isOffOn 4 (Option.some Jvm.ClassFile.FieldType.boolean) :: bt) B.pre w (List.mem_cons_of_mem _ h), hKs, hT, by rw [hz]; exact hb0, B.notSynchronized, B.returns⟩
  have hH : HQ E K z w s s.heap [] := ⟨hP, va_S.rf, hz⟩
  obtain ⟨hx, hb, hml, hown, hts, hKs, hT, hb0, hlocks, hret⟩ := id C
  have hl := lv_entry [rv E (some o), .int a_1, .int a_2] (n := 4) (by simp [lg_len_nil, lg_len_i, lg_len_j, lg_len_q, lg_len_f, lg_len_d, lg_len_r])
  rw [lg_entry_eq]
  generalize (lg_sl [rv E (some o), .int a_1, .int a_2] ++ List.replicate (4 - (lg_sl [rv E (some o), .int a_1, .int a_2]).length) Slot.unset).toArray = ls at hl ⊢
  replace hl : lv_has ls 4 [(0, rv E (some o)), (1, .int a_1), (2, .int a_2)] := by simpa only [lv_args, cat_q, cat_i, cat_j, reduceIte, Nat.reduceEqDiff, Nat.reduceAdd, Nat.zero_add] using hl
  generalize s.heap = H at hH ⊢
  unfold f_X13_isOffOn at hf
  refine lv_iconst (v := 0) hx hb dX13_isOffOn_0 (by decide) ?_
  refine lv_istore_n (i := 3) (lv' := [(3, .int 0), (0, rv E (some o)), (1, .int a_1), (2, .int a_2)]) hx hb dX13_isOffOn_1 rfl hl (by decide) rfl (fun ls hl => ?_)
  refine l_X13_isOffOn_L2  C ho _ (fun v1_2 v2_2 v3_2 w1 H locs ls hH hl hf => ?_) fu a_1 a_2 0 w _ _ _ hH (lv_sub hl [2, 3, 0, 1] rfl) hf
  refine lv_iload_n hx hb dX13_isOffOn_67 rfl (lv_at hl 0 rfl) ?_
  refine hl_aload_n hx hb dX13_isOffOn_68 rfl (lv_at hl 3 rfl) ?_
  refine g13_15 hx hb hts hown hKs hH rfl ho m6_196 dX13_isOffOn_69 ?_
  refine lv_icmp_ne (tgt := 79) hx hb dX13_isOffOn_72 (by decide) (fun c9 => ?_) (fun c9 => ?_)
  · replace hf := (if_neg c9).symm.trans hf
    refine lv_iconst (v := 0) hx hb dX13_isOffOn_79 (by decide) ?_
    exact hw_zret hx hb hret rfl hf hH hlocks dX13_isOffOn_80
  · replace hf := (if_pos c9).symm.trans hf
    refine lv_iconst (v := 1) hx hb dX13_isOffOn_75 (by decide) ?_
    refine lv_goto (tgt := 80) hx hb dX13_isOffOn_76 (by decide) ?_
    exact hw_zret hx hb hret rfl hf hH hlocks dX13_isOffOn_80

theorem dX13_isBarredFrom_0 : decode cX13_isBarredFrom 0 = .ok (.aload_n 0, 1) := by decide +kernel
theorem dX13_isBarredFrom_1 : decode cX13_isBarredFrom 1 = .ok (.getfield 16, 3) := by decide +kernel
theorem dX13_isBarredFrom_4 : decode cX13_isBarredFrom 4 = .ok (.bipush 34, 2) := by decide +kernel
theorem dX13_isBarredFrom_6 : decode cX13_isBarredFrom 6 = .ok (.iload_n 2, 1) := by decide +kernel
theorem dX13_isBarredFrom_7 : decode cX13_isBarredFrom 7 = .ok (.iadd, 1) := by decide +kernel
theorem dX13_isBarredFrom_8 : decode cX13_isBarredFrom 8 = .ok (.iaload, 1) := by decide +kernel
theorem dX13_isBarredFrom_9 : decode cX13_isBarredFrom 9 = .ok (.iload_n 1, 1) := by decide +kernel
theorem dX13_isBarredFrom_10 : decode cX13_isBarredFrom 10 = .ok (.invokestatic 167, 3) := by decide +kernel
theorem dX13_isBarredFrom_13 : decode cX13_isBarredFrom 13 = .ok (.ifCond .eq 5, 3) := by decide +kernel
theorem dX13_isBarredFrom_16 : decode cX13_isBarredFrom 16 = .ok (.iconst 1, 1) := by decide +kernel
theorem dX13_isBarredFrom_17 : decode cX13_isBarredFrom 17 = .ok (.ireturn, 1) := by decide +kernel
theorem dX13_isBarredFrom_18 : decode cX13_isBarredFrom 18 = .ok (.iconst 0, 1) := by decide +kernel
theorem dX13_isBarredFrom_19 : decode cX13_isBarredFrom 19 = .ok (.istore_n 3, 1) := by decide +kernel
theorem dX13_isBarredFrom_20 : decode cX13_isBarredFrom 20 = .ok (.iload_n 3, 1) := by decide +kernel
theorem dX13_isBarredFrom_21 : decode cX13_isBarredFrom 21 = .ok (.aload_n 0, 1) := by decide +kernel
theorem dX13_isBarredFrom_22 : decode cX13_isBarredFrom 22 = .ok (.getfield 7, 3) := by decide +kernel
theorem dX13_isBarredFrom_25 : decode cX13_isBarredFrom 25 = .ok (.iconst 3, 1) := by decide +kernel
theorem dX13_isBarredFrom_26 : decode cX13_isBarredFrom 26 = .ok (.iaload, 1) := by decide +kernel
theorem dX13_isBarredFrom_27 : decode cX13_isBarredFrom 27 = .ok (.if_icmp .ge 47, 3) := by decide +kernel
theorem dX13_isBarredFrom_30 : decode cX13_isBarredFrom 30 = .ok (.aload_n 0, 1) := by decide +kernel
theorem dX13_isBarredFrom_31 : decode cX13_isBarredFrom 31 = .ok (.getfield 7, 3) := by decide +kernel
theorem dX13_isBarredFrom_34 : decode cX13_isBarredFrom 34 = .ok (.sipush 148, 3) := by decide +kernel
theorem dX13_isBarredFrom_37 : decode cX13_isBarredFrom 37 = .ok (.iload_n 2, 1) := by decide +kernel
theorem dX13_isBarredFrom_38 : decode cX13_isBarredFrom 38 = .ok (.iadd, 1) := by decide +kernel
theorem dX13_isBarredFrom_39 : decode cX13_isBarredFrom 39 = .ok (.iaload, 1) := by decide +kernel
theorem dX13_isBarredFrom_40 : decode cX13_isBarredFrom 40 = .ok (.iload_n 3, 1) := by decide +kernel
theorem dX13_isBarredFrom_41 : decode cX13_isBarredFrom 41 = .ok (.invokestatic 167, 3) := by decide +kernel
theorem dX13_isBarredFrom_44 : decode cX13_isBarredFrom 44 = .ok (.ifCond .eq 24, 3) := by decide +kernel
theorem dX13_isBarredFrom_47 : decode cX13_isBarredFrom 47 = .ok (.aload_n 0, 1) := by decide +kernel
theorem dX13_isBarredFrom_48 : decode cX13_isBarredFrom 48 = .ok (.iload_n 3, 1) := by decide +kernel
theorem dX13_isBarredFrom_49 : decode cX13_isBarredFrom 49 = .ok (.invokevirtual 164, 3) := by decide +kernel
theorem dX13_isBarredFrom_52 : decode cX13_isBarredFrom 52 = .ok (.ifCond .eq 16, 3) := by decide +kernel
theorem dX13_isBarredFrom_55 : decode cX13_isBarredFrom 55 = .ok (.aload_n 0, 1) := by decide +kernel
theorem dX13_isBarredFrom_56 : decode cX13_isBarredFrom 56 = .ok (.iload_n 3, 1) := by decide +kernel
theorem dX13_isBarredFrom_57 : decode cX13_isBarredFrom 57 = .ok (.bipush 6, 2) := by decide +kernel
theorem dX13_isBarredFrom_59 : decode cX13_isBarredFrom 59 = .ok (.invokevirtual 141, 3) := by decide +kernel
theorem dX13_isBarredFrom_62 : decode cX13_isBarredFrom 62 = .ok (.iload_n 1, 1) := by decide +kernel
theorem dX13_isBarredFrom_63 : decode cX13_isBarredFrom 63 = .ok (.if_icmp .ne 5, 3) := by decide +kernel
theorem dX13_isBarredFrom_66 : decode cX13_isBarredFrom 66 = .ok (.iconst 1, 1) := by decide +kernel
theorem dX13_isBarredFrom_67 : decode cX13_isBarredFrom 67 = .ok (.ireturn, 1) := by decide +kernel
theorem dX13_isBarredFrom_68 : decode cX13_isBarredFrom 68 = .ok (.iinc 3 1, 3) := by decide +kernel
theorem dX13_isBarredFrom_71 : decode cX13_isBarredFrom 71 = .ok (.goto (-51), 3) := by decide +kernel
theorem dX13_isBarredFrom_74 : decode cX13_isBarredFrom 74 = .ok (.iconst 0, 1) := by decide +kernel
theorem dX13_isBarredFrom_75 : decode cX13_isBarredFrom 75 = .ok (.ireturn, 1) := by decide +kernel
theorem hd_X13_isBarredFrom : yX13_isBarredFrom.cls = RX13 ∧ yX13_isBarredFrom.cls ≠ "java/lang/invoke/MethodHandle" ∧ yX13_isBarredFrom.cls ≠ "java/lang/invoke/VarHandle" ∧ (parseMethodDescriptor yX13_isBarredFrom.desc).map (fun d => d.parameters.length) = some 2 := by decide +kernel
theorem hs_X13_isBarredFrom : yX13_isBarredFrom.cls ≠ "java/lang/invoke/MethodHandle" ∧ yX13_isBarredFrom.cls ≠ "java/lang/invoke/VarHandle" ∧ (parseMethodDescriptor yX13_isBarredFrom.desc).map (fun d => d.parameters.length) = some 2 := by decide +kernel
set_option maxHeartbeats 4000000 in
set_option maxRecDepth 100000 in
theorem l_X13_isBarredFrom_L20 (C : CX p l e s m args meth c cX13_isBarredFrom 4 RX13 (Option.some Jvm.ClassFile.FieldType.boolean) E) {o : Nat} (ho : K o = some (11, 0)) {r : Bool} {w' : Wd} (k : Int32 → Int32 → Int32 → Wd → Option (Bool × Wd)) (hk : ∀ (v1_20 : Int32) (v2_20 : Int32) (v3_20 : Int32) (w : Wd) (H : Heap) (locs : List Loc) (ls : Array Slot), HQ E K z w s H locs → lv_has ls 4 [(1, .int v1_20), (2, .int v2_20), (3, .int v3_20), (0, rv E (some o))] → k v1_20 v2_20 v3_20 w = some (r, w') → W p l e ({ frames := 3, cells := 0, slots := 0, locals := 65 } : Room) s m args below meth c H locs 0 0 (MQ below (QI E K z w' (b2i r)) args s 0 0 (hA E)) (F0 m 74 ls [])) : ∀ (n : Nat) (v1_20 : Int32) (v2_20 : Int32) (v3_20 : Int32) (w : Wd) (H : Heap) (locs : List Loc) (ls : Array Slot), HQ E K z w s H locs → lv_has ls 4 [(1, .int v1_20), (2, .int v2_20), (3, .int v3_20), (0, rv E (some o))] → f_X13_isBarredFrom_L20 K o k n v1_20 v2_20 v3_20 w = some (r, w') → W p l e ({ frames := 3, cells := 0, slots := 0, locals := 65 } : Room) s m args below meth c H locs 0 0 (MQ below (QI E K z w' (b2i r)) args s 0 0 (hA E)) (F0 m 20 ls []) := by
  obtain ⟨hx, hb, hml, hown, hts, hKs, hT, hb0, hlocks, hret⟩ := id C
  intro n
  induction n with
  | zero =>
    intro v1_20 v2_20 v3_20 w H locs ls hH hl hf
    cases hf
  | succ n ih =>
    intro v1_20 v2_20 v3_20 w H locs ls hH hl hf
    rw [f_X13_isBarredFrom_L20] at hf
    refine lv_iload_n hx hb dX13_isBarredFrom_20 rfl (lv_at hl 2 rfl) ?_
    refine hl_aload_n hx hb dX13_isBarredFrom_21 rfl (lv_at hl 3 rfl) ?_
    refine g13_1 hx hb hts hown hKs hH rfl ho m6_182 dX13_isBarredFrom_22 ?_
    refine lv_iconst (v := 3) hx hb dX13_isBarredFrom_25 (by decide) ?_
    obtain ⟨a6, ha6, hf⟩ := bnd hf
    replace ha6 := cha_some ha6
    obtain ⟨j7, hj7, hf⟩ := bnd hf
    refine hw_iald hx hb hKs hH ha6.1 ha6.2 hj7 dX13_isBarredFrom_26 ?_
    refine lv_icmp_ge (tgt := 74) hx hb dX13_isBarredFrom_27 (by decide) (fun c8 => ?_) (fun c8 => ?_)
    · replace hf := (if_pos c8).symm.trans hf
      exact hk v1_20 v2_20 v3_20 _ _ _ _ hH (lv_sub hl [0, 1, 2, 3] rfl) hf
    · replace hf := (if_neg c8).symm.trans hf
      refine hl_aload_n hx hb dX13_isBarredFrom_30 rfl (lv_at hl 3 rfl) ?_
      refine g13_1 hx hb hts hown hKs hH rfl ho m6_182 dX13_isBarredFrom_31 ?_
      refine lv_sipush (v := 148) hx hb dX13_isBarredFrom_34 (by decide) ?_
      refine lv_iload_n hx hb dX13_isBarredFrom_37 rfl (lv_at hl 1 rfl) ?_
      refine lv_iadd hx hb dX13_isBarredFrom_38 ?_
      obtain ⟨j9, hj9, hf⟩ := bnd hf
      refine hw_iald hx hb hKs hH ha6.1 ha6.2 hj9 dX13_isBarredFrom_39 ?_
      refine lv_iload_n hx hb dX13_isBarredFrom_40 rfl (lv_at hl 2 rfl) ?_
      obtain ⟨q10, hq10, hf⟩ := bnd hf
      refine hcS_i hx hb hml hown hts hKs hT hb0 hH (As := [.int ((aI w a6.1 j9)), .int v3_20]) (rest := []) (k_X13_has l E K H.size (aI w a6.1 j9) v3_20 w hq10) (gS m7_223 m7_224 m1_16 m7_225) hs_X13_has ⟨Nat.le_of_ble_eq_true rfl, Nat.le_of_ble_eq_true rfl, rfl, rfl⟩ hl.1 rfl rc0 rfl dX13_isBarredFrom_41 ⟨Nat.zero_le _, Nat.zero_le _⟩ (fun H locs hH => ?_)
      refine lv_if_eq (tgt := 68) hx hb dX13_isBarredFrom_44 (by decide) (fun c11 => ?_) (fun c11 => ?_)
      · replace hf := (if_pos c11).symm.trans hf
        refine lv_iinc (v := (v3_20 + 1)) (lv' := [(3, .int ((v3_20 + 1))), (1, .int v1_20), (2, .int v2_20), (0, rv E (some o))]) hx hb dX13_isBarredFrom_68 hl (k := 2) rfl rfl (by decide) rfl (fun ls hl => ?_)
        refine lv_goto (tgt := 20) hx hb dX13_isBarredFrom_71 (by decide) ?_
        exact ih v1_20 v2_20 (v3_20 + 1) _ _ _ _ hH (lv_sub hl [1, 2, 0, 3] rfl) hf
      · replace hf := (if_neg c11).symm.trans hf
        refine hl_aload_n hx hb dX13_isBarredFrom_47 rfl (lv_at hl 3 rfl) ?_
        refine lv_iload_n hx hb dX13_isBarredFrom_48 rfl (lv_at hl 2 rfl) ?_
        obtain ⟨q12, hq12, hf⟩ := bnd hf
        refine hcV_i hx hb hml hown hts hKs hT hb0 hH (As := [.int v3_20]) (rest := []) (k_X13_hasHearing l E K H.size o v3_20 q10.2 ho hq12) (gV m7_155 m7_157 ms_57 m1_16 m7_158) hd_X13_hasHearing ⟨Nat.le_of_ble_eq_true rfl, Nat.le_of_ble_eq_true rfl, rfl, rfl⟩ rfl ho rfl rfl rfl hl.1 rfl rc0 rfl dX13_isBarredFrom_49 ⟨Nat.zero_le _, Nat.zero_le _⟩ (fun H locs hH => ?_)
        refine lv_if_eq (tgt := 68) hx hb dX13_isBarredFrom_52 (by decide) (fun c13 => ?_) (fun c13 => ?_)
        · replace hf := (if_pos c13).symm.trans hf
          refine lv_iinc (v := (v3_20 + 1)) (lv' := [(3, .int ((v3_20 + 1))), (1, .int v1_20), (2, .int v2_20), (0, rv E (some o))]) hx hb dX13_isBarredFrom_68 hl (k := 2) rfl rfl (by decide) rfl (fun ls hl => ?_)
          refine lv_goto (tgt := 20) hx hb dX13_isBarredFrom_71 (by decide) ?_
          exact ih v1_20 v2_20 (v3_20 + 1) _ _ _ _ hH (lv_sub hl [1, 2, 0, 3] rfl) hf
        · replace hf := (if_neg c13).symm.trans hf
          refine hl_aload_n hx hb dX13_isBarredFrom_55 rfl (lv_at hl 3 rfl) ?_
          refine lv_iload_n hx hb dX13_isBarredFrom_56 rfl (lv_at hl 2 rfl) ?_
          refine lv_bipush (v := 6) hx hb dX13_isBarredFrom_57 (by decide) ?_
          obtain ⟨q14, hq14, hf⟩ := bnd hf
          refine hcV_i hx hb hml hown hts hKs hT hb0 hH (As := [.int v3_20, .int 6]) (rest := []) (k_X13_of l E K H.size o v3_20 6 q12.2 ho hq14) (gV m7_126 m7_128 ms_54 m1_16 m7_129) hd_X13_of ⟨Nat.le_of_ble_eq_true rfl, Nat.le_of_ble_eq_true rfl, rfl, rfl⟩ rfl ho rfl rfl rfl hl.1 rfl rc0 rfl dX13_isBarredFrom_59 ⟨Nat.zero_le _, Nat.zero_le _⟩ (fun H locs hH => ?_)
          refine lv_iload_n hx hb dX13_isBarredFrom_62 rfl (lv_at hl 0 rfl) ?_
          refine lv_icmp_ne (tgt := 68) hx hb dX13_isBarredFrom_63 (by decide) (fun c15 => ?_) (fun c15 => ?_)
          · replace hf := (if_neg c15).symm.trans hf
            refine lv_iinc (v := (v3_20 + 1)) (lv' := [(3, .int ((v3_20 + 1))), (1, .int v1_20), (2, .int v2_20), (0, rv E (some o))]) hx hb dX13_isBarredFrom_68 hl (k := 2) rfl rfl (by decide) rfl (fun ls hl => ?_)
            refine lv_goto (tgt := 20) hx hb dX13_isBarredFrom_71 (by decide) ?_
            exact ih v1_20 v2_20 (v3_20 + 1) _ _ _ _ hH (lv_sub hl [1, 2, 0, 3] rfl) hf
          · replace hf := (if_pos c15).symm.trans hf
            refine lv_iconst (v := 1) hx hb dX13_isBarredFrom_66 (by decide) ?_
            exact hw_zret hx hb hret rfl hf hH hlocks dX13_isBarredFrom_67
set_option maxHeartbeats 4000000 in
set_option maxRecDepth 100000 in
theorem k_X13_isBarredFrom (l : Launch) (E : Ev) (K : Kd) (z : Nat) (o : Nat) (a_1 : Int32) (a_2 : Int32) (w : Wd) (ho : K o = some (11, 0)) {r : Bool} {w' : Wd} (hf : f_X13_isBarredFrom K o a_1 a_2 w = some (r, w')) : Met l yX13_isBarredFrom (Cond.code yX13_isBarredFrom cX13_isBarredFrom 4 (Option.some Jvm.ClassFile.FieldType.boolean) :: bt) ({ frames := 3, cells := 0, slots := 0, locals := 65 } : Room) (va_Pc [rv E (some o), .int a_1, .int a_2] (HB E K w z)) (QI E K z w' (b2i r)) 0 0 (hA E) := by
  refine Met.ofW (cc := cX13_isBarredFrom) (maxL := 4) (ret := (Option.some Jvm.ClassFile.FieldType.boolean)) (by decide) rfl ?_
  intro p e s m args below meth c s₁ B hml hv
  obtain ⟨rfl, hz, hP, hKs, hT, hb0⟩ := hv
  have C : CX p l e s m _ meth c cX13_isBarredFrom 4 RX13 (Option.some Jvm.ClassFile.FieldType.boolean) E := ⟨B.exec, B.bytes, hml, findClass_of_methodNamed B.named, fun w h => atoms_spec (ws := Cond.code yX13_isBarredFrom cX13_isBarredFrom 4 (Option.some Jvm.ClassFile.FieldType.boolean) :: bt) B.pre w (List.mem_cons_of_mem _ h), hKs, hT, by rw [hz]; exact hb0, B.notSynchronized, B.returns⟩
  have hH : HQ E K z w s s.heap [] := ⟨hP, va_S.rf, hz⟩
  obtain ⟨hx, hb, hml, hown, hts, hKs, hT, hb0, hlocks, hret⟩ := id C
  have hl := lv_entry [rv E (some o), .int a_1, .int a_2] (n := 4) (by simp [lg_len_nil, lg_len_i, lg_len_j, lg_len_q, lg_len_f, lg_len_d, lg_len_r])
  rw [lg_entry_eq]
  generalize (lg_sl [rv E (some o), .int a_1, .int a_2] ++ List.replicate (4 - (lg_sl [rv E (some o), .int a_1, .int a_2]).length) Slot.unset).toArray = ls at hl ⊢
  replace hl : lv_has ls 4 [(0, rv E (some o)), (1, .int a_1), (2, .int a_2)] := by simpa only [lv_args, cat_q, cat_i, cat_j, reduceIte, Nat.reduceEqDiff, Nat.reduceAdd, Nat.zero_add] using hl
  generalize s.heap = H at hH ⊢
  unfold f_X13_isBarredFrom at hf
  refine hl_aload_n hx hb dX13_isBarredFrom_0 rfl (lv_at hl 0 rfl) ?_
  refine g13_3 hx hb hts hown hKs hH rfl ho m6_184 dX13_isBarredFrom_1 ?_
  refine lv_bipush (v := 34) hx hb dX13_isBarredFrom_4 (by decide) ?_
  refine lv_iload_n hx hb dX13_isBarredFrom_6 rfl (lv_at hl 2 rfl) ?_
  refine lv_iadd hx hb dX13_isBarredFrom_7 ?_
  obtain ⟨a1, ha1, hf⟩ := bnd hf
  replace ha1 := cha_some ha1
  obtain ⟨j2, hj2, hf⟩ := bnd hf
  refine hw_iald hx hb hKs hH ha1.1 ha1.2 hj2 dX13_isBarredFrom_8 ?_
  refine lv_iload_n hx hb dX13_isBarredFrom_9 rfl (lv_at hl 1 rfl) ?_
  obtain ⟨q3, hq3, hf⟩ := bnd hf
  refine hcS_i hx hb hml hown hts hKs hT hb0 hH (As := [.int ((aI w a1.1 j2)), .int a_1]) (rest := []) (k_X13_has l E K H.size (aI w a1.1 j2) a_1 w hq3) (gS m7_223 m7_224 m1_16 m7_225) hs_X13_has ⟨Nat.le_of_ble_eq_true rfl, Nat.le_of_ble_eq_true rfl, rfl, rfl⟩ hl.1 rfl rc0 rfl dX13_isBarredFrom_10 ⟨Nat.zero_le _, Nat.zero_le _⟩ (fun H locs hH => ?_)
  refine lv_if_eq (tgt := 18) hx hb dX13_isBarredFrom_13 (by decide) (fun c4 => ?_) (fun c4 => ?_)
  · replace hf := (if_pos c4).symm.trans hf
    refine lv_iconst (v := 0) hx hb dX13_isBarredFrom_18 (by decide) ?_
    refine lv_istore_n (i := 3) (lv' := [(3, .int 0), (0, rv E (some o)), (1, .int a_1), (2, .int a_2)]) hx hb dX13_isBarredFrom_19 rfl hl (by decide) rfl (fun ls hl => ?_)
    refine l_X13_isBarredFrom_L20  C ho _ (fun v1_20 v2_20 v3_20 w5 H locs ls hH hl hf => ?_) fu a_1 a_2 0 q3.2 _ _ _ hH (lv_sub hl [2, 3, 0, 1] rfl) hf
    refine lv_iconst (v := 0) hx hb dX13_isBarredFrom_74 (by decide) ?_
    exact hw_zret hx hb hret rfl hf hH hlocks dX13_isBarredFrom_75
  · replace hf := (if_neg c4).symm.trans hf
    refine lv_iconst (v := 1) hx hb dX13_isBarredFrom_16 (by decide) ?_
    exact hw_zret hx hb hret rfl hf hH hlocks dX13_isBarredFrom_17

theorem dX13_isRoomTaken_0 : decode cX13_isRoomTaken 0 = .ok (.iconst 0, 1) := by decide +kernel
theorem dX13_isRoomTaken_1 : decode cX13_isRoomTaken 1 = .ok (.istore 5, 2) := by decide +kernel
theorem dX13_isRoomTaken_3 : decode cX13_isRoomTaken 3 = .ok (.iload 5, 2) := by decide +kernel
theorem dX13_isRoomTaken_5 : decode cX13_isRoomTaken 5 = .ok (.aload_n 0, 1) := by decide +kernel
theorem dX13_isRoomTaken_6 : decode cX13_isRoomTaken 6 = .ok (.getfield 7, 3) := by decide +kernel
theorem dX13_isRoomTaken_9 : decode cX13_isRoomTaken 9 = .ok (.iconst 3, 1) := by decide +kernel
theorem dX13_isRoomTaken_10 : decode cX13_isRoomTaken 10 = .ok (.iaload, 1) := by decide +kernel
theorem dX13_isRoomTaken_11 : decode cX13_isRoomTaken 11 = .ok (.if_icmp .ge 35, 3) := by decide +kernel
theorem dX13_isRoomTaken_14 : decode cX13_isRoomTaken 14 = .ok (.aload_n 0, 1) := by decide +kernel
theorem dX13_isRoomTaken_15 : decode cX13_isRoomTaken 15 = .ok (.iload 5, 2) := by decide +kernel
theorem dX13_isRoomTaken_17 : decode cX13_isRoomTaken 17 = .ok (.iload_n 1, 1) := by decide +kernel
theorem dX13_isRoomTaken_18 : decode cX13_isRoomTaken 18 = .ok (.iload_n 2, 1) := by decide +kernel
theorem dX13_isRoomTaken_19 : decode cX13_isRoomTaken 19 = .ok (.iload_n 3, 1) := by decide +kernel
theorem dX13_isRoomTaken_20 : decode cX13_isRoomTaken 20 = .ok (.invokevirtual 170, 3) := by decide +kernel
theorem dX13_isRoomTaken_23 : decode cX13_isRoomTaken 23 = .ok (.ifCond .eq 17, 3) := by decide +kernel
theorem dX13_isRoomTaken_26 : decode cX13_isRoomTaken 26 = .ok (.aload_n 0, 1) := by decide +kernel
theorem dX13_isRoomTaken_27 : decode cX13_isRoomTaken 27 = .ok (.iload 5, 2) := by decide +kernel
theorem dX13_isRoomTaken_29 : decode cX13_isRoomTaken 29 = .ok (.iconst 5, 1) := by decide +kernel
theorem dX13_isRoomTaken_30 : decode cX13_isRoomTaken 30 = .ok (.invokevirtual 141, 3) := by decide +kernel
theorem dX13_isRoomTaken_33 : decode cX13_isRoomTaken 33 = .ok (.iload 4, 2) := by decide +kernel
theorem dX13_isRoomTaken_35 : decode cX13_isRoomTaken 35 = .ok (.if_icmp .ne 5, 3) := by decide +kernel
theorem dX13_isRoomTaken_38 : decode cX13_isRoomTaken 38 = .ok (.iconst 1, 1) := by decide +kernel
theorem dX13_isRoomTaken_39 : decode cX13_isRoomTaken 39 = .ok (.ireturn, 1) := by decide +kernel
theorem dX13_isRoomTaken_40 : decode cX13_isRoomTaken 40 = .ok (.iinc 5 1, 3) := by decide +kernel
theorem dX13_isRoomTaken_43 : decode cX13_isRoomTaken 43 = .ok (.goto (-40), 3) := by decide +kernel
theorem dX13_isRoomTaken_46 : decode cX13_isRoomTaken 46 = .ok (.iconst 0, 1) := by decide +kernel
theorem dX13_isRoomTaken_47 : decode cX13_isRoomTaken 47 = .ok (.ireturn, 1) := by decide +kernel
theorem hd_X13_isRoomTaken : yX13_isRoomTaken.cls = RX13 ∧ yX13_isRoomTaken.cls ≠ "java/lang/invoke/MethodHandle" ∧ yX13_isRoomTaken.cls ≠ "java/lang/invoke/VarHandle" ∧ (parseMethodDescriptor yX13_isRoomTaken.desc).map (fun d => d.parameters.length) = some 4 := by decide +kernel
theorem hs_X13_isRoomTaken : yX13_isRoomTaken.cls ≠ "java/lang/invoke/MethodHandle" ∧ yX13_isRoomTaken.cls ≠ "java/lang/invoke/VarHandle" ∧ (parseMethodDescriptor yX13_isRoomTaken.desc).map (fun d => d.parameters.length) = some 4 := by decide +kernel
set_option maxHeartbeats 4000000 in
set_option maxRecDepth 100000 in
theorem l_X13_isRoomTaken_L3 (C : CX p l e s m args meth c cX13_isRoomTaken 6 RX13 (Option.some Jvm.ClassFile.FieldType.boolean) E) {o : Nat} (ho : K o = some (11, 0)) {r : Bool} {w' : Wd} (k : Int32 → Int32 → Int32 → Int32 → Int32 → Wd → Option (Bool × Wd)) (hk : ∀ (v1_3 : Int32) (v2_3 : Int32) (v3_3 : Int32) (v4_3 : Int32) (v5_3 : Int32) (w : Wd) (H : Heap) (locs : List Loc) (ls : Array Slot), HQ E K z w s H locs → lv_has ls 6 [(1, .int v1_3), (2, .int v2_3), (3, .int v3_3), (4, .int v4_3), (5, .int v5_3), (0, rv E (some o))] → k v1_3 v2_3 v3_3 v4_3 v5_3 w = some (r, w') → W p l e ({ frames := 4, cells := 0, slots := 0, locals := 90 } : Room) s m args below meth c H locs 0 0 (MQ below (QI E K z w' (b2i r)) args s 0 0 (hA E)) (F0 m 46 ls [])) : ∀ (n : Nat) (v1_3 : Int32) (v2_3 : Int32) (v3_3 : Int32) (v4_3 : Int32) (v5_3 : Int32) (w : Wd) (H : Heap) (locs : List Loc) (ls : Array Slot), HQ E K z w s H locs → lv_has ls 6 [(1, .int v1_3), (2, .int v2_3), (3, .int v3_3), (4, .int v4_3), (5, .int v5_3), (0, rv E (some o))] → f_X13_isRoomTaken_L3 K o k n v1_3 v2_3 v3_3 v4_3 v5_3 w = some (r, w') → W p l e ({ frames := 4, cells := 0, slots := 0, locals := 90 } : Room) s m args below meth c H locs 0 0 (MQ below (QI E K z w' (b2i r)) args s 0 0 (hA E)) (F0 m 3 ls []) := by
  obtain ⟨hx, hb, hml, hown, hts, hKs, hT, hb0, hlocks, hret⟩ := id C
  intro n
  induction n with
  | zero =>
    intro v1_3 v2_3 v3_3 v4_3 v5_3 w H locs ls hH hl hf
    cases hf
  | succ n ih =>
    intro v1_3 v2_3 v3_3 v4_3 v5_3 w H locs ls hH hl hf
    rw [f_X13_isRoomTaken_L3] at hf
    refine lv_iload hx hb dX13_isRoomTaken_3 (lv_at hl 4 rfl) ?_
    refine hl_aload_n hx hb dX13_isRoomTaken_5 rfl (lv_at hl 5 rfl) ?_
    refine g13_1 hx hb hts hown hKs hH rfl ho m6_182 dX13_isRoomTaken_6 ?_
    refine lv_iconst (v := 3) hx hb dX13_isRoomTaken_9 (by decide) ?_
    obtain ⟨a2, ha2, hf⟩ := bnd hf
    replace ha2 := cha_some ha2
    obtain ⟨j3, hj3, hf⟩ := bnd hf
    refine hw_iald hx hb hKs hH ha2.1 ha2.2 hj3 dX13_isRoomTaken_10 ?_
    refine lv_icmp_ge (tgt := 46) hx hb dX13_isRoomTaken_11 (by decide) (fun c4 => ?_) (fun c4 => ?_)
    · replace hf := (if_pos c4).symm.trans hf
      exact hk v1_3 v2_3 v3_3 v4_3 v5_3 _ _ _ _ hH (lv_sub hl [0, 1, 2, 3, 4, 5] rfl) hf
    · replace hf := (if_neg c4).symm.trans hf
      refine hl_aload_n hx hb dX13_isRoomTaken_14 rfl (lv_at hl 5 rfl) ?_
      refine lv_iload hx hb dX13_isRoomTaken_15 (lv_at hl 4 rfl) ?_
      refine lv_iload_n hx hb dX13_isRoomTaken_17 rfl (lv_at hl 0 rfl) ?_
      refine lv_iload_n hx hb dX13_isRoomTaken_18 rfl (lv_at hl 1 rfl) ?_
      refine lv_iload_n hx hb dX13_isRoomTaken_19 rfl (lv_at hl 2 rfl) ?_
      obtain ⟨q5, hq5, hf⟩ := bnd hf
      refine hcV_i hx hb hml hown hts hKs hT hb0 hH (As := [.int v5_3, .int v1_3, .int v2_3, .int v3_3]) (rest := []) (k_X13_meets l E K H.size o v5_3 v1_3 v2_3 v3_3 w ho hq5) (gV m7_207 m7_209 ms_67 m1_16 m7_210) hd_X13_meets ⟨Nat.le_of_ble_eq_true rfl, Nat.le_of_ble_eq_true rfl, rfl, rfl⟩ rfl ho rfl rfl rfl hl.1 rfl rc0 rfl dX13_isRoomTaken_20 ⟨Nat.zero_le _, Nat.zero_le _⟩ (fun H locs hH => ?_)
      refine lv_if_eq (tgt := 40) hx hb dX13_isRoomTaken_23 (by decide) (fun c6 => ?_) (fun c6 => ?_)
      · replace hf := (if_pos c6).symm.trans hf
        refine lv_iinc (v := (v5_3 + 1)) (lv' := [(5, .int ((v5_3 + 1))), (1, .int v1_3), (2, .int v2_3), (3, .int v3_3), (4, .int v4_3), (0, rv E (some o))]) hx hb dX13_isRoomTaken_40 hl (k := 4) rfl rfl (by decide) rfl (fun ls hl => ?_)
        refine lv_goto (tgt := 3) hx hb dX13_isRoomTaken_43 (by decide) ?_
        exact ih v1_3 v2_3 v3_3 v4_3 (v5_3 + 1) _ _ _ _ hH (lv_sub hl [1, 2, 3, 4, 0, 5] rfl) hf
      · replace hf := (if_neg c6).symm.trans hf
        refine hl_aload_n hx hb dX13_isRoomTaken_26 rfl (lv_at hl 5 rfl) ?_
        refine lv_iload hx hb dX13_isRoomTaken_27 (lv_at hl 4 rfl) ?_
        refine lv_iconst (v := 5) hx hb dX13_isRoomTaken_29 (by decide) ?_
        obtain ⟨q7, hq7, hf⟩ := bnd hf
        refine hcV_i hx hb hml hown hts hKs hT hb0 hH (As := [.int v5_3, .int 5]) (rest := []) (k_X13_of l E K H.size o v5_3 5 q5.2 ho hq7) (gV m7_126 m7_128 ms_54 m1_16 m7_129) hd_X13_of ⟨Nat.le_of_ble_eq_true rfl, Nat.le_of_ble_eq_true rfl, rfl, rfl⟩ rfl ho rfl rfl rfl hl.1 rfl rc0 rfl dX13_isRoomTaken_30 ⟨Nat.zero_le _, Nat.zero_le _⟩ (fun H locs hH => ?_)
        refine lv_iload hx hb dX13_isRoomTaken_33 (lv_at hl 3 rfl) ?_
        refine lv_icmp_ne (tgt := 40) hx hb dX13_isRoomTaken_35 (by decide) (fun c8 => ?_) (fun c8 => ?_)
        · replace hf := (if_neg c8).symm.trans hf
          refine lv_iinc (v := (v5_3 + 1)) (lv' := [(5, .int ((v5_3 + 1))), (1, .int v1_3), (2, .int v2_3), (3, .int v3_3), (4, .int v4_3), (0, rv E (some o))]) hx hb dX13_isRoomTaken_40 hl (k := 4) rfl rfl (by decide) rfl (fun ls hl => ?_)
          refine lv_goto (tgt := 3) hx hb dX13_isRoomTaken_43 (by decide) ?_
          exact ih v1_3 v2_3 v3_3 v4_3 (v5_3 + 1) _ _ _ _ hH (lv_sub hl [1, 2, 3, 4, 0, 5] rfl) hf
        · replace hf := (if_pos c8).symm.trans hf
          refine lv_iconst (v := 1) hx hb dX13_isRoomTaken_38 (by decide) ?_
          exact hw_zret hx hb hret rfl hf hH hlocks dX13_isRoomTaken_39
set_option maxHeartbeats 4000000 in
set_option maxRecDepth 100000 in
theorem k_X13_isRoomTaken (l : Launch) (E : Ev) (K : Kd) (z : Nat) (o : Nat) (a_1 : Int32) (a_2 : Int32) (a_3 : Int32) (a_4 : Int32) (w : Wd) (ho : K o = some (11, 0)) {r : Bool} {w' : Wd} (hf : f_X13_isRoomTaken K o a_1 a_2 a_3 a_4 w = some (r, w')) : Met l yX13_isRoomTaken (Cond.code yX13_isRoomTaken cX13_isRoomTaken 6 (Option.some Jvm.ClassFile.FieldType.boolean) :: bt) ({ frames := 4, cells := 0, slots := 0, locals := 90 } : Room) (va_Pc [rv E (some o), .int a_1, .int a_2, .int a_3, .int a_4] (HB E K w z)) (QI E K z w' (b2i r)) 0 0 (hA E) := by
  refine Met.ofW (cc := cX13_isRoomTaken) (maxL := 6) (ret := (Option.some Jvm.ClassFile.FieldType.boolean)) (by decide) rfl ?_
  intro p e s m args below meth c s₁ B hml hv
  obtain ⟨rfl, hz, hP, hKs, hT, hb0⟩ := hv
  have C : CX p l e s m _ meth c cX13_isRoomTaken 6 RX13 (Option.some Jvm.ClassFile.FieldType.boolean) E := ⟨B.exec, B.bytes, hml, findClass_of_methodNamed B.named, fun w h => atoms_spec (ws := Cond.code yX13_isRoomTaken cX13_isRoomTaken 6 (Option.some Jvm.ClassFile.FieldType.boolean) :: bt) B.pre w (List.mem_cons_of_mem _ h), hKs, hT, by rw [hz]; exact hb0, B.notSynchronized, B.returns⟩
  have hH : HQ E K z w s s.heap [] := ⟨hP, va_S.rf, hz⟩
  obtain ⟨hx, hb, hml, hown, hts, hKs, hT, hb0, hlocks, hret⟩ := id C
  have hl := lv_entry [rv E (some o), .int a_1, .int a_2, .int a_3, .int a_4] (n := 6) (by simp [lg_len_nil, lg_len_i, lg_len_j, lg_len_q, lg_len_f, lg_len_d, lg_len_r])
  rw [lg_entry_eq]
  generalize (lg_sl [rv E (some o), .int a_1, .int a_2, .int a_3, .int a_4] ++ List.replicate (6 - (lg_sl [rv E (some o), .int a_1, .int a_2, .int a_3, .int a_4]).length) Slot.unset).toArray = ls at hl ⊢
  replace hl : lv_has ls 6 [(0, rv E (some o)), (1, .int a_1), (2, .int a_2), (3, .int a_3), (4, .int a_4)] := by simpa only [lv_args, cat_q, cat_i, cat_j, reduceIte, Nat.reduceEqDiff, Nat.reduceAdd, Nat.zero_add] using hl
  generalize s.heap = H at hH ⊢
  unfold f_X13_isRoomTaken at hf
  refine lv_iconst (v := 0) hx hb dX13_isRoomTaken_0 (by decide) ?_
  refine lv_istore (i := 5) (lv' := [(5, .int 0), (0, rv E (some o)), (1, .int a_1), (2, .int a_2), (3, .int a_3), (4, .int a_4)]) hx hb dX13_isRoomTaken_1 hl (by decide) rfl (fun ls hl => ?_)
  refine l_X13_isRoomTaken_L3  C ho _ (fun v1_3 v2_3 v3_3 v4_3 v5_3 w1 H locs ls hH hl hf => ?_) fu a_1 a_2 a_3 a_4 0 w _ _ _ hH (lv_sub hl [2, 3, 4, 5, 0, 1] rfl) hf
  refine lv_iconst (v := 0) hx hb dX13_isRoomTaken_46 (by decide) ?_
  exact hw_zret hx hb hret rfl hf hH hlocks dX13_isRoomTaken_47

theorem dX13_isOfficerTaken_0 : decode cX13_isOfficerTaken 0 = .ok (.iconst 0, 1) := by decide +kernel
theorem dX13_isOfficerTaken_1 : decode cX13_isOfficerTaken 1 = .ok (.istore 5, 2) := by decide +kernel
theorem dX13_isOfficerTaken_3 : decode cX13_isOfficerTaken 3 = .ok (.iload 5, 2) := by decide +kernel
theorem dX13_isOfficerTaken_5 : decode cX13_isOfficerTaken 5 = .ok (.aload_n 0, 1) := by decide +kernel
theorem dX13_isOfficerTaken_6 : decode cX13_isOfficerTaken 6 = .ok (.getfield 7, 3) := by decide +kernel
theorem dX13_isOfficerTaken_9 : decode cX13_isOfficerTaken 9 = .ok (.iconst 3, 1) := by decide +kernel
theorem dX13_isOfficerTaken_10 : decode cX13_isOfficerTaken 10 = .ok (.iaload, 1) := by decide +kernel
theorem dX13_isOfficerTaken_11 : decode cX13_isOfficerTaken 11 = .ok (.if_icmp .ge 36, 3) := by decide +kernel
theorem dX13_isOfficerTaken_14 : decode cX13_isOfficerTaken 14 = .ok (.aload_n 0, 1) := by decide +kernel
theorem dX13_isOfficerTaken_15 : decode cX13_isOfficerTaken 15 = .ok (.iload 5, 2) := by decide +kernel
theorem dX13_isOfficerTaken_17 : decode cX13_isOfficerTaken 17 = .ok (.iload_n 1, 1) := by decide +kernel
theorem dX13_isOfficerTaken_18 : decode cX13_isOfficerTaken 18 = .ok (.iload_n 2, 1) := by decide +kernel
theorem dX13_isOfficerTaken_19 : decode cX13_isOfficerTaken 19 = .ok (.iload_n 3, 1) := by decide +kernel
theorem dX13_isOfficerTaken_20 : decode cX13_isOfficerTaken 20 = .ok (.invokevirtual 170, 3) := by decide +kernel
theorem dX13_isOfficerTaken_23 : decode cX13_isOfficerTaken 23 = .ok (.ifCond .eq 18, 3) := by decide +kernel
theorem dX13_isOfficerTaken_26 : decode cX13_isOfficerTaken 26 = .ok (.aload_n 0, 1) := by decide +kernel
theorem dX13_isOfficerTaken_27 : decode cX13_isOfficerTaken 27 = .ok (.iload 5, 2) := by decide +kernel
theorem dX13_isOfficerTaken_29 : decode cX13_isOfficerTaken 29 = .ok (.bipush 6, 2) := by decide +kernel
theorem dX13_isOfficerTaken_31 : decode cX13_isOfficerTaken 31 = .ok (.invokevirtual 141, 3) := by decide +kernel
theorem dX13_isOfficerTaken_34 : decode cX13_isOfficerTaken 34 = .ok (.iload 4, 2) := by decide +kernel
theorem dX13_isOfficerTaken_36 : decode cX13_isOfficerTaken 36 = .ok (.if_icmp .ne 5, 3) := by decide +kernel
theorem dX13_isOfficerTaken_39 : decode cX13_isOfficerTaken 39 = .ok (.iconst 1, 1) := by decide +kernel
theorem dX13_isOfficerTaken_40 : decode cX13_isOfficerTaken 40 = .ok (.ireturn, 1) := by decide +kernel
theorem dX13_isOfficerTaken_41 : decode cX13_isOfficerTaken 41 = .ok (.iinc 5 1, 3) := by decide +kernel
theorem dX13_isOfficerTaken_44 : decode cX13_isOfficerTaken 44 = .ok (.goto (-41), 3) := by decide +kernel
theorem dX13_isOfficerTaken_47 : decode cX13_isOfficerTaken 47 = .ok (.iconst 0, 1) := by decide +kernel
theorem dX13_isOfficerTaken_48 : decode cX13_isOfficerTaken 48 = .ok (.ireturn, 1) := by decide +kernel
theorem hd_X13_isOfficerTaken : yX13_isOfficerTaken.cls = RX13 ∧ yX13_isOfficerTaken.cls ≠ "java/lang/invoke/MethodHandle" ∧ yX13_isOfficerTaken.cls ≠ "java/lang/invoke/VarHandle" ∧ (parseMethodDescriptor yX13_isOfficerTaken.desc).map (fun d => d.parameters.length) = some 4 := by decide +kernel
theorem hs_X13_isOfficerTaken : yX13_isOfficerTaken.cls ≠ "java/lang/invoke/MethodHandle" ∧ yX13_isOfficerTaken.cls ≠ "java/lang/invoke/VarHandle" ∧ (parseMethodDescriptor yX13_isOfficerTaken.desc).map (fun d => d.parameters.length) = some 4 := by decide +kernel
set_option maxHeartbeats 4000000 in
set_option maxRecDepth 100000 in
theorem l_X13_isOfficerTaken_L3 (C : CX p l e s m args meth c cX13_isOfficerTaken 6 RX13 (Option.some Jvm.ClassFile.FieldType.boolean) E) {o : Nat} (ho : K o = some (11, 0)) {r : Bool} {w' : Wd} (k : Int32 → Int32 → Int32 → Int32 → Int32 → Wd → Option (Bool × Wd)) (hk : ∀ (v1_3 : Int32) (v2_3 : Int32) (v3_3 : Int32) (v4_3 : Int32) (v5_3 : Int32) (w : Wd) (H : Heap) (locs : List Loc) (ls : Array Slot), HQ E K z w s H locs → lv_has ls 6 [(1, .int v1_3), (2, .int v2_3), (3, .int v3_3), (4, .int v4_3), (5, .int v5_3), (0, rv E (some o))] → k v1_3 v2_3 v3_3 v4_3 v5_3 w = some (r, w') → W p l e ({ frames := 4, cells := 0, slots := 0, locals := 90 } : Room) s m args below meth c H locs 0 0 (MQ below (QI E K z w' (b2i r)) args s 0 0 (hA E)) (F0 m 47 ls [])) : ∀ (n : Nat) (v1_3 : Int32) (v2_3 : Int32) (v3_3 : Int32) (v4_3 : Int32) (v5_3 : Int32) (w : Wd) (H : Heap) (locs : List Loc) (ls : Array Slot), HQ E K z w s H locs → lv_has ls 6 [(1, .int v1_3), (2, .int v2_3), (3, .int v3_3), (4, .int v4_3), (5, .int v5_3), (0, rv E (some o))] → f_X13_isOfficerTaken_L3 K o k n v1_3 v2_3 v3_3 v4_3 v5_3 w = some (r, w') → W p l e ({ frames := 4, cells := 0, slots := 0, locals := 90 } : Room) s m args below meth c H locs 0 0 (MQ below (QI E K z w' (b2i r)) args s 0 0 (hA E)) (F0 m 3 ls []) := by
  obtain ⟨hx, hb, hml, hown, hts, hKs, hT, hb0, hlocks, hret⟩ := id C
  intro n
  induction n with
  | zero =>
    intro v1_3 v2_3 v3_3 v4_3 v5_3 w H locs ls hH hl hf
    cases hf
  | succ n ih =>
    intro v1_3 v2_3 v3_3 v4_3 v5_3 w H locs ls hH hl hf
    rw [f_X13_isOfficerTaken_L3] at hf
    refine lv_iload hx hb dX13_isOfficerTaken_3 (lv_at hl 4 rfl) ?_
    refine hl_aload_n hx hb dX13_isOfficerTaken_5 rfl (lv_at hl 5 rfl) ?_
    refine g13_1 hx hb hts hown hKs hH rfl ho m6_182 dX13_isOfficerTaken_6 ?_
    refine lv_iconst (v := 3) hx hb dX13_isOfficerTaken_9 (by decide) ?_
    obtain ⟨a2, ha2, hf⟩ := bnd hf
    replace ha2 := cha_some ha2
    obtain ⟨j3, hj3, hf⟩ := bnd hf
    refine hw_iald hx hb hKs hH ha2.1 ha2.2 hj3 dX13_isOfficerTaken_10 ?_
    refine lv_icmp_ge (tgt := 47) hx hb dX13_isOfficerTaken_11 (by decide) (fun c4 => ?_) (fun c4 => ?_)
    · replace hf := (if_pos c4).symm.trans hf
      exact hk v1_3 v2_3 v3_3 v4_3 v5_3 _ _ _ _ hH (lv_sub hl [0, 1, 2, 3, 4, 5] rfl) hf
    · replace hf := (if_neg c4).symm.trans hf
      refine hl_aload_n hx hb dX13_isOfficerTaken_14 rfl (lv_at hl 5 rfl) ?_
      refine lv_iload hx hb dX13_isOfficerTaken_15 (lv_at hl 4 rfl) ?_
      refine lv_iload_n hx hb dX13_isOfficerTaken_17 rfl (lv_at hl 0 rfl) ?_
      refine lv_iload_n hx hb dX13_isOfficerTaken_18 rfl (lv_at hl 1 rfl) ?_
      refine lv_iload_n hx hb dX13_isOfficerTaken_19 rfl (lv_at hl 2 rfl) ?_
      obtain ⟨q5, hq5, hf⟩ := bnd hf
      refine hcV_i hx hb hml hown hts hKs hT hb0 hH (As := [.int v5_3, .int v1_3, .int v2_3, .int v3_3]) (rest := []) (k_X13_meets l E K H.size o v5_3 v1_3 v2_3 v3_3 w ho hq5) (gV m7_207 m7_209 ms_67 m1_16 m7_210) hd_X13_meets ⟨Nat.le_of_ble_eq_true rfl, Nat.le_of_ble_eq_true rfl, rfl, rfl⟩ rfl ho rfl rfl rfl hl.1 rfl rc0 rfl dX13_isOfficerTaken_20 ⟨Nat.zero_le _, Nat.zero_le _⟩ (fun H locs hH => ?_)
      refine lv_if_eq (tgt := 41) hx hb dX13_isOfficerTaken_23 (by decide) (fun c6 => ?_) (fun c6 => ?_)
      · replace hf := (if_pos c6).symm.trans hf
        refine lv_iinc (v := (v5_3 + 1)) (lv' := [(5, .int ((v5_3 + 1))), (1, .int v1_3), (2, .int v2_3), (3, .int v3_3), (4, .int v4_3), (0, rv E (some o))]) hx hb dX13_isOfficerTaken_41 hl (k := 4) rfl rfl (by decide) rfl (fun ls hl => ?_)
        refine lv_goto (tgt := 3) hx hb dX13_isOfficerTaken_44 (by decide) ?_
        exact ih v1_3 v2_3 v3_3 v4_3 (v5_3 + 1) _ _ _ _ hH (lv_sub hl [1, 2, 3, 4, 0, 5] rfl) hf
      · replace hf := (if_neg c6).symm.trans hf
        refine hl_aload_n hx hb dX13_isOfficerTaken_26 rfl (lv_at hl 5 rfl) ?_
        refine lv_iload hx hb dX13_isOfficerTaken_27 (lv_at hl 4 rfl) ?_
        refine lv_bipush (v := 6) hx hb dX13_isOfficerTaken_29 (by decide) ?_
        obtain ⟨q7, hq7, hf⟩ := bnd hf
        refine hcV_i hx hb hml hown hts hKs hT hb0 hH (As := [.int v5_3, .int 6]) (rest := []) (k_X13_of l E K H.size o v5_3 6 q5.2 ho hq7) (gV m7_126 m7_128 ms_54 m1_16 m7_129) hd_X13_of ⟨Nat.le_of_ble_eq_true rfl, Nat.le_of_ble_eq_true rfl, rfl, rfl⟩ rfl ho rfl rfl rfl hl.1 rfl rc0 rfl dX13_isOfficerTaken_31 ⟨Nat.zero_le _, Nat.zero_le _⟩ (fun H locs hH => ?_)
        refine lv_iload hx hb dX13_isOfficerTaken_34 (lv_at hl 3 rfl) ?_
        refine lv_icmp_ne (tgt := 41) hx hb dX13_isOfficerTaken_36 (by decide) (fun c8 => ?_) (fun c8 => ?_)
        · replace hf := (if_neg c8).symm.trans hf
          refine lv_iinc (v := (v5_3 + 1)) (lv' := [(5, .int ((v5_3 + 1))), (1, .int v1_3), (2, .int v2_3), (3, .int v3_3), (4, .int v4_3), (0, rv E (some o))]) hx hb dX13_isOfficerTaken_41 hl (k := 4) rfl rfl (by decide) rfl (fun ls hl => ?_)
          refine lv_goto (tgt := 3) hx hb dX13_isOfficerTaken_44 (by decide) ?_
          exact ih v1_3 v2_3 v3_3 v4_3 (v5_3 + 1) _ _ _ _ hH (lv_sub hl [1, 2, 3, 4, 0, 5] rfl) hf
        · replace hf := (if_pos c8).symm.trans hf
          refine lv_iconst (v := 1) hx hb dX13_isOfficerTaken_39 (by decide) ?_
          exact hw_zret hx hb hret rfl hf hH hlocks dX13_isOfficerTaken_40
set_option maxHeartbeats 4000000 in
set_option maxRecDepth 100000 in
theorem k_X13_isOfficerTaken (l : Launch) (E : Ev) (K : Kd) (z : Nat) (o : Nat) (a_1 : Int32) (a_2 : Int32) (a_3 : Int32) (a_4 : Int32) (w : Wd) (ho : K o = some (11, 0)) {r : Bool} {w' : Wd} (hf : f_X13_isOfficerTaken K o a_1 a_2 a_3 a_4 w = some (r, w')) : Met l yX13_isOfficerTaken (Cond.code yX13_isOfficerTaken cX13_isOfficerTaken 6 (Option.some Jvm.ClassFile.FieldType.boolean) :: bt) ({ frames := 4, cells := 0, slots := 0, locals := 90 } : Room) (va_Pc [rv E (some o), .int a_1, .int a_2, .int a_3, .int a_4] (HB E K w z)) (QI E K z w' (b2i r)) 0 0 (hA E) := by
  refine Met.ofW (cc := cX13_isOfficerTaken) (maxL := 6) (ret := (Option.some Jvm.ClassFile.FieldType.boolean)) (by decide) rfl ?_
  intro p e s m args below meth c s₁ B hml hv
  obtain ⟨rfl, hz, hP, hKs, hT, hb0⟩ := hv
  have C : CX p l e s m _ meth c cX13_isOfficerTaken 6 RX13 (Option.some Jvm.ClassFile.FieldType.boolean) E := ⟨B.exec, B.bytes, hml, findClass_of_methodNamed B.named, fun w h => atoms_spec (ws := Cond.code yX13_isOfficerTaken cX13_isOfficerTaken 6 (Option.some Jvm.ClassFile.FieldType.boolean) :: bt) B.pre w (List.mem_cons_of_mem _ h), hKs, hT, by rw [hz]; exact hb0, B.notSynchronized, B.returns⟩
  have hH : HQ E K z w s s.heap [] := ⟨hP, va_S.rf, hz⟩
  obtain ⟨hx, hb, hml, hown, hts, hKs, hT, hb0, hlocks, hret⟩ := id C
  have hl := lv_entry [rv E (some o), .int a_1, .int a_2, .int a_3, .int a_4] (n := 6) (by simp [lg_len_nil, lg_len_i, lg_len_j, lg_len_q, lg_len_f, lg_len_d, lg_len_r])
  rw [lg_entry_eq]
  generalize (lg_sl [rv E (some o), .int a_1, .int a_2, .int a_3, .int a_4] ++ List.replicate (6 - (lg_sl [rv E (some o), .int a_1, .int a_2, .int a_3, .int a_4]).length) Slot.unset).toArray = ls at hl ⊢
  replace hl : lv_has ls 6 [(0, rv E (some o)), (1, .int a_1), (2, .int a_2), (3, .int a_3), (4, .int a_4)] := by simpa only [lv_args, cat_q, cat_i, cat_j, reduceIte, Nat.reduceEqDiff, Nat.reduceAdd, Nat.zero_add] using hl
  generalize s.heap = H at hH ⊢
  unfold f_X13_isOfficerTaken at hf
  refine lv_iconst (v := 0) hx hb dX13_isOfficerTaken_0 (by decide) ?_
  refine lv_istore (i := 5) (lv' := [(5, .int 0), (0, rv E (some o)), (1, .int a_1), (2, .int a_2), (3, .int a_3), (4, .int a_4)]) hx hb dX13_isOfficerTaken_1 hl (by decide) rfl (fun ls hl => ?_)
  refine l_X13_isOfficerTaken_L3  C ho _ (fun v1_3 v2_3 v3_3 v4_3 v5_3 w1 H locs ls hH hl hf => ?_) fu a_1 a_2 a_3 a_4 0 w _ _ _ hH (lv_sub hl [2, 3, 4, 5, 0, 1] rfl) hf
  refine lv_iconst (v := 0) hx hb dX13_isOfficerTaken_47 (by decide) ?_
  exact hw_zret hx hb hret rfl hf hH hlocks dX13_isOfficerTaken_48

theorem dX13_isOutOfWindows_0 : decode cX13_isOutOfWindows 0 = .ok (.iload_n 3, 1) := by decide +kernel
theorem dX13_isOutOfWindows_1 : decode cX13_isOutOfWindows 1 = .ok (.aload_n 0, 1) := by decide +kernel
theorem dX13_isOutOfWindows_2 : decode cX13_isOutOfWindows 2 = .ok (.getfield 7, 3) := by decide +kernel
theorem dX13_isOutOfWindows_5 : decode cX13_isOutOfWindows 5 = .ok (.bipush 100, 2) := by decide +kernel
theorem dX13_isOutOfWindows_7 : decode cX13_isOutOfWindows 7 = .ok (.iload_n 1, 1) := by decide +kernel
theorem dX13_isOutOfWindows_8 : decode cX13_isOutOfWindows 8 = .ok (.iadd, 1) := by decide +kernel
theorem dX13_isOutOfWindows_9 : decode cX13_isOutOfWindows 9 = .ok (.iaload, 1) := by decide +kernel
theorem dX13_isOutOfWindows_10 : decode cX13_isOutOfWindows 10 = .ok (.iadd, 1) := by decide +kernel
theorem dX13_isOutOfWindows_11 : decode cX13_isOutOfWindows 11 = .ok (.iconst 1, 1) := by decide +kernel
theorem dX13_isOutOfWindows_12 : decode cX13_isOutOfWindows 12 = .ok (.isub, 1) := by decide +kernel
theorem dX13_isOutOfWindows_13 : decode cX13_isOutOfWindows 13 = .ok (.istore 4, 2) := by decide +kernel
theorem dX13_isOutOfWindows_15 : decode cX13_isOutOfWindows 15 = .ok (.iconst 0, 1) := by decide +kernel
theorem dX13_isOutOfWindows_16 : decode cX13_isOutOfWindows 16 = .ok (.istore 5, 2) := by decide +kernel
theorem dX13_isOutOfWindows_18 : decode cX13_isOutOfWindows 18 = .ok (.iload 5, 2) := by decide +kernel
theorem dX13_isOutOfWindows_20 : decode cX13_isOutOfWindows 20 = .ok (.aload_n 0, 1) := by decide +kernel
theorem dX13_isOutOfWindows_21 : decode cX13_isOutOfWindows 21 = .ok (.getfield 7, 3) := by decide +kernel
theorem dX13_isOutOfWindows_24 : decode cX13_isOutOfWindows 24 = .ok (.iconst 2, 1) := by decide +kernel
theorem dX13_isOutOfWindows_25 : decode cX13_isOutOfWindows 25 = .ok (.iaload, 1) := by decide +kernel
theorem dX13_isOutOfWindows_26 : decode cX13_isOutOfWindows 26 = .ok (.if_icmp .ge 91, 3) := by decide +kernel
theorem dX13_isOutOfWindows_29 : decode cX13_isOutOfWindows 29 = .ok (.aload_n 0, 1) := by decide +kernel
theorem dX13_isOutOfWindows_30 : decode cX13_isOutOfWindows 30 = .ok (.getfield 7, 3) := by decide +kernel
theorem dX13_isOutOfWindows_33 : decode cX13_isOutOfWindows 33 = .ok (.sipush 136, 3) := by decide +kernel
theorem dX13_isOutOfWindows_36 : decode cX13_isOutOfWindows 36 = .ok (.iload_n 1, 1) := by decide +kernel
theorem dX13_isOutOfWindows_37 : decode cX13_isOutOfWindows 37 = .ok (.iadd, 1) := by decide +kernel
theorem dX13_isOutOfWindows_38 : decode cX13_isOutOfWindows 38 = .ok (.iaload, 1) := by decide +kernel
theorem dX13_isOutOfWindows_39 : decode cX13_isOutOfWindows 39 = .ok (.iload 5, 2) := by decide +kernel
theorem dX13_isOutOfWindows_41 : decode cX13_isOutOfWindows 41 = .ok (.invokestatic 167, 3) := by decide +kernel
theorem dX13_isOutOfWindows_44 : decode cX13_isOutOfWindows 44 = .ok (.ifCond .ne 6, 3) := by decide +kernel
theorem dX13_isOutOfWindows_47 : decode cX13_isOutOfWindows 47 = .ok (.goto 64, 3) := by decide +kernel
theorem dX13_isOutOfWindows_50 : decode cX13_isOutOfWindows 50 = .ok (.iload_n 2, 1) := by decide +kernel
theorem dX13_isOutOfWindows_51 : decode cX13_isOutOfWindows 51 = .ok (.i2l, 1) := by decide +kernel
theorem dX13_isOutOfWindows_52 : decode cX13_isOutOfWindows 52 = .ok (.aload_n 0, 1) := by decide +kernel
theorem dX13_isOutOfWindows_53 : decode cX13_isOutOfWindows 53 = .ok (.getfield 7, 3) := by decide +kernel
theorem dX13_isOutOfWindows_56 : decode cX13_isOutOfWindows 56 = .ok (.bipush 52, 2) := by decide +kernel
theorem dX13_isOutOfWindows_58 : decode cX13_isOutOfWindows 58 = .ok (.iload 5, 2) := by decide +kernel
theorem dX13_isOutOfWindows_60 : decode cX13_isOutOfWindows 60 = .ok (.iadd, 1) := by decide +kernel
theorem dX13_isOutOfWindows_61 : decode cX13_isOutOfWindows 61 = .ok (.iaload, 1) := by decide +kernel
theorem dX13_isOutOfWindows_62 : decode cX13_isOutOfWindows 62 = .ok (.i2l, 1) := by decide +kernel
theorem dX13_isOutOfWindows_63 : decode cX13_isOutOfWindows 63 = .ok (.aload_n 0, 1) := by decide +kernel
theorem dX13_isOutOfWindows_64 : decode cX13_isOutOfWindows 64 = .ok (.getfield 16, 3) := by decide +kernel
theorem dX13_isOutOfWindows_67 : decode cX13_isOutOfWindows 67 = .ok (.bipush 22, 2) := by decide +kernel
theorem dX13_isOutOfWindows_69 : decode cX13_isOutOfWindows 69 = .ok (.iload 5, 2) := by decide +kernel
theorem dX13_isOutOfWindows_71 : decode cX13_isOutOfWindows 71 = .ok (.iadd, 1) := by decide +kernel
theorem dX13_isOutOfWindows_72 : decode cX13_isOutOfWindows 72 = .ok (.iaload, 1) := by decide +kernel
theorem dX13_isOutOfWindows_73 : decode cX13_isOutOfWindows 73 = .ok (.i2l, 1) := by decide +kernel
theorem dX13_isOutOfWindows_74 : decode cX13_isOutOfWindows 74 = .ok (.invokestatic 123, 3) := by decide +kernel
theorem dX13_isOutOfWindows_77 : decode cX13_isOutOfWindows 77 = .ok (.ifCond .eq 32, 3) := by decide +kernel
theorem dX13_isOutOfWindows_80 : decode cX13_isOutOfWindows 80 = .ok (.iload_n 3, 1) := by decide +kernel
theorem dX13_isOutOfWindows_81 : decode cX13_isOutOfWindows 81 = .ok (.aload_n 0, 1) := by decide +kernel
theorem dX13_isOutOfWindows_82 : decode cX13_isOutOfWindows 82 = .ok (.getfield 7, 3) := by decide +kernel
theorem dX13_isOutOfWindows_85 : decode cX13_isOutOfWindows 85 = .ok (.bipush 64, 2) := by decide +kernel
theorem dX13_isOutOfWindows_87 : decode cX13_isOutOfWindows 87 = .ok (.iload 5, 2) := by decide +kernel
theorem dX13_isOutOfWindows_89 : decode cX13_isOutOfWindows 89 = .ok (.iadd, 1) := by decide +kernel
theorem dX13_isOutOfWindows_90 : decode cX13_isOutOfWindows 90 = .ok (.iaload, 1) := by decide +kernel
theorem dX13_isOutOfWindows_91 : decode cX13_isOutOfWindows 91 = .ok (.if_icmp .lt 18, 3) := by decide +kernel
theorem dX13_isOutOfWindows_94 : decode cX13_isOutOfWindows 94 = .ok (.iload 4, 2) := by decide +kernel
theorem dX13_isOutOfWindows_96 : decode cX13_isOutOfWindows 96 = .ok (.aload_n 0, 1) := by decide +kernel
theorem dX13_isOutOfWindows_97 : decode cX13_isOutOfWindows 97 = .ok (.getfield 7, 3) := by decide +kernel
theorem dX13_isOutOfWindows_100 : decode cX13_isOutOfWindows 100 = .ok (.bipush 76, 2) := by decide +kernel
theorem dX13_isOutOfWindows_102 : decode cX13_isOutOfWindows 102 = .ok (.iload 5, 2) := by decide +kernel
theorem dX13_isOutOfWindows_104 : decode cX13_isOutOfWindows 104 = .ok (.iadd, 1) := by decide +kernel
theorem dX13_isOutOfWindows_105 : decode cX13_isOutOfWindows 105 = .ok (.iaload, 1) := by decide +kernel
theorem dX13_isOutOfWindows_106 : decode cX13_isOutOfWindows 106 = .ok (.if_icmp .le 5, 3) := by decide +kernel
theorem dX13_isOutOfWindows_109 : decode cX13_isOutOfWindows 109 = .ok (.iconst 1, 1) := by decide +kernel
theorem dX13_isOutOfWindows_110 : decode cX13_isOutOfWindows 110 = .ok (.ireturn, 1) := by decide +kernel
theorem dX13_isOutOfWindows_111 : decode cX13_isOutOfWindows 111 = .ok (.iinc 5 1, 3) := by decide +kernel
theorem dX13_isOutOfWindows_114 : decode cX13_isOutOfWindows 114 = .ok (.goto (-96), 3) := by decide +kernel
theorem dX13_isOutOfWindows_117 : decode cX13_isOutOfWindows 117 = .ok (.iconst 0, 1) := by decide +kernel
theorem dX13_isOutOfWindows_118 : decode cX13_isOutOfWindows 118 = .ok (.ireturn, 1) := by decide +kernel
theorem hd_X13_isOutOfWindows : yX13_isOutOfWindows.cls = RX13 ∧ yX13_isOutOfWindows.cls ≠ "java/lang/invoke/MethodHandle" ∧ yX13_isOutOfWindows.cls ≠ "java/lang/invoke/VarHandle" ∧ (parseMethodDescriptor yX13_isOutOfWindows.desc).map (fun d => d.parameters.length) = some 3 := by decide +kernel
theorem hs_X13_isOutOfWindows : yX13_isOutOfWindows.cls ≠ "java/lang/invoke/MethodHandle" ∧ yX13_isOutOfWindows.cls ≠ "java/lang/invoke/VarHandle" ∧ (parseMethodDescriptor yX13_isOutOfWindows.desc).map (fun d => d.parameters.length) = some 3 := by decide +kernel
set_option maxHeartbeats 4000000 in
set_option maxRecDepth 100000 in
theorem l_X13_isOutOfWindows_L18 (C : CX p l e s m args meth c cX13_isOutOfWindows 6 RX13 (Option.some Jvm.ClassFile.FieldType.boolean) E) {o : Nat} (ho : K o = some (11, 0)) {r : Bool} {w' : Wd} (k : Int32 → Int32 → Int32 → Int32 → Int32 → Wd → Option (Bool × Wd)) (hk : ∀ (v1_18 : Int32) (v2_18 : Int32) (v3_18 : Int32) (v4_18 : Int32) (v5_18 : Int32) (w : Wd) (H : Heap) (locs : List Loc) (ls : Array Slot), HQ E K z w s H locs → lv_has ls 6 [(1, .int v1_18), (2, .int v2_18), (3, .int v3_18), (4, .int v4_18), (5, .int v5_18), (0, rv E (some o))] → k v1_18 v2_18 v3_18 v4_18 v5_18 w = some (r, w') → W p l e ({ frames := 1, cells := 0, slots := 0, locals := 25 } : Room) s m args below meth c H locs 0 0 (MQ below (QI E K z w' (b2i r)) args s 0 0 (hA E)) (F0 m 117 ls [])) : ∀ (n : Nat) (v1_18 : Int32) (v2_18 : Int32) (v3_18 : Int32) (v4_18 : Int32) (v5_18 : Int32) (w : Wd) (H : Heap) (locs : List Loc) (ls : Array Slot), HQ E K z w s H locs → lv_has ls 6 [(1, .int v1_18), (2, .int v2_18), (3, .int v3_18), (4, .int v4_18), (5, .int v5_18), (0, rv E (some o))] → f_X13_isOutOfWindows_L18 K o k n v1_18 v2_18 v3_18 v4_18 v5_18 w = some (r, w') → W p l e ({ frames := 1, cells := 0, slots := 0, locals := 25 } : Room) s m args below meth c H locs 0 0 (MQ below (QI E K z w' (b2i r)) args s 0 0 (hA E)) (F0 m 18 ls []) := by
  obtain ⟨hx, hb, hml, hown, hts, hKs, hT, hb0, hlocks, hret⟩ := id C
  intro n
  induction n with
  | zero =>
    intro v1_18 v2_18 v3_18 v4_18 v5_18 w H locs ls hH hl hf
    cases hf
  | succ n ih =>
    intro v1_18 v2_18 v3_18 v4_18 v5_18 w H locs ls hH hl hf
    rw [f_X13_isOutOfWindows_L18] at hf
    refine lv_iload hx hb dX13_isOutOfWindows_18 (lv_at hl 4 rfl) ?_
    refine hl_aload_n hx hb dX13_isOutOfWindows_20 rfl (lv_at hl 5 rfl) ?_
    refine g13_1 hx hb hts hown hKs hH rfl ho m6_182 dX13_isOutOfWindows_21 ?_
    refine lv_iconst (v := 2) hx hb dX13_isOutOfWindows_24 (by decide) ?_
    obtain ⟨a4, ha4, hf⟩ := bnd hf
    replace ha4 := cha_some ha4
    obtain ⟨j5, hj5, hf⟩ := bnd hf
    refine hw_iald hx hb hKs hH ha4.1 ha4.2 hj5 dX13_isOutOfWindows_25 ?_
    refine lv_icmp_ge (tgt := 117) hx hb dX13_isOutOfWindows_26 (by decide) (fun c6 => ?_) (fun c6 => ?_)
    · replace hf := (if_pos c6).symm.trans hf
      exact hk v1_18 v2_18 v3_18 v4_18 v5_18 _ _ _ _ hH (lv_sub hl [0, 1, 2, 3, 4, 5] rfl) hf
    · replace hf := (if_neg c6).symm.trans hf
      refine hl_aload_n hx hb dX13_isOutOfWindows_29 rfl (lv_at hl 5 rfl) ?_
      refine g13_1 hx hb hts hown hKs hH rfl ho m6_182 dX13_isOutOfWindows_30 ?_
      refine lv_sipush (v := 136) hx hb dX13_isOutOfWindows_33 (by decide) ?_
      refine lv_iload_n hx hb dX13_isOutOfWindows_36 rfl (lv_at hl 0 rfl) ?_
      refine lv_iadd hx hb dX13_isOutOfWindows_37 ?_
      obtain ⟨j7, hj7, hf⟩ := bnd hf
      refine hw_iald hx hb hKs hH ha4.1 ha4.2 hj7 dX13_isOutOfWindows_38 ?_
      refine lv_iload hx hb dX13_isOutOfWindows_39 (lv_at hl 4 rfl) ?_
      obtain ⟨q8, hq8, hf⟩ := bnd hf
      refine hcS_i hx hb hml hown hts hKs hT hb0 hH (As := [.int ((aI w a4.1 j7)), .int v5_18]) (rest := []) (k_X13_has l E K H.size (aI w a4.1 j7) v5_18 w hq8) (gS m7_223 m7_224 m1_16 m7_225) hs_X13_has ⟨Nat.le_of_ble_eq_true rfl, Nat.le_of_ble_eq_true rfl, rfl, rfl⟩ hl.1 rfl rc0 rfl dX13_isOutOfWindows_41 ⟨Nat.zero_le _, Nat.zero_le _⟩ (fun H locs hH => ?_)
      refine lv_if_ne (tgt := 50) hx hb dX13_isOutOfWindows_44 (by decide) (fun c9 => ?_) (fun c9 => ?_)
      · replace hf := (if_neg c9).symm.trans hf
        refine lv_iload_n hx hb dX13_isOutOfWindows_50 rfl (lv_at hl 1 rfl) ?_
        refine lv_i2l (v := (v2_18.toInt64)) hx hb dX13_isOutOfWindows_51 rfl ?_
        refine hl_aload_n hx hb dX13_isOutOfWindows_52 rfl (lv_at hl 5 rfl) ?_
        refine g13_1 hx hb hts hown hKs hH rfl ho m6_182 dX13_isOutOfWindows_53 ?_
        refine lv_bipush (v := 52) hx hb dX13_isOutOfWindows_56 (by decide) ?_
        refine lv_iload hx hb dX13_isOutOfWindows_58 (lv_at hl 4 rfl) ?_
        refine lv_iadd hx hb dX13_isOutOfWindows_60 ?_
        obtain ⟨a10, ha10, hf⟩ := bnd hf
        replace ha10 := cha_some ha10
        obtain ⟨j11, hj11, hf⟩ := bnd hf
        refine hw_iald hx hb hKs hH ha10.1 ha10.2 hj11 dX13_isOutOfWindows_61 ?_
        refine lv_i2l (v := ((aI q8.2 a10.1 j11).toInt64)) hx hb dX13_isOutOfWindows_62 rfl ?_
        refine hl_aload_n hx hb dX13_isOutOfWindows_63 rfl (lv_at hl 5 rfl) ?_
        refine g13_3 hx hb hts hown hKs hH rfl ho m6_184 dX13_isOutOfWindows_64 ?_
        refine lv_bipush (v := 22) hx hb dX13_isOutOfWindows_67 (by decide) ?_
        refine lv_iload hx hb dX13_isOutOfWindows_69 (lv_at hl 4 rfl) ?_
        refine lv_iadd hx hb dX13_isOutOfWindows_71 ?_
        obtain ⟨a12, ha12, hf⟩ := bnd hf
        replace ha12 := cha_some ha12
        obtain ⟨j13, hj13, hf⟩ := bnd hf
        refine hw_iald hx hb hKs hH ha12.1 ha12.2 hj13 dX13_isOutOfWindows_72 ?_
        refine lv_i2l (v := ((aI q8.2 a12.1 j13).toInt64)) hx hb dX13_isOutOfWindows_73 rfl ?_
        obtain ⟨q14, hq14, hf⟩ := bnd hf
        refine hcS_i hx hb hml hown hts hKs hT hb0 hH (As := [.long (v2_18.toInt64), .long ((aI q8.2 a10.1 j11).toInt64), .long ((aI q8.2 a12.1 j13).toInt64)]) (rest := []) (k_X13_isIn l E K H.size (v2_18.toInt64) ((aI q8.2 a10.1 j11).toInt64) ((aI q8.2 a12.1 j13).toInt64) q8.2 hq14) (gS m7_88 m7_89 m1_16 m7_90) hs_X13_isIn ⟨Nat.le_of_ble_eq_true rfl, Nat.le_of_ble_eq_true rfl, rfl, rfl⟩ hl.1 rfl rc0 rfl dX13_isOutOfWindows_74 ⟨Nat.zero_le _, Nat.zero_le _⟩ (fun H locs hH => ?_)
        refine lv_if_eq (tgt := 109) hx hb dX13_isOutOfWindows_77 (by decide) (fun c15 => ?_) (fun c15 => ?_)
        · replace hf := (if_pos c15).symm.trans hf
          refine lv_iconst (v := 1) hx hb dX13_isOutOfWindows_109 (by decide) ?_
          exact hw_zret hx hb hret rfl hf hH hlocks dX13_isOutOfWindows_110
        · replace hf := (if_neg c15).symm.trans hf
          refine lv_iload_n hx hb dX13_isOutOfWindows_80 rfl (lv_at hl 2 rfl) ?_
          refine hl_aload_n hx hb dX13_isOutOfWindows_81 rfl (lv_at hl 5 rfl) ?_
          refine g13_1 hx hb hts hown hKs hH rfl ho m6_182 dX13_isOutOfWindows_82 ?_
          refine lv_bipush (v := 64) hx hb dX13_isOutOfWindows_85 (by decide) ?_
          refine lv_iload hx hb dX13_isOutOfWindows_87 (lv_at hl 4 rfl) ?_
          refine lv_iadd hx hb dX13_isOutOfWindows_89 ?_
          obtain ⟨a16, ha16, hf⟩ := bnd hf
          replace ha16 := cha_some ha16
          obtain ⟨j17, hj17, hf⟩ := bnd hf
          refine hw_iald hx hb hKs hH ha16.1 ha16.2 hj17 dX13_isOutOfWindows_90 ?_
          refine lv_icmp_lt (tgt := 109) hx hb dX13_isOutOfWindows_91 (by decide) (fun c18 => ?_) (fun c18 => ?_)
          · replace hf := (if_pos c18).symm.trans hf
            refine lv_iconst (v := 1) hx hb dX13_isOutOfWindows_109 (by decide) ?_
            exact hw_zret hx hb hret rfl hf hH hlocks dX13_isOutOfWindows_110
          · replace hf := (if_neg c18).symm.trans hf
            refine lv_iload hx hb dX13_isOutOfWindows_94 (lv_at hl 3 rfl) ?_
            refine hl_aload_n hx hb dX13_isOutOfWindows_96 rfl (lv_at hl 5 rfl) ?_
            refine g13_1 hx hb hts hown hKs hH rfl ho m6_182 dX13_isOutOfWindows_97 ?_
            refine lv_bipush (v := 76) hx hb dX13_isOutOfWindows_100 (by decide) ?_
            refine lv_iload hx hb dX13_isOutOfWindows_102 (lv_at hl 4 rfl) ?_
            refine lv_iadd hx hb dX13_isOutOfWindows_104 ?_
            obtain ⟨j19, hj19, hf⟩ := bnd hf
            refine hw_iald hx hb hKs hH ha16.1 ha16.2 hj19 dX13_isOutOfWindows_105 ?_
            refine lv_icmp_le (tgt := 111) hx hb dX13_isOutOfWindows_106 (by decide) (fun c20 => ?_) (fun c20 => ?_)
            · replace hf := (if_pos c20).symm.trans hf
              refine lv_iinc (v := (v5_18 + 1)) (lv' := [(5, .int ((v5_18 + 1))), (1, .int v1_18), (2, .int v2_18), (3, .int v3_18), (4, .int v4_18), (0, rv E (some o))]) hx hb dX13_isOutOfWindows_111 hl (k := 4) rfl rfl (by decide) rfl (fun ls hl => ?_)
              refine lv_goto (tgt := 18) hx hb dX13_isOutOfWindows_114 (by decide) ?_
              exact ih v1_18 v2_18 v3_18 v4_18 (v5_18 + 1) _ _ _ _ hH (lv_sub hl [1, 2, 3, 4, 0, 5] rfl) hf
            · replace hf := (if_neg c20).symm.trans hf
              refine lv_iconst (v := 1) hx hb dX13_isOutOfWindows_109 (by decide) ?_
              exact hw_zret hx hb hret rfl hf hH hlocks dX13_isOutOfWindows_110
      · replace hf := (if_pos c9).symm.trans hf
        refine lv_goto (tgt := 111) hx hb dX13_isOutOfWindows_47 (by decide) ?_
        refine lv_iinc (v := (v5_18 + 1)) (lv' := [(5, .int ((v5_18 + 1))), (1, .int v1_18), (2, .int v2_18), (3, .int v3_18), (4, .int v4_18), (0, rv E (some o))]) hx hb dX13_isOutOfWindows_111 hl (k := 4) rfl rfl (by decide) rfl (fun ls hl => ?_)
        refine lv_goto (tgt := 18) hx hb dX13_isOutOfWindows_114 (by decide) ?_
        exact ih v1_18 v2_18 v3_18 v4_18 (v5_18 + 1) _ _ _ _ hH (lv_sub hl [1, 2, 3, 4, 0, 5] rfl) hf
set_option maxHeartbeats 4000000 in
set_option maxRecDepth 100000 in
theorem k_X13_isOutOfWindows (l : Launch) (E : Ev) (K : Kd) (z : Nat) (o : Nat) (a_1 : Int32) (a_2 : Int32) (a_3 : Int32) (w : Wd) (ho : K o = some (11, 0)) {r : Bool} {w' : Wd} (hf : f_X13_isOutOfWindows K o a_1 a_2 a_3 w = some (r, w')) : Met l yX13_isOutOfWindows (Cond.code yX13_isOutOfWindows cX13_isOutOfWindows 6 (Option.some Jvm.ClassFile.FieldType.boolean) :: bt) ({ frames := 1, cells := 0, slots := 0, locals := 25 } : Room) (va_Pc [rv E (some o), .int a_1, .int a_2, .int a_3] (HB E K w z)) (QI E K z w' (b2i r)) 0 0 (hA E) := by
  refine Met.ofW (cc := cX13_isOutOfWindows) (maxL := 6) (ret := (Option.some Jvm.ClassFile.FieldType.boolean)) (by decide) rfl ?_
  intro p e s m args below meth c s₁ B hml hv
  obtain ⟨rfl, hz, hP, hKs, hT, hb0⟩ := hv
  have C : CX p l e s m _ meth c cX13_isOutOfWindows 6 RX13 (Option.some Jvm.ClassFile.FieldType.boolean) E := ⟨B.exec, B.bytes, hml, findClass_of_methodNamed B.named, fun w h => atoms_spec (ws := Cond.code yX13_isOutOfWindows cX13_isOutOfWindows 6 (Option.some Jvm.ClassFile.FieldType.boolean) :: bt) B.pre w (List.mem_cons_of_mem _ h), hKs, hT, by rw [hz]; exact hb0, B.notSynchronized, B.returns⟩
  have hH : HQ E K z w s s.heap [] := ⟨hP, va_S.rf, hz⟩
  obtain ⟨hx, hb, hml, hown, hts, hKs, hT, hb0, hlocks, hret⟩ := id C
  have hl := lv_entry [rv E (some o), .int a_1, .int a_2, .int a_3] (n := 6) (by simp [lg_len_nil, lg_len_i, lg_len_j, lg_len_q, lg_len_f, lg_len_d, lg_len_r])
  rw [lg_entry_eq]
  generalize (lg_sl [rv E (some o), .int a_1, .int a_2, .int a_3] ++ List.replicate (6 - (lg_sl [rv E (some o), .int a_1, .int a_2, .int a_3]).length) Slot.unset).toArray = ls at hl ⊢
  replace hl : lv_has ls 6 [(0, rv E (some o)), (1, .int a_1), (2, .int a_2), (3, .int a_3)] := by simpa only [lv_args, cat_q, cat_i, cat_j, reduceIte, Nat.reduceEqDiff, Nat.reduceAdd, Nat.zero_add] using hl
  generalize s.heap = H at hH ⊢
  unfold f_X13_isOutOfWindows at hf
  refine lv_iload_n hx hb dX13_isOutOfWindows_0 rfl (lv_at hl 3 rfl) ?_
  refine hl_aload_n hx hb dX13_isOutOfWindows_1 rfl (lv_at hl 0 rfl) ?_
  refine g13_1 hx hb hts hown hKs hH rfl ho m6_182 dX13_isOutOfWindows_2 ?_
  refine lv_bipush (v := 100) hx hb dX13_isOutOfWindows_5 (by decide) ?_
  refine lv_iload_n hx hb dX13_isOutOfWindows_7 rfl (lv_at hl 1 rfl) ?_
  refine lv_iadd hx hb dX13_isOutOfWindows_8 ?_
  obtain ⟨a1, ha1, hf⟩ := bnd hf
  replace ha1 := cha_some ha1
  obtain ⟨j2, hj2, hf⟩ := bnd hf
  refine hw_iald hx hb hKs hH ha1.1 ha1.2 hj2 dX13_isOutOfWindows_9 ?_
  refine lv_iadd hx hb dX13_isOutOfWindows_10 ?_
  refine lv_iconst (v := 1) hx hb dX13_isOutOfWindows_11 (by decide) ?_
  refine lv_isub hx hb dX13_isOutOfWindows_12 ?_
  refine lv_istore (i := 4) (lv' := [(4, .int (((a_3 + (aI w a1.1 j2)) - 1))), (0, rv E (some o)), (1, .int a_1), (2, .int a_2), (3, .int a_3)]) hx hb dX13_isOutOfWindows_13 hl (by decide) rfl (fun ls hl => ?_)
  refine lv_iconst (v := 0) hx hb dX13_isOutOfWindows_15 (by decide) ?_
  refine lv_istore (i := 5) (lv' := [(5, .int 0), (4, .int (((a_3 + (aI w a1.1 j2)) - 1))), (0, rv E (some o)), (1, .int a_1), (2, .int a_2), (3, .int a_3)]) hx hb dX13_isOutOfWindows_16 hl (by decide) rfl (fun ls hl => ?_)
  refine l_X13_isOutOfWindows_L18  C ho _ (fun v1_18 v2_18 v3_18 v4_18 v5_18 w3 H locs ls hH hl hf => ?_) fu a_1 a_2 a_3 ((a_3 + (aI w a1.1 j2)) - 1) 0 w _ _ _ hH (lv_sub hl [3, 4, 5, 1, 0, 2] rfl) hf
  refine lv_iconst (v := 0) hx hb dX13_isOutOfWindows_117 (by decide) ?_
  exact hw_zret hx hb hret rfl hf hH hlocks dX13_isOutOfWindows_118

theorem dX13_isWitnessTaken_0 : decode cX13_isWitnessTaken 0 = .ok (.iconst 0, 1) := by decide +kernel
theorem dX13_isWitnessTaken_1 : decode cX13_isWitnessTaken 1 = .ok (.istore 4, 2) := by decide +kernel
theorem dX13_isWitnessTaken_3 : decode cX13_isWitnessTaken 3 = .ok (.iload 4, 2) := by decide +kernel
theorem dX13_isWitnessTaken_5 : decode cX13_isWitnessTaken 5 = .ok (.aload_n 0, 1) := by decide +kernel
theorem dX13_isWitnessTaken_6 : decode cX13_isWitnessTaken 6 = .ok (.getfield 7, 3) := by decide +kernel
theorem dX13_isWitnessTaken_9 : decode cX13_isWitnessTaken 9 = .ok (.iconst 3, 1) := by decide +kernel
theorem dX13_isWitnessTaken_10 : decode cX13_isWitnessTaken 10 = .ok (.iaload, 1) := by decide +kernel
theorem dX13_isWitnessTaken_11 : decode cX13_isWitnessTaken 11 = .ok (.if_icmp .ge 48, 3) := by decide +kernel
theorem dX13_isWitnessTaken_14 : decode cX13_isWitnessTaken 14 = .ok (.aload_n 0, 1) := by decide +kernel
theorem dX13_isWitnessTaken_15 : decode cX13_isWitnessTaken 15 = .ok (.iload 4, 2) := by decide +kernel
theorem dX13_isWitnessTaken_17 : decode cX13_isWitnessTaken 17 = .ok (.iload_n 1, 1) := by decide +kernel
theorem dX13_isWitnessTaken_18 : decode cX13_isWitnessTaken 18 = .ok (.iload_n 2, 1) := by decide +kernel
theorem dX13_isWitnessTaken_19 : decode cX13_isWitnessTaken 19 = .ok (.iload_n 3, 1) := by decide +kernel
theorem dX13_isWitnessTaken_20 : decode cX13_isWitnessTaken 20 = .ok (.invokevirtual 170, 3) := by decide +kernel
theorem dX13_isWitnessTaken_23 : decode cX13_isWitnessTaken 23 = .ok (.ifCond .eq 30, 3) := by decide +kernel
theorem dX13_isWitnessTaken_26 : decode cX13_isWitnessTaken 26 = .ok (.aload_n 0, 1) := by decide +kernel
theorem dX13_isWitnessTaken_27 : decode cX13_isWitnessTaken 27 = .ok (.getfield 7, 3) := by decide +kernel
theorem dX13_isWitnessTaken_30 : decode cX13_isWitnessTaken 30 = .ok (.sipush 136, 3) := by decide +kernel
theorem dX13_isWitnessTaken_33 : decode cX13_isWitnessTaken 33 = .ok (.iload 4, 2) := by decide +kernel
theorem dX13_isWitnessTaken_35 : decode cX13_isWitnessTaken 35 = .ok (.iadd, 1) := by decide +kernel
theorem dX13_isWitnessTaken_36 : decode cX13_isWitnessTaken 36 = .ok (.iaload, 1) := by decide +kernel
theorem dX13_isWitnessTaken_37 : decode cX13_isWitnessTaken 37 = .ok (.aload_n 0, 1) := by decide +kernel
theorem dX13_isWitnessTaken_38 : decode cX13_isWitnessTaken 38 = .ok (.getfield 7, 3) := by decide +kernel
theorem dX13_isWitnessTaken_41 : decode cX13_isWitnessTaken 41 = .ok (.sipush 136, 3) := by decide +kernel
theorem dX13_isWitnessTaken_44 : decode cX13_isWitnessTaken 44 = .ok (.iload_n 1, 1) := by decide +kernel
theorem dX13_isWitnessTaken_45 : decode cX13_isWitnessTaken 45 = .ok (.iadd, 1) := by decide +kernel
theorem dX13_isWitnessTaken_46 : decode cX13_isWitnessTaken 46 = .ok (.iaload, 1) := by decide +kernel
theorem dX13_isWitnessTaken_47 : decode cX13_isWitnessTaken 47 = .ok (.iand, 1) := by decide +kernel
theorem dX13_isWitnessTaken_48 : decode cX13_isWitnessTaken 48 = .ok (.ifCond .eq 5, 3) := by decide +kernel
theorem dX13_isWitnessTaken_51 : decode cX13_isWitnessTaken 51 = .ok (.iconst 1, 1) := by decide +kernel
theorem dX13_isWitnessTaken_52 : decode cX13_isWitnessTaken 52 = .ok (.ireturn, 1) := by decide +kernel
theorem dX13_isWitnessTaken_53 : decode cX13_isWitnessTaken 53 = .ok (.iinc 4 1, 3) := by decide +kernel
theorem dX13_isWitnessTaken_56 : decode cX13_isWitnessTaken 56 = .ok (.goto (-53), 3) := by decide +kernel
theorem dX13_isWitnessTaken_59 : decode cX13_isWitnessTaken 59 = .ok (.iconst 0, 1) := by decide +kernel
theorem dX13_isWitnessTaken_60 : decode cX13_isWitnessTaken 60 = .ok (.ireturn, 1) := by decide +kernel
theorem hd_X13_isWitnessTaken : yX13_isWitnessTaken.cls = RX13 ∧ yX13_isWitnessTaken.cls ≠ "java/lang/invoke/MethodHandle" ∧ yX13_isWitnessTaken.cls ≠ "java/lang/invoke/VarHandle" ∧ (parseMethodDescriptor yX13_isWitnessTaken.desc).map (fun d => d.parameters.length) = some 3 := by decide +kernel
theorem hs_X13_isWitnessTaken : yX13_isWitnessTaken.cls ≠ "java/lang/invoke/MethodHandle" ∧ yX13_isWitnessTaken.cls ≠ "java/lang/invoke/VarHandle" ∧ (parseMethodDescriptor yX13_isWitnessTaken.desc).map (fun d => d.parameters.length) = some 3 := by decide +kernel
set_option maxHeartbeats 4000000 in
set_option maxRecDepth 100000 in
theorem l_X13_isWitnessTaken_L3 (C : CX p l e s m args meth c cX13_isWitnessTaken 5 RX13 (Option.some Jvm.ClassFile.FieldType.boolean) E) {o : Nat} (ho : K o = some (11, 0)) {r : Bool} {w' : Wd} (k : Int32 → Int32 → Int32 → Int32 → Wd → Option (Bool × Wd)) (hk : ∀ (v1_3 : Int32) (v2_3 : Int32) (v3_3 : Int32) (v4_3 : Int32) (w : Wd) (H : Heap) (locs : List Loc) (ls : Array Slot), HQ E K z w s H locs → lv_has ls 5 [(1, .int v1_3), (2, .int v2_3), (3, .int v3_3), (4, .int v4_3), (0, rv E (some o))] → k v1_3 v2_3 v3_3 v4_3 w = some (r, w') → W p l e ({ frames := 4, cells := 0, slots := 0, locals := 90 } : Room) s m args below meth c H locs 0 0 (MQ below (QI E K z w' (b2i r)) args s 0 0 (hA E)) (F0 m 59 ls [])) : ∀ (n : Nat) (v1_3 : Int32) (v2_3 : Int32) (v3_3 : Int32) (v4_3 : Int32) (w : Wd) (H : Heap) (locs : List Loc) (ls : Array Slot), HQ E K z w s H locs → lv_has ls 5 [(1, .int v1_3), (2, .int v2_3), (3, .int v3_3), (4, .int v4_3), (0, rv E (some o))] → f_X13_isWitnessTaken_L3 K o k n v1_3 v2_3 v3_3 v4_3 w = some (r, w') → W p l e ({ frames := 4, cells := 0, slots := 0, locals := 90 } : Room) s m args below meth c H locs 0 0 (MQ below (QI E K z w' (b2i r)) args s 0 0 (hA E)) (F0 m 3 ls []) := by
  obtain ⟨hx, hb, hml, hown, hts, hKs, hT, hb0, hlocks, hret⟩ := id C
  intro n
  induction n with
  | zero =>
    intro v1_3 v2_3 v3_3 v4_3 w H locs ls hH hl hf
    cases hf
  | succ n ih =>
    intro v1_3 v2_3 v3_3 v4_3 w H locs ls hH hl hf
    rw [f_X13_isWitnessTaken_L3] at hf
    refine lv_iload hx hb dX13_isWitnessTaken_3 (lv_at hl 3 rfl) ?_
    refine hl_aload_n hx hb dX13_isWitnessTaken_5 rfl (lv_at hl 4 rfl) ?_
    refine g13_1 hx hb hts hown hKs hH rfl ho m6_182 dX13_isWitnessTaken_6 ?_
    refine lv_iconst (v := 3) hx hb dX13_isWitnessTaken_9 (by decide) ?_
    obtain ⟨a2, ha2, hf⟩ := bnd hf
    replace ha2 := cha_some ha2
    obtain ⟨j3, hj3, hf⟩ := bnd hf
    refine hw_iald hx hb hKs hH ha2.1 ha2.2 hj3 dX13_isWitnessTaken_10 ?_
    refine lv_icmp_ge (tgt := 59) hx hb dX13_isWitnessTaken_11 (by decide) (fun c4 => ?_) (fun c4 => ?_)
    · replace hf := (if_pos c4).symm.trans hf
      exact hk v1_3 v2_3 v3_3 v4_3 _ _ _ _ hH (lv_sub hl [0, 1, 2, 3, 4] rfl) hf
    · replace hf := (if_neg c4).symm.trans hf
      refine hl_aload_n hx hb dX13_isWitnessTaken_14 rfl (lv_at hl 4 rfl) ?_
      refine lv_iload hx hb dX13_isWitnessTaken_15 (lv_at hl 3 rfl) ?_
      refine lv_iload_n hx hb dX13_isWitnessTaken_17 rfl (lv_at hl 0 rfl) ?_
      refine lv_iload_n hx hb dX13_isWitnessTaken_18 rfl (lv_at hl 1 rfl) ?_
      refine lv_iload_n hx hb dX13_isWitnessTaken_19 rfl (lv_at hl 2 rfl) ?_
      obtain ⟨q5, hq5, hf⟩ := bnd hf
      refine hcV_i hx hb hml hown hts hKs hT hb0 hH (As := [.int v4_3, .int v1_3, .int v2_3, .int v3_3]) (rest := []) (k_X13_meets l E K H.size o v4_3 v1_3 v2_3 v3_3 w ho hq5) (gV m7_207 m7_209 ms_67 m1_16 m7_210) hd_X13_meets ⟨Nat.le_of_ble_eq_true rfl, Nat.le_of_ble_eq_true rfl, rfl, rfl⟩ rfl ho rfl rfl rfl hl.1 rfl rc0 rfl dX13_isWitnessTaken_20 ⟨Nat.zero_le _, Nat.zero_le _⟩ (fun H locs hH => ?_)
      refine lv_if_eq (tgt := 53) hx hb dX13_isWitnessTaken_23 (by decide) (fun c6 => ?_) (fun c6 => ?_)
      · replace hf := (if_pos c6).symm.trans hf
        refine lv_iinc (v := (v4_3 + 1)) (lv' := [(4, .int ((v4_3 + 1))), (1, .int v1_3), (2, .int v2_3), (3, .int v3_3), (0, rv E (some o))]) hx hb dX13_isWitnessTaken_53 hl (k := 3) rfl rfl (by decide) rfl (fun ls hl => ?_)
        refine lv_goto (tgt := 3) hx hb dX13_isWitnessTaken_56 (by decide) ?_
        exact ih v1_3 v2_3 v3_3 (v4_3 + 1) _ _ _ _ hH (lv_sub hl [1, 2, 3, 0, 4] rfl) hf
      · replace hf := (if_neg c6).symm.trans hf
        refine hl_aload_n hx hb dX13_isWitnessTaken_26 rfl (lv_at hl 4 rfl) ?_
        refine g13_1 hx hb hts hown hKs hH rfl ho m6_182 dX13_isWitnessTaken_27 ?_
        refine lv_sipush (v := 136) hx hb dX13_isWitnessTaken_30 (by decide) ?_
        refine lv_iload hx hb dX13_isWitnessTaken_33 (lv_at hl 3 rfl) ?_
        refine lv_iadd hx hb dX13_isWitnessTaken_35 ?_
        obtain ⟨a7, ha7, hf⟩ := bnd hf
        replace ha7 := cha_some ha7
        obtain ⟨j8, hj8, hf⟩ := bnd hf
        refine hw_iald hx hb hKs hH ha7.1 ha7.2 hj8 dX13_isWitnessTaken_36 ?_
        refine hl_aload_n hx hb dX13_isWitnessTaken_37 rfl (lv_at hl 4 rfl) ?_
        refine g13_1 hx hb hts hown hKs hH rfl ho m6_182 dX13_isWitnessTaken_38 ?_
        refine lv_sipush (v := 136) hx hb dX13_isWitnessTaken_41 (by decide) ?_
        refine lv_iload_n hx hb dX13_isWitnessTaken_44 rfl (lv_at hl 0 rfl) ?_
        refine lv_iadd hx hb dX13_isWitnessTaken_45 ?_
        obtain ⟨j9, hj9, hf⟩ := bnd hf
        refine hw_iald hx hb hKs hH ha7.1 ha7.2 hj9 dX13_isWitnessTaken_46 ?_
        refine lv_iand hx hb dX13_isWitnessTaken_47 ?_
        refine lv_if_eq (tgt := 53) hx hb dX13_isWitnessTaken_48 (by decide) (fun c10 => ?_) (fun c10 => ?_)
        · replace hf := (if_pos c10).symm.trans hf
          refine lv_iinc (v := (v4_3 + 1)) (lv' := [(4, .int ((v4_3 + 1))), (1, .int v1_3), (2, .int v2_3), (3, .int v3_3), (0, rv E (some o))]) hx hb dX13_isWitnessTaken_53 hl (k := 3) rfl rfl (by decide) rfl (fun ls hl => ?_)
          refine lv_goto (tgt := 3) hx hb dX13_isWitnessTaken_56 (by decide) ?_
          exact ih v1_3 v2_3 v3_3 (v4_3 + 1) _ _ _ _ hH (lv_sub hl [1, 2, 3, 0, 4] rfl) hf
        · replace hf := (if_neg c10).symm.trans hf
          refine lv_iconst (v := 1) hx hb dX13_isWitnessTaken_51 (by decide) ?_
          exact hw_zret hx hb hret rfl hf hH hlocks dX13_isWitnessTaken_52
set_option maxHeartbeats 4000000 in
set_option maxRecDepth 100000 in
theorem k_X13_isWitnessTaken (l : Launch) (E : Ev) (K : Kd) (z : Nat) (o : Nat) (a_1 : Int32) (a_2 : Int32) (a_3 : Int32) (w : Wd) (ho : K o = some (11, 0)) {r : Bool} {w' : Wd} (hf : f_X13_isWitnessTaken K o a_1 a_2 a_3 w = some (r, w')) : Met l yX13_isWitnessTaken (Cond.code yX13_isWitnessTaken cX13_isWitnessTaken 5 (Option.some Jvm.ClassFile.FieldType.boolean) :: bt) ({ frames := 4, cells := 0, slots := 0, locals := 90 } : Room) (va_Pc [rv E (some o), .int a_1, .int a_2, .int a_3] (HB E K w z)) (QI E K z w' (b2i r)) 0 0 (hA E) := by
  refine Met.ofW (cc := cX13_isWitnessTaken) (maxL := 5) (ret := (Option.some Jvm.ClassFile.FieldType.boolean)) (by decide) rfl ?_
  intro p e s m args below meth c s₁ B hml hv
  obtain ⟨rfl, hz, hP, hKs, hT, hb0⟩ := hv
  have C : CX p l e s m _ meth c cX13_isWitnessTaken 5 RX13 (Option.some Jvm.ClassFile.FieldType.boolean) E := ⟨B.exec, B.bytes, hml, findClass_of_methodNamed B.named, fun w h => atoms_spec (ws := Cond.code yX13_isWitnessTaken cX13_isWitnessTaken 5 (Option.some Jvm.ClassFile.FieldType.boolean) :: bt) B.pre w (List.mem_cons_of_mem _ h), hKs, hT, by rw [hz]; exact hb0, B.notSynchronized, B.returns⟩
  have hH : HQ E K z w s s.heap [] := ⟨hP, va_S.rf, hz⟩
  obtain ⟨hx, hb, hml, hown, hts, hKs, hT, hb0, hlocks, hret⟩ := id C
  have hl := lv_entry [rv E (some o), .int a_1, .int a_2, .int a_3] (n := 5) (by simp [lg_len_nil, lg_len_i, lg_len_j, lg_len_q, lg_len_f, lg_len_d, lg_len_r])
  rw [lg_entry_eq]
  generalize (lg_sl [rv E (some o), .int a_1, .int a_2, .int a_3] ++ List.replicate (5 - (lg_sl [rv E (some o), .int a_1, .int a_2, .int a_3]).length) Slot.unset).toArray = ls at hl ⊢
  replace hl : lv_has ls 5 [(0, rv E (some o)), (1, .int a_1), (2, .int a_2), (3, .int a_3)] := by simpa only [lv_args, cat_q, cat_i, cat_j, reduceIte, Nat.reduceEqDiff, Nat.reduceAdd, Nat.zero_add] using hl
  generalize s.heap = H at hH ⊢
  unfold f_X13_isWitnessTaken at hf
  refine lv_iconst (v := 0) hx hb dX13_isWitnessTaken_0 (by decide) ?_
  refine lv_istore (i := 4) (lv' := [(4, .int 0), (0, rv E (some o)), (1, .int a_1), (2, .int a_2), (3, .int a_3)]) hx hb dX13_isWitnessTaken_1 hl (by decide) rfl (fun ls hl => ?_)
  refine l_X13_isWitnessTaken_L3  C ho _ (fun v1_3 v2_3 v3_3 v4_3 w1 H locs ls hH hl hf => ?_) fu a_1 a_2 a_3 0 w _ _ _ hH (lv_sub hl [2, 3, 4, 0, 1] rfl) hf
  refine lv_iconst (v := 0) hx hb dX13_isWitnessTaken_59 (by decide) ?_
  exact hw_zret hx hb hret rfl hf hH hlocks dX13_isWitnessTaken_60

theorem dX13_isDayOut_0 : decode cX13_isDayOut 0 = .ok (.iload_n 2, 1) := by decide +kernel
theorem dX13_isDayOut_1 : decode cX13_isDayOut 1 = .ok (.aload_n 0, 1) := by decide +kernel
theorem dX13_isDayOut_2 : decode cX13_isDayOut 2 = .ok (.getfield 16, 3) := by decide +kernel
theorem dX13_isDayOut_5 : decode cX13_isDayOut 5 = .ok (.iconst 0, 1) := by decide +kernel
theorem dX13_isDayOut_6 : decode cX13_isDayOut 6 = .ok (.iaload, 1) := by decide +kernel
theorem dX13_isDayOut_7 : decode cX13_isDayOut 7 = .ok (.if_icmp .lt 24, 3) := by decide +kernel
theorem dX13_isDayOut_10 : decode cX13_isDayOut 10 = .ok (.iload_n 2, 1) := by decide +kernel
theorem dX13_isDayOut_11 : decode cX13_isDayOut 11 = .ok (.aload_n 0, 1) := by decide +kernel
theorem dX13_isDayOut_12 : decode cX13_isDayOut 12 = .ok (.getfield 7, 3) := by decide +kernel
theorem dX13_isDayOut_15 : decode cX13_isDayOut 15 = .ok (.bipush 88, 2) := by decide +kernel
theorem dX13_isDayOut_17 : decode cX13_isDayOut 17 = .ok (.iload_n 1, 1) := by decide +kernel
theorem dX13_isDayOut_18 : decode cX13_isDayOut 18 = .ok (.iadd, 1) := by decide +kernel
theorem dX13_isDayOut_19 : decode cX13_isDayOut 19 = .ok (.iaload, 1) := by decide +kernel
theorem dX13_isDayOut_20 : decode cX13_isDayOut 20 = .ok (.if_icmp .lt 11, 3) := by decide +kernel
theorem dX13_isDayOut_23 : decode cX13_isDayOut 23 = .ok (.aload_n 0, 1) := by decide +kernel
theorem dX13_isDayOut_24 : decode cX13_isDayOut 24 = .ok (.iload_n 2, 1) := by decide +kernel
theorem dX13_isDayOut_25 : decode cX13_isDayOut 25 = .ok (.invokevirtual 118, 3) := by decide +kernel
theorem dX13_isDayOut_28 : decode cX13_isDayOut 28 = .ok (.ifCond .ne 7, 3) := by decide +kernel
theorem dX13_isDayOut_31 : decode cX13_isDayOut 31 = .ok (.iconst 1, 1) := by decide +kernel
theorem dX13_isDayOut_32 : decode cX13_isDayOut 32 = .ok (.goto 4, 3) := by decide +kernel
theorem dX13_isDayOut_35 : decode cX13_isDayOut 35 = .ok (.iconst 0, 1) := by decide +kernel
theorem dX13_isDayOut_36 : decode cX13_isDayOut 36 = .ok (.ireturn, 1) := by decide +kernel
theorem hd_X13_isDayOut : yX13_isDayOut.cls = RX13 ∧ yX13_isDayOut.cls ≠ "java/lang/invoke/MethodHandle" ∧ yX13_isDayOut.cls ≠ "java/lang/invoke/VarHandle" ∧ (parseMethodDescriptor yX13_isDayOut.desc).map (fun d => d.parameters.length) = some 2 := by decide +kernel
theorem hs_X13_isDayOut : yX13_isDayOut.cls ≠ "java/lang/invoke/MethodHandle" ∧ yX13_isDayOut.cls ≠ "java/lang/invoke/VarHandle" ∧ (parseMethodDescriptor yX13_isDayOut.desc).map (fun d => d.parameters.length) = some 2 := by decide +kernel
set_option maxHeartbeats 4000000 in
set_option maxRecDepth 100000 in
theorem k_X13_isDayOut (l : Launch) (E : Ev) (K : Kd) (z : Nat) (o : Nat) (a_1 : Int32) (a_2 : Int32) (w : Wd) (ho : K o = some (11, 0)) {r : Bool} {w' : Wd} (hf : f_X13_isDayOut K o a_1 a_2 w = some (r, w')) : Met l yX13_isDayOut (Cond.code yX13_isDayOut cX13_isDayOut 3 (Option.some Jvm.ClassFile.FieldType.boolean) :: bt) ({ frames := 2, cells := 0, slots := 0, locals := 43 } : Room) (va_Pc [rv E (some o), .int a_1, .int a_2] (HB E K w z)) (QI E K z w' (b2i r)) 0 0 (hA E) := by
  refine Met.ofW (cc := cX13_isDayOut) (maxL := 3) (ret := (Option.some Jvm.ClassFile.FieldType.boolean)) (by decide) rfl ?_
  intro p e s m args below meth c s₁ B hml hv
  obtain ⟨rfl, hz, hP, hKs, hT, hb0⟩ := hv
  have C : CX p l e s m _ meth c cX13_isDayOut 3 RX13 (Option.some Jvm.ClassFile.FieldType.boolean) E := ⟨B.exec, B.bytes, hml, findClass_of_methodNamed B.named, fun w h => atoms_spec (ws := Cond.code yX13_isDayOut cX13_isDayOut 3 (Option.some Jvm.ClassFile.FieldType.boolean) :: bt) B.pre w (List.mem_cons_of_mem _ h), hKs, hT, by rw [hz]; exact hb0, B.notSynchronized, B.returns⟩
  have hH : HQ E K z w s s.heap [] := ⟨hP, va_S.rf, hz⟩
  obtain ⟨hx, hb, hml, hown, hts, hKs, hT, hb0, hlocks, hret⟩ := id C
  have hl := lv_entry [rv E (some o), .int a_1, .int a_2] (n := 3) (by simp [lg_len_nil, lg_len_i, lg_len_j, lg_len_q, lg_len_f, lg_len_d, lg_len_r])
  rw [lg_entry_eq]
  generalize (lg_sl [rv E (some o), .int a_1, .int a_2] ++ List.replicate (3 - (lg_sl [rv E (some o), .int a_1, .int a_2]).length) Slot.unset).toArray = ls at hl ⊢
  replace hl : lv_has ls 3 [(0, rv E (some o)), (1, .int a_1), (2, .int a_2)] := by simpa only [lv_args, cat_q, cat_i, cat_j, reduceIte, Nat.reduceEqDiff, Nat.reduceAdd, Nat.zero_add] using hl
  generalize s.heap = H at hH ⊢
  unfold f_X13_isDayOut at hf
  refine lv_iload_n hx hb dX13_isDayOut_0 rfl (lv_at hl 2 rfl) ?_
  refine hl_aload_n hx hb dX13_isDayOut_1 rfl (lv_at hl 0 rfl) ?_
  refine g13_3 hx hb hts hown hKs hH rfl ho m6_184 dX13_isDayOut_2 ?_
  refine lv_iconst (v := 0) hx hb dX13_isDayOut_5 (by decide) ?_
  obtain ⟨a1, ha1, hf⟩ := bnd hf
  replace ha1 := cha_some ha1
  obtain ⟨j2, hj2, hf⟩ := bnd hf
  refine hw_iald hx hb hKs hH ha1.1 ha1.2 hj2 dX13_isDayOut_6 ?_
  refine lv_icmp_lt (tgt := 31) hx hb dX13_isDayOut_7 (by decide) (fun c3 => ?_) (fun c3 => ?_)
  · replace hf := (if_pos c3).symm.trans hf
    refine lv_iconst (v := 1) hx hb dX13_isDayOut_31 (by decide) ?_
    refine lv_goto (tgt := 36) hx hb dX13_isDayOut_32 (by decide) ?_
    exact hw_zret hx hb hret rfl hf hH hlocks dX13_isDayOut_36
  · replace hf := (if_neg c3).symm.trans hf
    refine lv_iload_n hx hb dX13_isDayOut_10 rfl (lv_at hl 2 rfl) ?_
    refine hl_aload_n hx hb dX13_isDayOut_11 rfl (lv_at hl 0 rfl) ?_
    refine g13_1 hx hb hts hown hKs hH rfl ho m6_182 dX13_isDayOut_12 ?_
    refine lv_bipush (v := 88) hx hb dX13_isDayOut_15 (by decide) ?_
    refine lv_iload_n hx hb dX13_isDayOut_17 rfl (lv_at hl 1 rfl) ?_
    refine lv_iadd hx hb dX13_isDayOut_18 ?_
    obtain ⟨a4, ha4, hf⟩ := bnd hf
    replace ha4 := cha_some ha4
    obtain ⟨j5, hj5, hf⟩ := bnd hf
    refine hw_iald hx hb hKs hH ha4.1 ha4.2 hj5 dX13_isDayOut_19 ?_
    refine lv_icmp_lt (tgt := 31) hx hb dX13_isDayOut_20 (by decide) (fun c6 => ?_) (fun c6 => ?_)
    · replace hf := (if_pos c6).symm.trans hf
      refine lv_iconst (v := 1) hx hb dX13_isDayOut_31 (by decide) ?_
      refine lv_goto (tgt := 36) hx hb dX13_isDayOut_32 (by decide) ?_
      exact hw_zret hx hb hret rfl hf hH hlocks dX13_isDayOut_36
    · replace hf := (if_neg c6).symm.trans hf
      refine hl_aload_n hx hb dX13_isDayOut_23 rfl (lv_at hl 0 rfl) ?_
      refine lv_iload_n hx hb dX13_isDayOut_24 rfl (lv_at hl 2 rfl) ?_
      obtain ⟨q7, hq7, hf⟩ := bnd hf
      refine hcV_i hx hb hml hown hts hKs hT hb0 hH (As := [.int a_2]) (rest := []) (k_X13_isWorking l E K H.size o a_2 w ho hq7) (gV m7_91 m7_93 ms_48 m1_16 m7_94) hd_X13_isWorking ⟨Nat.le_of_ble_eq_true rfl, Nat.le_of_ble_eq_true rfl, rfl, rfl⟩ rfl ho rfl rfl rfl hl.1 rfl rc0 rfl dX13_isDayOut_25 ⟨Nat.zero_le _, Nat.zero_le _⟩ (fun H locs hH => ?_)
      refine lv_if_ne (tgt := 35) hx hb dX13_isDayOut_28 (by decide) (fun c8 => ?_) (fun c8 => ?_)
      · replace hf := (if_neg c8).symm.trans hf
        refine lv_iconst (v := 0) hx hb dX13_isDayOut_35 (by decide) ?_
        exact hw_zret hx hb hret rfl hf hH hlocks dX13_isDayOut_36
      · replace hf := (if_pos c8).symm.trans hf
        refine lv_iconst (v := 1) hx hb dX13_isDayOut_31 (by decide) ?_
        refine lv_goto (tgt := 36) hx hb dX13_isDayOut_32 (by decide) ?_
        exact hw_zret hx hb hret rfl hf hH hlocks dX13_isDayOut_36

theorem dX13_problemOn_0 : decode cX13_problemOn 0 = .ok (.iload_n 3, 1) := by decide +kernel
theorem dX13_problemOn_1 : decode cX13_problemOn 1 = .ok (.aload_n 0, 1) := by decide +kernel
theorem dX13_problemOn_2 : decode cX13_problemOn 2 = .ok (.getfield 7, 3) := by decide +kernel
theorem dX13_problemOn_5 : decode cX13_problemOn 5 = .ok (.iconst 4, 1) := by decide +kernel
theorem dX13_problemOn_6 : decode cX13_problemOn 6 = .ok (.iload 4, 2) := by decide +kernel
theorem dX13_problemOn_8 : decode cX13_problemOn 8 = .ok (.iadd, 1) := by decide +kernel
theorem dX13_problemOn_9 : decode cX13_problemOn 9 = .ok (.iaload, 1) := by decide +kernel
theorem dX13_problemOn_10 : decode cX13_problemOn 10 = .ok (.if_icmp .lt 29, 3) := by decide +kernel
theorem dX13_problemOn_13 : decode cX13_problemOn 13 = .ok (.iload_n 3, 1) := by decide +kernel
theorem dX13_problemOn_14 : decode cX13_problemOn 14 = .ok (.aload_n 0, 1) := by decide +kernel
theorem dX13_problemOn_15 : decode cX13_problemOn 15 = .ok (.getfield 7, 3) := by decide +kernel
theorem dX13_problemOn_18 : decode cX13_problemOn 18 = .ok (.bipush 100, 2) := by decide +kernel
theorem dX13_problemOn_20 : decode cX13_problemOn 20 = .ok (.iload_n 1, 1) := by decide +kernel
theorem dX13_problemOn_21 : decode cX13_problemOn 21 = .ok (.iadd, 1) := by decide +kernel
theorem dX13_problemOn_22 : decode cX13_problemOn 22 = .ok (.iaload, 1) := by decide +kernel
theorem dX13_problemOn_23 : decode cX13_problemOn 23 = .ok (.iadd, 1) := by decide +kernel
theorem dX13_problemOn_24 : decode cX13_problemOn 24 = .ok (.iconst 1, 1) := by decide +kernel
theorem dX13_problemOn_25 : decode cX13_problemOn 25 = .ok (.isub, 1) := by decide +kernel
theorem dX13_problemOn_26 : decode cX13_problemOn 26 = .ok (.aload_n 0, 1) := by decide +kernel
theorem dX13_problemOn_27 : decode cX13_problemOn 27 = .ok (.getfield 7, 3) := by decide +kernel
theorem dX13_problemOn_30 : decode cX13_problemOn 30 = .ok (.bipush 7, 2) := by decide +kernel
theorem dX13_problemOn_32 : decode cX13_problemOn 32 = .ok (.iload 4, 2) := by decide +kernel
theorem dX13_problemOn_34 : decode cX13_problemOn 34 = .ok (.iadd, 1) := by decide +kernel
theorem dX13_problemOn_35 : decode cX13_problemOn 35 = .ok (.iaload, 1) := by decide +kernel
theorem dX13_problemOn_36 : decode cX13_problemOn 36 = .ok (.if_icmp .le 5, 3) := by decide +kernel
theorem dX13_problemOn_39 : decode cX13_problemOn 39 = .ok (.iconst 3, 1) := by decide +kernel
theorem dX13_problemOn_40 : decode cX13_problemOn 40 = .ok (.ireturn, 1) := by decide +kernel
theorem dX13_problemOn_41 : decode cX13_problemOn 41 = .ok (.aload_n 0, 1) := by decide +kernel
theorem dX13_problemOn_42 : decode cX13_problemOn 42 = .ok (.iload_n 1, 1) := by decide +kernel
theorem dX13_problemOn_43 : decode cX13_problemOn 43 = .ok (.iload_n 2, 1) := by decide +kernel
theorem dX13_problemOn_44 : decode cX13_problemOn 44 = .ok (.iload_n 3, 1) := by decide +kernel
theorem dX13_problemOn_45 : decode cX13_problemOn 45 = .ok (.iload 4, 2) := by decide +kernel
theorem dX13_problemOn_47 : decode cX13_problemOn 47 = .ok (.invokevirtual 174, 3) := by decide +kernel
theorem dX13_problemOn_50 : decode cX13_problemOn 50 = .ok (.ifCond .eq 5, 3) := by decide +kernel
theorem dX13_problemOn_53 : decode cX13_problemOn 53 = .ok (.iconst 4, 1) := by decide +kernel
theorem dX13_problemOn_54 : decode cX13_problemOn 54 = .ok (.ireturn, 1) := by decide +kernel
theorem dX13_problemOn_55 : decode cX13_problemOn 55 = .ok (.aload_n 0, 1) := by decide +kernel
theorem dX13_problemOn_56 : decode cX13_problemOn 56 = .ok (.iload 5, 2) := by decide +kernel
theorem dX13_problemOn_58 : decode cX13_problemOn 58 = .ok (.iload_n 2, 1) := by decide +kernel
theorem dX13_problemOn_59 : decode cX13_problemOn 59 = .ok (.invokevirtual 177, 3) := by decide +kernel
theorem dX13_problemOn_62 : decode cX13_problemOn 62 = .ok (.ifCond .eq 5, 3) := by decide +kernel
theorem dX13_problemOn_65 : decode cX13_problemOn 65 = .ok (.iconst 5, 1) := by decide +kernel
theorem dX13_problemOn_66 : decode cX13_problemOn 66 = .ok (.ireturn, 1) := by decide +kernel
theorem dX13_problemOn_67 : decode cX13_problemOn 67 = .ok (.aload_n 0, 1) := by decide +kernel
theorem dX13_problemOn_68 : decode cX13_problemOn 68 = .ok (.iload_n 1, 1) := by decide +kernel
theorem dX13_problemOn_69 : decode cX13_problemOn 69 = .ok (.iload_n 2, 1) := by decide +kernel
theorem dX13_problemOn_70 : decode cX13_problemOn 70 = .ok (.iload_n 3, 1) := by decide +kernel
theorem dX13_problemOn_71 : decode cX13_problemOn 71 = .ok (.iload 5, 2) := by decide +kernel
theorem dX13_problemOn_73 : decode cX13_problemOn 73 = .ok (.invokevirtual 180, 3) := by decide +kernel
theorem dX13_problemOn_76 : decode cX13_problemOn 76 = .ok (.ifCond .eq 6, 3) := by decide +kernel
theorem dX13_problemOn_79 : decode cX13_problemOn 79 = .ok (.bipush 6, 2) := by decide +kernel
theorem dX13_problemOn_81 : decode cX13_problemOn 81 = .ok (.ireturn, 1) := by decide +kernel
theorem dX13_problemOn_82 : decode cX13_problemOn 82 = .ok (.aload_n 0, 1) := by decide +kernel
theorem dX13_problemOn_83 : decode cX13_problemOn 83 = .ok (.iload 5, 2) := by decide +kernel
theorem dX13_problemOn_85 : decode cX13_problemOn 85 = .ok (.iload_n 1, 1) := by decide +kernel
theorem dX13_problemOn_86 : decode cX13_problemOn 86 = .ok (.invokevirtual 183, 3) := by decide +kernel
theorem dX13_problemOn_89 : decode cX13_problemOn 89 = .ok (.ifCond .eq 6, 3) := by decide +kernel
theorem dX13_problemOn_92 : decode cX13_problemOn 92 = .ok (.bipush 7, 2) := by decide +kernel
theorem dX13_problemOn_94 : decode cX13_problemOn 94 = .ok (.ireturn, 1) := by decide +kernel
theorem dX13_problemOn_95 : decode cX13_problemOn 95 = .ok (.aload_n 0, 1) := by decide +kernel
theorem dX13_problemOn_96 : decode cX13_problemOn 96 = .ok (.iload_n 1, 1) := by decide +kernel
theorem dX13_problemOn_97 : decode cX13_problemOn 97 = .ok (.iload_n 2, 1) := by decide +kernel
theorem dX13_problemOn_98 : decode cX13_problemOn 98 = .ok (.iload_n 3, 1) := by decide +kernel
theorem dX13_problemOn_99 : decode cX13_problemOn 99 = .ok (.invokevirtual 186, 3) := by decide +kernel
theorem dX13_problemOn_102 : decode cX13_problemOn 102 = .ok (.ifCond .eq 6, 3) := by decide +kernel
theorem dX13_problemOn_105 : decode cX13_problemOn 105 = .ok (.bipush 8, 2) := by decide +kernel
theorem dX13_problemOn_107 : decode cX13_problemOn 107 = .ok (.ireturn, 1) := by decide +kernel
theorem dX13_problemOn_108 : decode cX13_problemOn 108 = .ok (.aload_n 0, 1) := by decide +kernel
theorem dX13_problemOn_109 : decode cX13_problemOn 109 = .ok (.iload_n 1, 1) := by decide +kernel
theorem dX13_problemOn_110 : decode cX13_problemOn 110 = .ok (.iload_n 2, 1) := by decide +kernel
theorem dX13_problemOn_111 : decode cX13_problemOn 111 = .ok (.iload_n 3, 1) := by decide +kernel
theorem dX13_problemOn_112 : decode cX13_problemOn 112 = .ok (.invokevirtual 190, 3) := by decide +kernel
theorem dX13_problemOn_115 : decode cX13_problemOn 115 = .ok (.ifCond .eq 8, 3) := by decide +kernel
theorem dX13_problemOn_118 : decode cX13_problemOn 118 = .ok (.bipush 9, 2) := by decide +kernel
theorem dX13_problemOn_120 : decode cX13_problemOn 120 = .ok (.goto 4, 3) := by decide +kernel
theorem dX13_problemOn_123 : decode cX13_problemOn 123 = .ok (.iconst 0, 1) := by decide +kernel
theorem dX13_problemOn_124 : decode cX13_problemOn 124 = .ok (.ireturn, 1) := by decide +kernel
theorem hd_X13_problemOn : yX13_problemOn.cls = RX13 ∧ yX13_problemOn.cls ≠ "java/lang/invoke/MethodHandle" ∧ yX13_problemOn.cls ≠ "java/lang/invoke/VarHandle" ∧ (parseMethodDescriptor yX13_problemOn.desc).map (fun d => d.parameters.length) = some 5 := by decide +kernel
theorem hs_X13_problemOn : yX13_problemOn.cls ≠ "java/lang/invoke/MethodHandle" ∧ yX13_problemOn.cls ≠ "java/lang/invoke/VarHandle" ∧ (parseMethodDescriptor yX13_problemOn.desc).map (fun d => d.parameters.length) = some 5 := by decide +kernel
set_option maxHeartbeats 4000000 in
set_option maxRecDepth 100000 in
theorem k_X13_problemOn (l : Launch) (E : Ev) (K : Kd) (z : Nat) (o : Nat) (a_1 : Int32) (a_2 : Int32) (a_3 : Int32) (a_4 : Int32) (a_5 : Int32) (w : Wd) (ho : K o = some (11, 0)) {r : Int32} {w' : Wd} (hf : f_X13_problemOn K o a_1 a_2 a_3 a_4 a_5 w = some (r, w')) : Met l yX13_problemOn (Cond.code yX13_problemOn cX13_problemOn 6 (Option.some Jvm.ClassFile.FieldType.int) :: bt) ({ frames := 5, cells := 0, slots := 0, locals := 115 } : Room) (va_Pc [rv E (some o), .int a_1, .int a_2, .int a_3, .int a_4, .int a_5] (HB E K w z)) (QI E K z w' r) 0 0 (hA E) := by
  refine Met.ofW (cc := cX13_problemOn) (maxL := 6) (ret := (Option.some Jvm.ClassFile.FieldType.int)) (by decide) rfl ?_
  intro p e s m args below meth c s₁ B hml hv
  obtain ⟨rfl, hz, hP, hKs, hT, hb0⟩ := hv
  have C : CX p l e s m _ meth c cX13_problemOn 6 RX13 (Option.some Jvm.ClassFile.FieldType.int) E := ⟨B.exec, B.bytes, hml, findClass_of_methodNamed B.named, fun w h => atoms_spec (ws := Cond.code yX13_problemOn cX13_problemOn 6 (Option.some Jvm.ClassFile.FieldType.int) :: bt) B.pre w (List.mem_cons_of_mem _ h), hKs, hT, by rw [hz]; exact hb0, B.notSynchronized, B.returns⟩
  have hH : HQ E K z w s s.heap [] := ⟨hP, va_S.rf, hz⟩
  obtain ⟨hx, hb, hml, hown, hts, hKs, hT, hb0, hlocks, hret⟩ := id C
  have hl := lv_entry [rv E (some o), .int a_1, .int a_2, .int a_3, .int a_4, .int a_5] (n := 6) (by simp [lg_len_nil, lg_len_i, lg_len_j, lg_len_q, lg_len_f, lg_len_d, lg_len_r])
  rw [lg_entry_eq]
  generalize (lg_sl [rv E (some o), .int a_1, .int a_2, .int a_3, .int a_4, .int a_5] ++ List.replicate (6 - (lg_sl [rv E (some o), .int a_1, .int a_2, .int a_3, .int a_4, .int a_5]).length) Slot.unset).toArray = ls at hl ⊢
  replace hl : lv_has ls 6 [(0, rv E (some o)), (1, .int a_1), (2, .int a_2), (3, .int a_3), (4, .int a_4), (5, .int a_5)] := by simpa only [lv_args, cat_q, cat_i, cat_j, reduceIte, Nat.reduceEqDiff, Nat.reduceAdd, Nat.zero_add] using hl
  generalize s.heap = H at hH ⊢
  unfold f_X13_problemOn at hf
  refine lv_iload_n hx hb dX13_problemOn_0 rfl (lv_at hl 3 rfl) ?_
  refine hl_aload_n hx hb dX13_problemOn_1 rfl (lv_at hl 0 rfl) ?_
  refine g13_1 hx hb hts hown hKs hH rfl ho m6_182 dX13_problemOn_2 ?_
  refine lv_iconst (v := 4) hx hb dX13_problemOn_5 (by decide) ?_
  refine lv_iload hx hb dX13_problemOn_6 (lv_at hl 4 rfl) ?_
  refine lv_iadd hx hb dX13_problemOn_8 ?_
  obtain ⟨a1, ha1, hf⟩ := bnd hf
  replace ha1 := cha_some ha1
  obtain ⟨j2, hj2, hf⟩ := bnd hf
  refine hw_iald hx hb hKs hH ha1.1 ha1.2 hj2 dX13_problemOn_9 ?_
  refine lv_icmp_lt (tgt := 39) hx hb dX13_problemOn_10 (by decide) (fun c3 => ?_) (fun c3 => ?_)
  · replace hf := (if_pos c3).symm.trans hf
    refine lv_iconst (v := 3) hx hb dX13_problemOn_39 (by decide) ?_
    exact hw_iret hx hb hret hf hH hlocks dX13_problemOn_40
  · replace hf := (if_neg c3).symm.trans hf
    refine lv_iload_n hx hb dX13_problemOn_13 rfl (lv_at hl 3 rfl) ?_
    refine hl_aload_n hx hb dX13_problemOn_14 rfl (lv_at hl 0 rfl) ?_
    refine g13_1 hx hb hts hown hKs hH rfl ho m6_182 dX13_problemOn_15 ?_
    refine lv_bipush (v := 100) hx hb dX13_problemOn_18 (by decide) ?_
    refine lv_iload_n hx hb dX13_problemOn_20 rfl (lv_at hl 1 rfl) ?_
    refine lv_iadd hx hb dX13_problemOn_21 ?_
    obtain ⟨j4, hj4, hf⟩ := bnd hf
    refine hw_iald hx hb hKs hH ha1.1 ha1.2 hj4 dX13_problemOn_22 ?_
    refine lv_iadd hx hb dX13_problemOn_23 ?_
    refine lv_iconst (v := 1) hx hb dX13_problemOn_24 (by decide) ?_
    refine lv_isub hx hb dX13_problemOn_25 ?_
    refine hl_aload_n hx hb dX13_problemOn_26 rfl (lv_at hl 0 rfl) ?_
    refine g13_1 hx hb hts hown hKs hH rfl ho m6_182 dX13_problemOn_27 ?_
    refine lv_bipush (v := 7) hx hb dX13_problemOn_30 (by decide) ?_
    refine lv_iload hx hb dX13_problemOn_32 (lv_at hl 4 rfl) ?_
    refine lv_iadd hx hb dX13_problemOn_34 ?_
    obtain ⟨j5, hj5, hf⟩ := bnd hf
    refine hw_iald hx hb hKs hH ha1.1 ha1.2 hj5 dX13_problemOn_35 ?_
    refine lv_icmp_le (tgt := 41) hx hb dX13_problemOn_36 (by decide) (fun c6 => ?_) (fun c6 => ?_)
    · replace hf := (if_pos c6).symm.trans hf
      refine hl_aload_n hx hb dX13_problemOn_41 rfl (lv_at hl 0 rfl) ?_
      refine lv_iload_n hx hb dX13_problemOn_42 rfl (lv_at hl 1 rfl) ?_
      refine lv_iload_n hx hb dX13_problemOn_43 rfl (lv_at hl 2 rfl) ?_
      refine lv_iload_n hx hb dX13_problemOn_44 rfl (lv_at hl 3 rfl) ?_
      refine lv_iload hx hb dX13_problemOn_45 (lv_at hl 4 rfl) ?_
      obtain ⟨q7, hq7, hf⟩ := bnd hf
      refine hcV_i hx hb hml hown hts hKs hT hb0 hH (As := [.int a_1, .int a_2, .int a_3, .int a_4]) (rest := []) (k_X13_isRoomTaken l E K H.size o a_1 a_2 a_3 a_4 w ho hq7) (gV m7_203 m7_205 ms_66 m1_16 m7_206) hd_X13_isRoomTaken ⟨Nat.le_of_ble_eq_true rfl, Nat.le_of_ble_eq_true rfl, rfl, rfl⟩ rfl ho rfl rfl rfl hl.1 rfl rc0 rfl dX13_problemOn_47 ⟨Nat.zero_le _, Nat.zero_le _⟩ (fun H locs hH => ?_)
      refine lv_if_eq (tgt := 55) hx hb dX13_problemOn_50 (by decide) (fun c8 => ?_) (fun c8 => ?_)
      · replace hf := (if_pos c8).symm.trans hf
        refine hl_aload_n hx hb dX13_problemOn_55 rfl (lv_at hl 0 rfl) ?_
        refine lv_iload hx hb dX13_problemOn_56 (lv_at hl 5 rfl) ?_
        refine lv_iload_n hx hb dX13_problemOn_58 rfl (lv_at hl 2 rfl) ?_
        obtain ⟨q9, hq9, hf⟩ := bnd hf
        refine hcV_i hx hb hml hown hts hKs hT hb0 hH (As := [.int a_5, .int a_2]) (rest := []) (k_X13_isOffOn l E K H.size o a_5 a_2 q7.2 ho hq9) (gV m7_211 m7_213 ms_68 m1_16 m7_214) hd_X13_isOffOn ⟨Nat.le_of_ble_eq_true rfl, Nat.le_of_ble_eq_true rfl, rfl, rfl⟩ rfl ho rfl rfl rfl hl.1 rfl rc0 rfl dX13_problemOn_59 ⟨Nat.zero_le _, Nat.zero_le _⟩ (fun H locs hH => ?_)
        refine lv_if_eq (tgt := 67) hx hb dX13_problemOn_62 (by decide) (fun c10 => ?_) (fun c10 => ?_)
        · replace hf := (if_pos c10).symm.trans hf
          refine hl_aload_n hx hb dX13_problemOn_67 rfl (lv_at hl 0 rfl) ?_
          refine lv_iload_n hx hb dX13_problemOn_68 rfl (lv_at hl 1 rfl) ?_
          refine lv_iload_n hx hb dX13_problemOn_69 rfl (lv_at hl 2 rfl) ?_
          refine lv_iload_n hx hb dX13_problemOn_70 rfl (lv_at hl 3 rfl) ?_
          refine lv_iload hx hb dX13_problemOn_71 (lv_at hl 5 rfl) ?_
          obtain ⟨q11, hq11, hf⟩ := bnd hf
          refine hcV_i hx hb hml hown hts hKs hT hb0 hH (As := [.int a_1, .int a_2, .int a_3, .int a_5]) (rest := []) (k_X13_isOfficerTaken l E K H.size o a_1 a_2 a_3 a_5 q9.2 ho hq11) (gV m7_215 m7_217 ms_69 m1_16 m7_218) hd_X13_isOfficerTaken ⟨Nat.le_of_ble_eq_true rfl, Nat.le_of_ble_eq_true rfl, rfl, rfl⟩ rfl ho rfl rfl rfl hl.1 rfl rc0 rfl dX13_problemOn_73 ⟨Nat.zero_le _, Nat.zero_le _⟩ (fun H locs hH => ?_)
          refine lv_if_eq (tgt := 82) hx hb dX13_problemOn_76 (by decide) (fun c12 => ?_) (fun c12 => ?_)
          · replace hf := (if_pos c12).symm.trans hf
            refine hl_aload_n hx hb dX13_problemOn_82 rfl (lv_at hl 0 rfl) ?_
            refine lv_iload hx hb dX13_problemOn_83 (lv_at hl 5 rfl) ?_
            refine lv_iload_n hx hb dX13_problemOn_85 rfl (lv_at hl 1 rfl) ?_
            obtain ⟨q13, hq13, hf⟩ := bnd hf
            refine hcV_i hx hb hml hown hts hKs hT hb0 hH (As := [.int a_5, .int a_1]) (rest := []) (k_X13_isBarredFrom l E K H.size o a_5 a_1 q11.2 ho hq13) (gV m7_219 m7_221 ms_70 m1_16 m7_222) hd_X13_isBarredFrom ⟨Nat.le_of_ble_eq_true rfl, Nat.le_of_ble_eq_true rfl, rfl, rfl⟩ rfl ho rfl rfl rfl hl.1 rfl rc0 rfl dX13_problemOn_86 ⟨Nat.zero_le _, Nat.zero_le _⟩ (fun H locs hH => ?_)
            refine lv_if_eq (tgt := 95) hx hb dX13_problemOn_89 (by decide) (fun c14 => ?_) (fun c14 => ?_)
            · replace hf := (if_pos c14).symm.trans hf
              refine hl_aload_n hx hb dX13_problemOn_95 rfl (lv_at hl 0 rfl) ?_
              refine lv_iload_n hx hb dX13_problemOn_96 rfl (lv_at hl 1 rfl) ?_
              refine lv_iload_n hx hb dX13_problemOn_97 rfl (lv_at hl 2 rfl) ?_
              refine lv_iload_n hx hb dX13_problemOn_98 rfl (lv_at hl 3 rfl) ?_
              obtain ⟨q15, hq15, hf⟩ := bnd hf
              refine hcV_i hx hb hml hown hts hKs hT hb0 hH (As := [.int a_1, .int a_2, .int a_3]) (rest := []) (k_X13_isOutOfWindows l E K H.size o a_1 a_2 a_3 q13.2 ho hq15) (gV m7_226 m7_228 ms_71 m1_16 m7_229) hd_X13_isOutOfWindows ⟨Nat.le_of_ble_eq_true rfl, Nat.le_of_ble_eq_true rfl, rfl, rfl⟩ rfl ho rfl rfl rfl hl.1 rfl rc0 rfl dX13_problemOn_99 ⟨Nat.zero_le _, Nat.zero_le _⟩ (fun H locs hH => ?_)
              refine lv_if_eq (tgt := 108) hx hb dX13_problemOn_102 (by decide) (fun c16 => ?_) (fun c16 => ?_)
              · replace hf := (if_pos c16).symm.trans hf
                refine hl_aload_n hx hb dX13_problemOn_108 rfl (lv_at hl 0 rfl) ?_
                refine lv_iload_n hx hb dX13_problemOn_109 rfl (lv_at hl 1 rfl) ?_
                refine lv_iload_n hx hb dX13_problemOn_110 rfl (lv_at hl 2 rfl) ?_
                refine lv_iload_n hx hb dX13_problemOn_111 rfl (lv_at hl 3 rfl) ?_
                obtain ⟨q17, hq17, hf⟩ := bnd hf
                refine hcV_i hx hb hml hown hts hKs hT hb0 hH (As := [.int a_1, .int a_2, .int a_3]) (rest := []) (k_X13_isWitnessTaken l E K H.size o a_1 a_2 a_3 q15.2 ho hq17) (gV m7_230 m7_232 ms_72 m1_16 m7_233) hd_X13_isWitnessTaken ⟨Nat.le_of_ble_eq_true rfl, Nat.le_of_ble_eq_true rfl, rfl, rfl⟩ rfl ho rfl rfl rfl hl.1 rfl rc0 rfl dX13_problemOn_112 ⟨Nat.zero_le _, Nat.zero_le _⟩ (fun H locs hH => ?_)
                refine lv_if_eq (tgt := 123) hx hb dX13_problemOn_115 (by decide) (fun c18 => ?_) (fun c18 => ?_)
                · replace hf := (if_pos c18).symm.trans hf
                  refine lv_iconst (v := 0) hx hb dX13_problemOn_123 (by decide) ?_
                  exact hw_iret hx hb hret hf hH hlocks dX13_problemOn_124
                · replace hf := (if_neg c18).symm.trans hf
                  refine lv_bipush (v := 9) hx hb dX13_problemOn_118 (by decide) ?_
                  refine lv_goto (tgt := 124) hx hb dX13_problemOn_120 (by decide) ?_
                  exact hw_iret hx hb hret hf hH hlocks dX13_problemOn_124
              · replace hf := (if_neg c16).symm.trans hf
                refine lv_bipush (v := 8) hx hb dX13_problemOn_105 (by decide) ?_
                exact hw_iret hx hb hret hf hH hlocks dX13_problemOn_107
            · replace hf := (if_neg c14).symm.trans hf
              refine lv_bipush (v := 7) hx hb dX13_problemOn_92 (by decide) ?_
              exact hw_iret hx hb hret hf hH hlocks dX13_problemOn_94
          · replace hf := (if_neg c12).symm.trans hf
            refine lv_bipush (v := 6) hx hb dX13_problemOn_79 (by decide) ?_
            exact hw_iret hx hb hret hf hH hlocks dX13_problemOn_81
        · replace hf := (if_neg c10).symm.trans hf
          refine lv_iconst (v := 5) hx hb dX13_problemOn_65 (by decide) ?_
          exact hw_iret hx hb hret hf hH hlocks dX13_problemOn_66
      · replace hf := (if_neg c8).symm.trans hf
        refine lv_iconst (v := 4) hx hb dX13_problemOn_53 (by decide) ?_
        exact hw_iret hx hb hret hf hH hlocks dX13_problemOn_54
    · replace hf := (if_neg c6).symm.trans hf
      refine lv_iconst (v := 3) hx hb dX13_problemOn_39 (by decide) ?_
      exact hw_iret hx hb hret hf hH hlocks dX13_problemOn_40

theorem dX13_problemOf_0 : decode cX13_problemOf 0 = .ok (.aload_n 0, 1) := by decide +kernel
theorem dX13_problemOf_1 : decode cX13_problemOf 1 = .ok (.iload_n 1, 1) := by decide +kernel
theorem dX13_problemOf_2 : decode cX13_problemOf 2 = .ok (.iload_n 2, 1) := by decide +kernel
theorem dX13_problemOf_3 : decode cX13_problemOf 3 = .ok (.invokevirtual 193, 3) := by decide +kernel
theorem dX13_problemOf_6 : decode cX13_problemOf 6 = .ok (.ifCond .eq 5, 3) := by decide +kernel
theorem dX13_problemOf_9 : decode cX13_problemOf 9 = .ok (.iconst 1, 1) := by decide +kernel
theorem dX13_problemOf_10 : decode cX13_problemOf 10 = .ok (.ireturn, 1) := by decide +kernel
theorem dX13_problemOf_11 : decode cX13_problemOf 11 = .ok (.iload_n 2, 1) := by decide +kernel
theorem dX13_problemOf_12 : decode cX13_problemOf 12 = .ok (.aload_n 0, 1) := by decide +kernel
theorem dX13_problemOf_13 : decode cX13_problemOf 13 = .ok (.iload_n 1, 1) := by decide +kernel
theorem dX13_problemOf_14 : decode cX13_problemOf 14 = .ok (.invokevirtual 144, 3) := by decide +kernel
theorem dX13_problemOf_17 : decode cX13_problemOf 17 = .ok (.if_icmp .le 7, 3) := by decide +kernel
theorem dX13_problemOf_20 : decode cX13_problemOf 20 = .ok (.iconst 2, 1) := by decide +kernel
theorem dX13_problemOf_21 : decode cX13_problemOf 21 = .ok (.goto 14, 3) := by decide +kernel
theorem dX13_problemOf_24 : decode cX13_problemOf 24 = .ok (.aload_n 0, 1) := by decide +kernel
theorem dX13_problemOf_25 : decode cX13_problemOf 25 = .ok (.iload_n 1, 1) := by decide +kernel
theorem dX13_problemOf_26 : decode cX13_problemOf 26 = .ok (.iload_n 2, 1) := by decide +kernel
theorem dX13_problemOf_27 : decode cX13_problemOf 27 = .ok (.iload_n 3, 1) := by decide +kernel
theorem dX13_problemOf_28 : decode cX13_problemOf 28 = .ok (.iload 4, 2) := by decide +kernel
theorem dX13_problemOf_30 : decode cX13_problemOf 30 = .ok (.iload 5, 2) := by decide +kernel
theorem dX13_problemOf_32 : decode cX13_problemOf 32 = .ok (.invokevirtual 196, 3) := by decide +kernel
theorem dX13_problemOf_35 : decode cX13_problemOf 35 = .ok (.ireturn, 1) := by decide +kernel
theorem hd_X13_problemOf : yX13_problemOf.cls = RX13 ∧ yX13_problemOf.cls ≠ "java/lang/invoke/MethodHandle" ∧ yX13_problemOf.cls ≠ "java/lang/invoke/VarHandle" ∧ (parseMethodDescriptor yX13_problemOf.desc).map (fun d => d.parameters.length) = some 5 := by decide +kernel
theorem hs_X13_problemOf : yX13_problemOf.cls ≠ "java/lang/invoke/MethodHandle" ∧ yX13_problemOf.cls ≠ "java/lang/invoke/VarHandle" ∧ (parseMethodDescriptor yX13_problemOf.desc).map (fun d => d.parameters.length) = some 5 := by decide +kernel
set_option maxHeartbeats 4000000 in
set_option maxRecDepth 100000 in
theorem k_X13_problemOf (l : Launch) (E : Ev) (K : Kd) (z : Nat) (o : Nat) (a_1 : Int32) (a_2 : Int32) (a_3 : Int32) (a_4 : Int32) (a_5 : Int32) (w : Wd) (ho : K o = some (11, 0)) {r : Int32} {w' : Wd} (hf : f_X13_problemOf K o a_1 a_2 a_3 a_4 a_5 w = some (r, w')) : Met l yX13_problemOf (Cond.code yX13_problemOf cX13_problemOf 6 (Option.some Jvm.ClassFile.FieldType.int) :: bt) ({ frames := 6, cells := 0, slots := 0, locals := 140 } : Room) (va_Pc [rv E (some o), .int a_1, .int a_2, .int a_3, .int a_4, .int a_5] (HB E K w z)) (QI E K z w' r) 0 0 (hA E) := by
  refine Met.ofW (cc := cX13_problemOf) (maxL := 6) (ret := (Option.some Jvm.ClassFile.FieldType.int)) (by decide) rfl ?_
  intro p e s m args below meth c s₁ B hml hv
  obtain ⟨rfl, hz, hP, hKs, hT, hb0⟩ := hv
  have C : CX p l e s m _ meth c cX13_problemOf 6 RX13 (Option.some Jvm.ClassFile.FieldType.int) E := ⟨B.exec, B.bytes, hml, findClass_of_methodNamed B.named, fun w h => atoms_spec (ws := Cond.code yX13_problemOf cX13_problemOf 6 (Option.some Jvm.ClassFile.FieldType.int) :: bt) B.pre w (List.mem_cons_of_mem _ h), hKs, hT, by rw [hz]; exact hb0, B.notSynchronized, B.returns⟩
  have hH : HQ E K z w s s.heap [] := ⟨hP, va_S.rf, hz⟩
  obtain ⟨hx, hb, hml, hown, hts, hKs, hT, hb0, hlocks, hret⟩ := id C
  have hl := lv_entry [rv E (some o), .int a_1, .int a_2, .int a_3, .int a_4, .int a_5] (n := 6) (by simp [lg_len_nil, lg_len_i, lg_len_j, lg_len_q, lg_len_f, lg_len_d, lg_len_r])
  rw [lg_entry_eq]
  generalize (lg_sl [rv E (some o), .int a_1, .int a_2, .int a_3, .int a_4, .int a_5] ++ List.replicate (6 - (lg_sl [rv E (some o), .int a_1, .int a_2, .int a_3, .int a_4, .int a_5]).length) Slot.unset).toArray = ls at hl ⊢
  replace hl : lv_has ls 6 [(0, rv E (some o)), (1, .int a_1), (2, .int a_2), (3, .int a_3), (4, .int a_4), (5, .int a_5)] := by simpa only [lv_args, cat_q, cat_i, cat_j, reduceIte, Nat.reduceEqDiff, Nat.reduceAdd, Nat.zero_add] using hl
  generalize s.heap = H at hH ⊢
  unfold f_X13_problemOf at hf
  refine hl_aload_n hx hb dX13_problemOf_0 rfl (lv_at hl 0 rfl) ?_
  refine lv_iload_n hx hb dX13_problemOf_1 rfl (lv_at hl 1 rfl) ?_
  refine lv_iload_n hx hb dX13_problemOf_2 rfl (lv_at hl 2 rfl) ?_
  obtain ⟨q1, hq1, hf⟩ := bnd hf
  refine hcV_i hx hb hml hown hts hKs hT hb0 hH (As := [.int a_1, .int a_2]) (rest := []) (k_X13_isDayOut l E K H.size o a_1 a_2 w ho hq1) (gV m7_195 m7_197 ms_64 m1_16 m7_198) hd_X13_isDayOut ⟨Nat.le_of_ble_eq_true rfl, Nat.le_of_ble_eq_true rfl, rfl, rfl⟩ rfl ho rfl rfl rfl hl.1 rfl rc0 rfl dX13_problemOf_3 ⟨Nat.zero_le _, Nat.zero_le _⟩ (fun H locs hH => ?_)
  refine lv_if_eq (tgt := 11) hx hb dX13_problemOf_6 (by decide) (fun c2 => ?_) (fun c2 => ?_)
  · replace hf := (if_pos c2).symm.trans hf
    refine lv_iload_n hx hb dX13_problemOf_11 rfl (lv_at hl 2 rfl) ?_
    refine hl_aload_n hx hb dX13_problemOf_12 rfl (lv_at hl 0 rfl) ?_
    refine lv_iload_n hx hb dX13_problemOf_13 rfl (lv_at hl 1 rfl) ?_
    obtain ⟨q3, hq3, hf⟩ := bnd hf
    refine hcV_i hx hb hml hown hts hKs hT hb0 hH (As := [.int a_1]) (rest := [.int a_2]) (k_X13_limitDay l E K H.size o a_1 q1.2 ho hq3) (gV m7_122 m7_124 ms_53 m1_16 m7_125) hd_X13_limitDay ⟨Nat.le_of_ble_eq_true rfl, Nat.le_of_ble_eq_true rfl, rfl, rfl⟩ rfl ho rfl rfl rfl hl.1 rfl (rcI rc0) rfl dX13_problemOf_14 ⟨Nat.zero_le _, Nat.zero_le _⟩ (fun H locs hH => ?_)
    refine lv_icmp_le (tgt := 24) hx hb dX13_problemOf_17 (by decide) (fun c4 => ?_) (fun c4 => ?_)
    · replace hf := (if_pos c4).symm.trans hf
      refine hl_aload_n hx hb dX13_problemOf_24 rfl (lv_at hl 0 rfl) ?_
      refine lv_iload_n hx hb dX13_problemOf_25 rfl (lv_at hl 1 rfl) ?_
      refine lv_iload_n hx hb dX13_problemOf_26 rfl (lv_at hl 2 rfl) ?_
      refine lv_iload_n hx hb dX13_problemOf_27 rfl (lv_at hl 3 rfl) ?_
      refine lv_iload hx hb dX13_problemOf_28 (lv_at hl 4 rfl) ?_
      refine lv_iload hx hb dX13_problemOf_30 (lv_at hl 5 rfl) ?_
      obtain ⟨q5, hq5, hf⟩ := bnd hf
      refine hcV_i hx hb hml hown hts hKs hT hb0 hH (As := [.int a_1, .int a_2, .int a_3, .int a_4, .int a_5]) (rest := []) (k_X13_problemOn l E K H.size o a_1 a_2 a_3 a_4 a_5 q3.2 ho hq5) (gV m7_199 m7_201 ms_65 m1_16 m7_202) hd_X13_problemOn ⟨Nat.le_of_ble_eq_true rfl, Nat.le_of_ble_eq_true rfl, rfl, rfl⟩ rfl ho rfl rfl rfl hl.1 rfl rc0 rfl dX13_problemOf_32 ⟨Nat.zero_le _, Nat.zero_le _⟩ (fun H locs hH => ?_)
      exact hw_iret hx hb hret hf hH hlocks dX13_problemOf_35
    · replace hf := (if_neg c4).symm.trans hf
      refine lv_iconst (v := 2) hx hb dX13_problemOf_20 (by decide) ?_
      refine lv_goto (tgt := 35) hx hb dX13_problemOf_21 (by decide) ?_
      exact hw_iret hx hb hret hf hH hlocks dX13_problemOf_35
  · replace hf := (if_neg c2).symm.trans hf
    refine lv_iconst (v := 1) hx hb dX13_problemOf_9 (by decide) ?_
    exact hw_iret hx hb hret hf hH hlocks dX13_problemOf_10

theorem dX13_areThere_0 : decode cX13_areThere 0 = .ok (.aload_n 0, 1) := by decide +kernel
theorem dX13_areThere_1 : decode cX13_areThere 1 = .ok (.iload_n 1, 1) := by decide +kernel
theorem dX13_areThere_2 : decode cX13_areThere 2 = .ok (.invokevirtual 148, 3) := by decide +kernel
theorem dX13_areThere_5 : decode cX13_areThere 5 = .ok (.ifCond .eq 23, 3) := by decide +kernel
theorem dX13_areThere_8 : decode cX13_areThere 8 = .ok (.aload_n 0, 1) := by decide +kernel
theorem dX13_areThere_9 : decode cX13_areThere 9 = .ok (.iload_n 2, 1) := by decide +kernel
theorem dX13_areThere_10 : decode cX13_areThere 10 = .ok (.invokevirtual 200, 3) := by decide +kernel
theorem dX13_areThere_13 : decode cX13_areThere 13 = .ok (.ifCond .eq 15, 3) := by decide +kernel
theorem dX13_areThere_16 : decode cX13_areThere 16 = .ok (.aload_n 0, 1) := by decide +kernel
theorem dX13_areThere_17 : decode cX13_areThere 17 = .ok (.iload_n 3, 1) := by decide +kernel
theorem dX13_areThere_18 : decode cX13_areThere 18 = .ok (.invokevirtual 203, 3) := by decide +kernel
theorem dX13_areThere_21 : decode cX13_areThere 21 = .ok (.ifCond .eq 7, 3) := by decide +kernel
theorem dX13_areThere_24 : decode cX13_areThere 24 = .ok (.iconst 1, 1) := by decide +kernel
theorem dX13_areThere_25 : decode cX13_areThere 25 = .ok (.goto 4, 3) := by decide +kernel
theorem dX13_areThere_28 : decode cX13_areThere 28 = .ok (.iconst 0, 1) := by decide +kernel
theorem dX13_areThere_29 : decode cX13_areThere 29 = .ok (.ireturn, 1) := by decide +kernel
theorem hd_X13_areThere : yX13_areThere.cls = RX13 ∧ yX13_areThere.cls ≠ "java/lang/invoke/MethodHandle" ∧ yX13_areThere.cls ≠ "java/lang/invoke/VarHandle" ∧ (parseMethodDescriptor yX13_areThere.desc).map (fun d => d.parameters.length) = some 3 := by decide +kernel
theorem hs_X13_areThere : yX13_areThere.cls ≠ "java/lang/invoke/MethodHandle" ∧ yX13_areThere.cls ≠ "java/lang/invoke/VarHandle" ∧ (parseMethodDescriptor yX13_areThere.desc).map (fun d => d.parameters.length) = some 3 := by decide +kernel
set_option maxHeartbeats 4000000 in
set_option maxRecDepth 100000 in
theorem k_X13_areThere (l : Launch) (E : Ev) (K : Kd) (z : Nat) (o : Nat) (a_1 : Int32) (a_2 : Int32) (a_3 : Int32) (w : Wd) (ho : K o = some (11, 0)) {r : Bool} {w' : Wd} (hf : f_X13_areThere K o a_1 a_2 a_3 w = some (r, w')) : Met l yX13_areThere (Cond.code yX13_areThere cX13_areThere 4 (Option.some Jvm.ClassFile.FieldType.boolean) :: bt) ({ frames := 2, cells := 0, slots := 0, locals := 46 } : Room) (va_Pc [rv E (some o), .int a_1, .int a_2, .int a_3] (HB E K w z)) (QI E K z w' (b2i r)) 0 0 (hA E) := by
  refine Met.ofW (cc := cX13_areThere) (maxL := 4) (ret := (Option.some Jvm.ClassFile.FieldType.boolean)) (by decide) rfl ?_
  intro p e s m args below meth c s₁ B hml hv
  obtain ⟨rfl, hz, hP, hKs, hT, hb0⟩ := hv
  have C : CX p l e s m _ meth c cX13_areThere 4 RX13 (Option.some Jvm.ClassFile.FieldType.boolean) E := ⟨B.exec, B.bytes, hml, findClass_of_methodNamed B.named, fun w h => atoms_spec (ws := Cond.code yX13_areThere cX13_areThere 4 (Option.some Jvm.ClassFile.FieldType.boolean) :: bt) B.pre w (List.mem_cons_of_mem _ h), hKs, hT, by rw [hz]; exact hb0, B.notSynchronized, B.returns⟩
  have hH : HQ E K z w s s.heap [] := ⟨hP, va_S.rf, hz⟩
  obtain ⟨hx, hb, hml, hown, hts, hKs, hT, hb0, hlocks, hret⟩ := id C
  have hl := lv_entry [rv E (some o), .int a_1, .int a_2, .int a_3] (n := 4) (by simp [lg_len_nil, lg_len_i, lg_len_j, lg_len_q, lg_len_f, lg_len_d, lg_len_r])
  rw [lg_entry_eq]
  generalize (lg_sl [rv E (some o), .int a_1, .int a_2, .int a_3] ++ List.replicate (4 - (lg_sl [rv E (some o), .int a_1, .int a_2, .int a_3]).length) Slot.unset).toArray = ls at hl ⊢
  replace hl : lv_has ls 4 [(0, rv E (some o)), (1, .int a_1), (2, .int a_2), (3, .int a_3)] := by simpa only [lv_args, cat_q, cat_i, cat_j, reduceIte, Nat.reduceEqDiff, Nat.reduceAdd, Nat.zero_add] using hl
  generalize s.heap = H at hH ⊢
  unfold f_X13_areThere at hf
  refine hl_aload_n hx hb dX13_areThere_0 rfl (lv_at hl 0 rfl) ?_
  refine lv_iload_n hx hb dX13_areThere_1 rfl (lv_at hl 1 rfl) ?_
  obtain ⟨q1, hq1, hf⟩ := bnd hf
  refine hcV_i hx hb hml hown hts hKs hT hb0 hH (As := [.int a_1]) (rest := []) (k_X13_isCase l E K H.size o a_1 w ho hq1) (gV m7_114 m7_116 ms_51 m1_16 m7_117) hd_X13_isCase ⟨Nat.le_of_ble_eq_true rfl, Nat.le_of_ble_eq_true rfl, rfl, rfl⟩ rfl ho rfl rfl rfl hl.1 rfl rc0 rfl dX13_areThere_2 ⟨Nat.zero_le _, Nat.zero_le _⟩ (fun H locs hH => ?_)
  refine lv_if_eq (tgt := 28) hx hb dX13_areThere_5 (by decide) (fun c2 => ?_) (fun c2 => ?_)
  · replace hf := (if_pos c2).symm.trans hf
    refine lv_iconst (v := 0) hx hb dX13_areThere_28 (by decide) ?_
    exact hw_zret hx hb hret rfl hf hH hlocks dX13_areThere_29
  · replace hf := (if_neg c2).symm.trans hf
    refine hl_aload_n hx hb dX13_areThere_8 rfl (lv_at hl 0 rfl) ?_
    refine lv_iload_n hx hb dX13_areThere_9 rfl (lv_at hl 2 rfl) ?_
    obtain ⟨q3, hq3, hf⟩ := bnd hf
    refine hcV_i hx hb hml hown hts hKs hT hb0 hH (As := [.int a_2]) (rest := []) (k_X13_isRoom l E K H.size o a_2 q1.2 ho hq3) (gV m7_171 m7_173 ms_59 m1_16 m7_174) hd_X13_isRoom ⟨Nat.le_of_ble_eq_true rfl, Nat.le_of_ble_eq_true rfl, rfl, rfl⟩ rfl ho rfl rfl rfl hl.1 rfl rc0 rfl dX13_areThere_10 ⟨Nat.zero_le _, Nat.zero_le _⟩ (fun H locs hH => ?_)
    refine lv_if_eq (tgt := 28) hx hb dX13_areThere_13 (by decide) (fun c4 => ?_) (fun c4 => ?_)
    · replace hf := (if_pos c4).symm.trans hf
      refine lv_iconst (v := 0) hx hb dX13_areThere_28 (by decide) ?_
      exact hw_zret hx hb hret rfl hf hH hlocks dX13_areThere_29
    · replace hf := (if_neg c4).symm.trans hf
      refine hl_aload_n hx hb dX13_areThere_16 rfl (lv_at hl 0 rfl) ?_
      refine lv_iload_n hx hb dX13_areThere_17 rfl (lv_at hl 3 rfl) ?_
      obtain ⟨q5, hq5, hf⟩ := bnd hf
      refine hcV_i hx hb hml hown hts hKs hT hb0 hH (As := [.int a_3]) (rest := []) (k_X13_isOfficer l E K H.size o a_3 q3.2 ho hq5) (gV m7_175 m7_177 ms_60 m1_16 m7_178) hd_X13_isOfficer ⟨Nat.le_of_ble_eq_true rfl, Nat.le_of_ble_eq_true rfl, rfl, rfl⟩ rfl ho rfl rfl rfl hl.1 rfl rc0 rfl dX13_areThere_18 ⟨Nat.zero_le _, Nat.zero_le _⟩ (fun H locs hH => ?_)
      refine lv_if_eq (tgt := 28) hx hb dX13_areThere_21 (by decide) (fun c6 => ?_) (fun c6 => ?_)
      · replace hf := (if_pos c6).symm.trans hf
        refine lv_iconst (v := 0) hx hb dX13_areThere_28 (by decide) ?_
        exact hw_zret hx hb hret rfl hf hH hlocks dX13_areThere_29
      · replace hf := (if_neg c6).symm.trans hf
        refine lv_iconst (v := 1) hx hb dX13_areThere_24 (by decide) ?_
        refine lv_goto (tgt := 29) hx hb dX13_areThere_25 (by decide) ?_
        exact hw_zret hx hb hret rfl hf hH hlocks dX13_areThere_29

theorem dX13_isTime_0 : decode cX13_isTime 0 = .ok (.iload_n 0, 1) := by decide +kernel
theorem dX13_isTime_1 : decode cX13_isTime 1 = .ok (.invokestatic 127, 3) := by decide +kernel
theorem dX13_isTime_4 : decode cX13_isTime 4 = .ok (.ifCond .eq 19, 3) := by decide +kernel
theorem dX13_isTime_7 : decode cX13_isTime 7 = .ok (.iload_n 1, 1) := by decide +kernel
theorem dX13_isTime_8 : decode cX13_isTime 8 = .ok (.i2l, 1) := by decide +kernel
theorem dX13_isTime_9 : decode cX13_isTime 9 = .ok (.lconst 0, 1) := by decide +kernel
theorem dX13_isTime_10 : decode cX13_isTime 10 = .ok (.ldc2_w 206, 3) := by decide +kernel
theorem dX13_isTime_13 : decode cX13_isTime 13 = .ok (.invokestatic 123, 3) := by decide +kernel
theorem dX13_isTime_16 : decode cX13_isTime 16 = .ok (.ifCond .eq 7, 3) := by decide +kernel
theorem dX13_isTime_19 : decode cX13_isTime 19 = .ok (.iconst 1, 1) := by decide +kernel
theorem dX13_isTime_20 : decode cX13_isTime 20 = .ok (.goto 4, 3) := by decide +kernel
theorem dX13_isTime_23 : decode cX13_isTime 23 = .ok (.iconst 0, 1) := by decide +kernel
theorem dX13_isTime_24 : decode cX13_isTime 24 = .ok (.ireturn, 1) := by decide +kernel
theorem hs_X13_isTime : yX13_isTime.cls ≠ "java/lang/invoke/MethodHandle" ∧ yX13_isTime.cls ≠ "java/lang/invoke/VarHandle" ∧ (parseMethodDescriptor yX13_isTime.desc).map (fun d => d.parameters.length) = some 2 := by decide +kernel
set_option maxHeartbeats 4000000 in
set_option maxRecDepth 100000 in
theorem k_X13_isTime (l : Launch) (E : Ev) (K : Kd) (z : Nat) (a_0 : Int32) (a_1 : Int32) (w : Wd) {r : Bool} {w' : Wd} (hf : f_X13_isTime K a_0 a_1 w = some (r, w')) : Met l yX13_isTime (Cond.code yX13_isTime cX13_isTime 2 (Option.some Jvm.ClassFile.FieldType.boolean) :: bt) ({ frames := 2, cells := 0, slots := 0, locals := 45 } : Room) (va_Pc [.int a_0, .int a_1] (HB E K w z)) (QI E K z w' (b2i r)) 0 0 (hA E) := by
  refine Met.ofW (cc := cX13_isTime) (maxL := 2) (ret := (Option.some Jvm.ClassFile.FieldType.boolean)) (by decide) rfl ?_
  intro p e s m args below meth c s₁ B hml hv
  obtain ⟨rfl, hz, hP, hKs, hT, hb0⟩ := hv
  have C : CX p l e s m _ meth c cX13_isTime 2 RX13 (Option.some Jvm.ClassFile.FieldType.boolean) E := ⟨B.exec, B.bytes, hml, findClass_of_methodNamed B.named, fun w h => atoms_spec (ws := Cond.code yX13_isTime cX13_isTime 2 (Option.some Jvm.ClassFile.FieldType.boolean) :: bt) B.pre w (List.mem_cons_of_mem _ h), hKs, hT, by rw [hz]; exact hb0, B.notSynchronized, B.returns⟩
  have hH : HQ E K z w s s.heap [] := ⟨hP, va_S.rf, hz⟩
  obtain ⟨hx, hb, hml, hown, hts, hKs, hT, hb0, hlocks, hret⟩ := id C
  have hl := lv_entry [.int a_0, .int a_1] (n := 2) (by simp [lg_len_nil, lg_len_i, lg_len_j, lg_len_q, lg_len_f, lg_len_d, lg_len_r])
  rw [lg_entry_eq]
  generalize (lg_sl [.int a_0, .int a_1] ++ List.replicate (2 - (lg_sl [.int a_0, .int a_1]).length) Slot.unset).toArray = ls at hl ⊢
  replace hl : lv_has ls 2 [(0, .int a_0), (1, .int a_1)] := by simpa only [lv_args, cat_q, cat_i, cat_j, reduceIte, Nat.reduceEqDiff, Nat.reduceAdd, Nat.zero_add] using hl
  generalize s.heap = H at hH ⊢
  unfold f_X13_isTime at hf
  refine lv_iload_n hx hb dX13_isTime_0 rfl (lv_at hl 0 rfl) ?_
  obtain ⟨q1, hq1, hf⟩ := bnd hf
  refine hcS_i hx hb hml hown hts hKs hT hb0 hH (As := [.int a_0]) (rest := []) (k_X13_isDay l E K H.size a_0 w hq1) (gS m7_84 m7_85 m1_16 m7_86) hs_X13_isDay ⟨Nat.le_of_ble_eq_true rfl, Nat.le_of_ble_eq_true rfl, rfl, rfl⟩ hl.1 rfl rc0 rfl dX13_isTime_1 ⟨Nat.zero_le _, Nat.zero_le _⟩ (fun H locs hH => ?_)
  refine lv_if_eq (tgt := 23) hx hb dX13_isTime_4 (by decide) (fun c2 => ?_) (fun c2 => ?_)
  · replace hf := (if_pos c2).symm.trans hf
    refine lv_iconst (v := 0) hx hb dX13_isTime_23 (by decide) ?_
    exact hw_zret hx hb hret rfl hf hH hlocks dX13_isTime_24
  · replace hf := (if_neg c2).symm.trans hf
    refine lv_iload_n hx hb dX13_isTime_7 rfl (lv_at hl 1 rfl) ?_
    refine lv_i2l (v := (a_1.toInt64)) hx hb dX13_isTime_8 rfl ?_
    refine lv_lconst (v := 0) hx hb dX13_isTime_9 rfl ?_
    refine lv_ldc2 (v := 7) hx hb hown (hts _ m7_182) dX13_isTime_10 ?_
    obtain ⟨q3, hq3, hf⟩ := bnd hf
    refine hcS_i hx hb hml hown hts hKs hT hb0 hH (As := [.long (a_1.toInt64), .long 0, .long 7]) (rest := []) (k_X13_isIn l E K H.size (a_1.toInt64) 0 7 q1.2 hq3) (gS m7_88 m7_89 m1_16 m7_90) hs_X13_isIn ⟨Nat.le_of_ble_eq_true rfl, Nat.le_of_ble_eq_true rfl, rfl, rfl⟩ hl.1 rfl rc0 rfl dX13_isTime_13 ⟨Nat.zero_le _, Nat.zero_le _⟩ (fun H locs hH => ?_)
    refine lv_if_eq (tgt := 23) hx hb dX13_isTime_16 (by decide) (fun c4 => ?_) (fun c4 => ?_)
    · replace hf := (if_pos c4).symm.trans hf
      refine lv_iconst (v := 0) hx hb dX13_isTime_23 (by decide) ?_
      exact hw_zret hx hb hret rfl hf hH hlocks dX13_isTime_24
    · replace hf := (if_neg c4).symm.trans hf
      refine lv_iconst (v := 1) hx hb dX13_isTime_19 (by decide) ?_
      refine lv_goto (tgt := 24) hx hb dX13_isTime_20 (by decide) ?_
      exact hw_zret hx hb hret rfl hf hH hlocks dX13_isTime_24

theorem dX13_isOpen_0 : decode cX13_isOpen 0 = .ok (.aload_n 0, 1) := by decide +kernel
theorem dX13_isOpen_1 : decode cX13_isOpen 1 = .ok (.iload_n 1, 1) := by decide +kernel
theorem dX13_isOpen_2 : decode cX13_isOpen 2 = .ok (.iconst 0, 1) := by decide +kernel
theorem dX13_isOpen_3 : decode cX13_isOpen 3 = .ok (.invokevirtual 141, 3) := by decide +kernel
theorem dX13_isOpen_6 : decode cX13_isOpen 6 = .ok (.iconst 1, 1) := by decide +kernel
theorem dX13_isOpen_7 : decode cX13_isOpen 7 = .ok (.if_icmp .gt 7, 3) := by decide +kernel
theorem dX13_isOpen_10 : decode cX13_isOpen 10 = .ok (.iconst 1, 1) := by decide +kernel
theorem dX13_isOpen_11 : decode cX13_isOpen 11 = .ok (.goto 4, 3) := by decide +kernel
theorem dX13_isOpen_14 : decode cX13_isOpen 14 = .ok (.iconst 0, 1) := by decide +kernel
theorem dX13_isOpen_15 : decode cX13_isOpen 15 = .ok (.ireturn, 1) := by decide +kernel
theorem hd_X13_isOpen : yX13_isOpen.cls = RX13 ∧ yX13_isOpen.cls ≠ "java/lang/invoke/MethodHandle" ∧ yX13_isOpen.cls ≠ "java/lang/invoke/VarHandle" ∧ (parseMethodDescriptor yX13_isOpen.desc).map (fun d => d.parameters.length) = some 1 := by decide +kernel
theorem hs_X13_isOpen : yX13_isOpen.cls ≠ "java/lang/invoke/MethodHandle" ∧ yX13_isOpen.cls ≠ "java/lang/invoke/VarHandle" ∧ (parseMethodDescriptor yX13_isOpen.desc).map (fun d => d.parameters.length) = some 1 := by decide +kernel
set_option maxHeartbeats 4000000 in
set_option maxRecDepth 100000 in
theorem k_X13_isOpen (l : Launch) (E : Ev) (K : Kd) (z : Nat) (o : Nat) (a_1 : Int32) (w : Wd) (ho : K o = some (11, 0)) {r : Bool} {w' : Wd} (hf : f_X13_isOpen K o a_1 w = some (r, w')) : Met l yX13_isOpen (Cond.code yX13_isOpen cX13_isOpen 2 (Option.some Jvm.ClassFile.FieldType.boolean) :: bt) ({ frames := 2, cells := 0, slots := 0, locals := 44 } : Room) (va_Pc [rv E (some o), .int a_1] (HB E K w z)) (QI E K z w' (b2i r)) 0 0 (hA E) := by
  refine Met.ofW (cc := cX13_isOpen) (maxL := 2) (ret := (Option.some Jvm.ClassFile.FieldType.boolean)) (by decide) rfl ?_
  intro p e s m args below meth c s₁ B hml hv
  obtain ⟨rfl, hz, hP, hKs, hT, hb0⟩ := hv
  have C : CX p l e s m _ meth c cX13_isOpen 2 RX13 (Option.some Jvm.ClassFile.FieldType.boolean) E := ⟨B.exec, B.bytes, hml, findClass_of_methodNamed B.named, fun w h => atoms_spec (ws := Cond.code yX13_isOpen cX13_isOpen 2 (Option.some Jvm.ClassFile.FieldType.boolean) :: bt) B.pre w (List.mem_cons_of_mem _ h), hKs, hT, by rw [hz]; exact hb0, B.notSynchronized, B.returns⟩
  have hH : HQ E K z w s s.heap [] := ⟨hP, va_S.rf, hz⟩
  obtain ⟨hx, hb, hml, hown, hts, hKs, hT, hb0, hlocks, hret⟩ := id C
  have hl := lv_entry [rv E (some o), .int a_1] (n := 2) (by simp [lg_len_nil, lg_len_i, lg_len_j, lg_len_q, lg_len_f, lg_len_d, lg_len_r])
  rw [lg_entry_eq]
  generalize (lg_sl [rv E (some o), .int a_1] ++ List.replicate (2 - (lg_sl [rv E (some o), .int a_1]).length) Slot.unset).toArray = ls at hl ⊢
  replace hl : lv_has ls 2 [(0, rv E (some o)), (1, .int a_1)] := by simpa only [lv_args, cat_q, cat_i, cat_j, reduceIte, Nat.reduceEqDiff, Nat.reduceAdd, Nat.zero_add] using hl
  generalize s.heap = H at hH ⊢
  unfold f_X13_isOpen at hf
  refine hl_aload_n hx hb dX13_isOpen_0 rfl (lv_at hl 0 rfl) ?_
  refine lv_iload_n hx hb dX13_isOpen_1 rfl (lv_at hl 1 rfl) ?_
  refine lv_iconst (v := 0) hx hb dX13_isOpen_2 (by decide) ?_
  obtain ⟨q1, hq1, hf⟩ := bnd hf
  refine hcV_i hx hb hml hown hts hKs hT hb0 hH (As := [.int a_1, .int 0]) (rest := []) (k_X13_of l E K H.size o a_1 0 w ho hq1) (gV m7_126 m7_128 ms_54 m1_16 m7_129) hd_X13_of ⟨Nat.le_of_ble_eq_true rfl, Nat.le_of_ble_eq_true rfl, rfl, rfl⟩ rfl ho rfl rfl rfl hl.1 rfl rc0 rfl dX13_isOpen_3 ⟨Nat.zero_le _, Nat.zero_le _⟩ (fun H locs hH => ?_)
  refine lv_iconst (v := 1) hx hb dX13_isOpen_6 (by decide) ?_
  refine lv_icmp_gt (tgt := 14) hx hb dX13_isOpen_7 (by decide) (fun c2 => ?_) (fun c2 => ?_)
  · replace hf := (if_pos c2).symm.trans hf
    refine lv_iconst (v := 0) hx hb dX13_isOpen_14 (by decide) ?_
    exact hw_zret hx hb hret rfl hf hH hlocks dX13_isOpen_15
  · replace hf := (if_neg c2).symm.trans hf
    refine lv_iconst (v := 1) hx hb dX13_isOpen_10 (by decide) ?_
    refine lv_goto (tgt := 15) hx hb dX13_isOpen_11 (by decide) ?_
    exact hw_zret hx hb hret rfl hf hH hlocks dX13_isOpen_15

theorem dX13_problem_0 : decode cX13_problem 0 = .ok (.aload_n 0, 1) := by decide +kernel
theorem dX13_problem_1 : decode cX13_problem 1 = .ok (.aload_n 0, 1) := by decide +kernel
theorem dX13_problem_2 : decode cX13_problem 2 = .ok (.iload_n 1, 1) := by decide +kernel
theorem dX13_problem_3 : decode cX13_problem 3 = .ok (.iload 4, 2) := by decide +kernel
theorem dX13_problem_5 : decode cX13_problem 5 = .ok (.iload 5, 2) := by decide +kernel
theorem dX13_problem_7 : decode cX13_problem 7 = .ok (.invokevirtual 208, 3) := by decide +kernel
theorem dX13_problem_10 : decode cX13_problem 10 = .ok (.invokevirtual 110, 3) := by decide +kernel
theorem dX13_problem_13 : decode cX13_problem 13 = .ok (.ifCond .eq 29, 3) := by decide +kernel
theorem dX13_problem_16 : decode cX13_problem 16 = .ok (.aload_n 0, 1) := by decide +kernel
theorem dX13_problem_17 : decode cX13_problem 17 = .ok (.iload_n 2, 1) := by decide +kernel
theorem dX13_problem_18 : decode cX13_problem 18 = .ok (.iload_n 3, 1) := by decide +kernel
theorem dX13_problem_19 : decode cX13_problem 19 = .ok (.invokestatic 211, 3) := by decide +kernel
theorem dX13_problem_22 : decode cX13_problem 22 = .ok (.iconst 2, 1) := by decide +kernel
theorem dX13_problem_23 : decode cX13_problem 23 = .ok (.invokevirtual 214, 3) := by decide +kernel
theorem dX13_problem_26 : decode cX13_problem 26 = .ok (.ifCond .eq 16, 3) := by decide +kernel
theorem dX13_problem_29 : decode cX13_problem 29 = .ok (.aload_n 0, 1) := by decide +kernel
theorem dX13_problem_30 : decode cX13_problem 30 = .ok (.aload_n 0, 1) := by decide +kernel
theorem dX13_problem_31 : decode cX13_problem 31 = .ok (.iload_n 1, 1) := by decide +kernel
theorem dX13_problem_32 : decode cX13_problem 32 = .ok (.invokevirtual 218, 3) := by decide +kernel
theorem dX13_problem_35 : decode cX13_problem 35 = .ok (.iconst 3, 1) := by decide +kernel
theorem dX13_problem_36 : decode cX13_problem 36 = .ok (.invokevirtual 214, 3) := by decide +kernel
theorem dX13_problem_39 : decode cX13_problem 39 = .ok (.ifCond .ne 5, 3) := by decide +kernel
theorem dX13_problem_42 : decode cX13_problem 42 = .ok (.iconst 0, 1) := by decide +kernel
theorem dX13_problem_43 : decode cX13_problem 43 = .ok (.ireturn, 1) := by decide +kernel
theorem dX13_problem_44 : decode cX13_problem 44 = .ok (.aload_n 0, 1) := by decide +kernel
theorem dX13_problem_45 : decode cX13_problem 45 = .ok (.iload_n 1, 1) := by decide +kernel
theorem dX13_problem_46 : decode cX13_problem 46 = .ok (.iload_n 2, 1) := by decide +kernel
theorem dX13_problem_47 : decode cX13_problem 47 = .ok (.iload_n 3, 1) := by decide +kernel
theorem dX13_problem_48 : decode cX13_problem 48 = .ok (.iload 4, 2) := by decide +kernel
theorem dX13_problem_50 : decode cX13_problem 50 = .ok (.iload 5, 2) := by decide +kernel
theorem dX13_problem_52 : decode cX13_problem 52 = .ok (.invokevirtual 221, 3) := by decide +kernel
theorem dX13_problem_55 : decode cX13_problem 55 = .ok (.ireturn, 1) := by decide +kernel
theorem hd_X13_problem : yX13_problem.cls = RX13 ∧ yX13_problem.cls ≠ "java/lang/invoke/MethodHandle" ∧ yX13_problem.cls ≠ "java/lang/invoke/VarHandle" ∧ (parseMethodDescriptor yX13_problem.desc).map (fun d => d.parameters.length) = some 5 := by decide +kernel
theorem hs_X13_problem : yX13_problem.cls ≠ "java/lang/invoke/MethodHandle" ∧ yX13_problem.cls ≠ "java/lang/invoke/VarHandle" ∧ (parseMethodDescriptor yX13_problem.desc).map (fun d => d.parameters.length) = some 5 := by decide +kernel
set_option maxHeartbeats 4000000 in
set_option maxRecDepth 100000 in
theorem k_X13_problem (l : Launch) (E : Ev) (K : Kd) (z : Nat) (o : Nat) (a_1 : Int32) (a_2 : Int32) (a_3 : Int32) (a_4 : Int32) (a_5 : Int32) (w : Wd) (ho : K o = some (11, 0)) {r : Int32} {w' : Wd} (hf : f_X13_problem K o a_1 a_2 a_3 a_4 a_5 w = some (r, w')) : Met l yX13_problem (Cond.code yX13_problem cX13_problem 6 (Option.some Jvm.ClassFile.FieldType.int) :: bt) ({ frames := 7, cells := 0, slots := 0, locals := 165 } : Room) (va_Pc [rv E (some o), .int a_1, .int a_2, .int a_3, .int a_4, .int a_5] (HB E K w z)) (QI E K z w' r) 0 0 (hA E) := by
  refine Met.ofW (cc := cX13_problem) (maxL := 6) (ret := (Option.some Jvm.ClassFile.FieldType.int)) (by decide) rfl ?_
  intro p e s m args below meth c s₁ B hml hv
  obtain ⟨rfl, hz, hP, hKs, hT, hb0⟩ := hv
  have C : CX p l e s m _ meth c cX13_problem 6 RX13 (Option.some Jvm.ClassFile.FieldType.int) E := ⟨B.exec, B.bytes, hml, findClass_of_methodNamed B.named, fun w h => atoms_spec (ws := Cond.code yX13_problem cX13_problem 6 (Option.some Jvm.ClassFile.FieldType.int) :: bt) B.pre w (List.mem_cons_of_mem _ h), hKs, hT, by rw [hz]; exact hb0, B.notSynchronized, B.returns⟩
  have hH : HQ E K z w s s.heap [] := ⟨hP, va_S.rf, hz⟩
  obtain ⟨hx, hb, hml, hown, hts, hKs, hT, hb0, hlocks, hret⟩ := id C
  have hl := lv_entry [rv E (some o), .int a_1, .int a_2, .int a_3, .int a_4, .int a_5] (n := 6) (by simp [lg_len_nil, lg_len_i, lg_len_j, lg_len_q, lg_len_f, lg_len_d, lg_len_r])
  rw [lg_entry_eq]
  generalize (lg_sl [rv E (some o), .int a_1, .int a_2, .int a_3, .int a_4, .int a_5] ++ List.replicate (6 - (lg_sl [rv E (some o), .int a_1, .int a_2, .int a_3, .int a_4, .int a_5]).length) Slot.unset).toArray = ls at hl ⊢
  replace hl : lv_has ls 6 [(0, rv E (some o)), (1, .int a_1), (2, .int a_2), (3, .int a_3), (4, .int a_4), (5, .int a_5)] := by simpa only [lv_args, cat_q, cat_i, cat_j, reduceIte, Nat.reduceEqDiff, Nat.reduceAdd, Nat.zero_add] using hl
  generalize s.heap = H at hH ⊢
  unfold f_X13_problem at hf
  refine hl_aload_n hx hb dX13_problem_0 rfl (lv_at hl 0 rfl) ?_
  refine hl_aload_n hx hb dX13_problem_1 rfl (lv_at hl 0 rfl) ?_
  refine lv_iload_n hx hb dX13_problem_2 rfl (lv_at hl 1 rfl) ?_
  refine lv_iload hx hb dX13_problem_3 (lv_at hl 4 rfl) ?_
  refine lv_iload hx hb dX13_problem_5 (lv_at hl 5 rfl) ?_
  obtain ⟨q1, hq1, hf⟩ := bnd hf
  refine hcV_i hx hb hml hown hts hKs hT hb0 hH (As := [.int a_1, .int a_4, .int a_5]) (rest := [rv E (some o)]) (k_X13_areThere l E K H.size o a_1 a_4 a_5 w ho hq1) (gV m7_167 m7_169 ms_58 m1_16 m7_170) hd_X13_areThere ⟨Nat.le_of_ble_eq_true rfl, Nat.le_of_ble_eq_true rfl, rfl, rfl⟩ rfl ho rfl rfl rfl hl.1 rfl (rcV rc0) rfl dX13_problem_7 ⟨Nat.zero_le _, Nat.zero_le _⟩ (fun H locs hH => ?_)
  obtain ⟨q2, hq2, hf⟩ := bnd hf
  refine hcV_i hx hb hml hown hts hKs hT hb0 hH (As := [.int (b2i q1.1)]) (rest := []) (k_X13_is l E K H.size o q1.1 q1.2 ho hq2) (gV m7_68 m7_70 ms_47 m1_16 m7_71) hd_X13_is ⟨Nat.le_of_ble_eq_true rfl, Nat.le_of_ble_eq_true rfl, rfl, rfl⟩ rfl ho rfl rfl rfl hl.1 rfl rc0 rfl dX13_problem_10 ⟨Nat.zero_le _, Nat.zero_le _⟩ (fun H locs hH => ?_)
  refine lv_if_eq (tgt := 42) hx hb dX13_problem_13 (by decide) (fun c3 => ?_) (fun c3 => ?_)
  · replace hf := (if_pos c3).symm.trans hf
    refine lv_iconst (v := 0) hx hb dX13_problem_42 (by decide) ?_
    exact hw_iret hx hb hret hf hH hlocks dX13_problem_43
  · replace hf := (if_neg c3).symm.trans hf
    refine hl_aload_n hx hb dX13_problem_16 rfl (lv_at hl 0 rfl) ?_
    refine lv_iload_n hx hb dX13_problem_17 rfl (lv_at hl 2 rfl) ?_
    refine lv_iload_n hx hb dX13_problem_18 rfl (lv_at hl 3 rfl) ?_
    obtain ⟨q4, hq4, hf⟩ := bnd hf
    refine hcS_i hx hb hml hown hts hKs hT hb0 hH (As := [.int a_2, .int a_3]) (rest := [rv E (some o)]) (k_X13_isTime l E K H.size a_2 a_3 q2.2 hq4) (gS m7_179 m7_180 m1_16 m7_181) hs_X13_isTime ⟨Nat.le_of_ble_eq_true rfl, Nat.le_of_ble_eq_true rfl, rfl, rfl⟩ hl.1 rfl (rcV rc0) rfl dX13_problem_19 ⟨Nat.zero_le _, Nat.zero_le _⟩ (fun H locs hH => ?_)
    refine lv_iconst (v := 2) hx hb dX13_problem_22 (by decide) ?_
    obtain ⟨q5, hq5, hf⟩ := bnd hf
    refine hcV_i hx hb hml hown hts hKs hT hb0 hH (As := [.int (b2i q4.1), .int 2]) (rest := []) (k_X13_may l E K H.size o q4.1 2 q4.2 ho hq5) (gV m7_183 m7_185 ms_61 m1_16 m7_186) hd_X13_may ⟨Nat.le_of_ble_eq_true rfl, Nat.le_of_ble_eq_true rfl, rfl, rfl⟩ rfl ho rfl rfl rfl hl.1 rfl rc0 rfl dX13_problem_23 ⟨Nat.zero_le _, Nat.zero_le _⟩ (fun H locs hH => ?_)
    refine lv_if_eq (tgt := 42) hx hb dX13_problem_26 (by decide) (fun c6 => ?_) (fun c6 => ?_)
    · replace hf := (if_pos c6).symm.trans hf
      refine lv_iconst (v := 0) hx hb dX13_problem_42 (by decide) ?_
      exact hw_iret hx hb hret hf hH hlocks dX13_problem_43
    · replace hf := (if_neg c6).symm.trans hf
      refine hl_aload_n hx hb dX13_problem_29 rfl (lv_at hl 0 rfl) ?_
      refine hl_aload_n hx hb dX13_problem_30 rfl (lv_at hl 0 rfl) ?_
      refine lv_iload_n hx hb dX13_problem_31 rfl (lv_at hl 1 rfl) ?_
      obtain ⟨q7, hq7, hf⟩ := bnd hf
      refine hcV_i hx hb hml hown hts hKs hT hb0 hH (As := [.int a_1]) (rest := [rv E (some o)]) (k_X13_isOpen l E K H.size o a_1 q5.2 ho hq7) (gV m7_187 m7_189 ms_62 m1_16 m7_190) hd_X13_isOpen ⟨Nat.le_of_ble_eq_true rfl, Nat.le_of_ble_eq_true rfl, rfl, rfl⟩ rfl ho rfl rfl rfl hl.1 rfl (rcV rc0) rfl dX13_problem_32 ⟨Nat.zero_le _, Nat.zero_le _⟩ (fun H locs hH => ?_)
      refine lv_iconst (v := 3) hx hb dX13_problem_35 (by decide) ?_
      obtain ⟨q8, hq8, hf⟩ := bnd hf
      refine hcV_i hx hb hml hown hts hKs hT hb0 hH (As := [.int (b2i q7.1), .int 3]) (rest := []) (k_X13_may l E K H.size o q7.1 3 q7.2 ho hq8) (gV m7_183 m7_185 ms_61 m1_16 m7_186) hd_X13_may ⟨Nat.le_of_ble_eq_true rfl, Nat.le_of_ble_eq_true rfl, rfl, rfl⟩ rfl ho rfl rfl rfl hl.1 rfl rc0 rfl dX13_problem_36 ⟨Nat.zero_le _, Nat.zero_le _⟩ (fun H locs hH => ?_)
      refine lv_if_ne (tgt := 44) hx hb dX13_problem_39 (by decide) (fun c9 => ?_) (fun c9 => ?_)
      · replace hf := (if_neg c9).symm.trans hf
        refine hl_aload_n hx hb dX13_problem_44 rfl (lv_at hl 0 rfl) ?_
        refine lv_iload_n hx hb dX13_problem_45 rfl (lv_at hl 1 rfl) ?_
        refine lv_iload_n hx hb dX13_problem_46 rfl (lv_at hl 2 rfl) ?_
        refine lv_iload_n hx hb dX13_problem_47 rfl (lv_at hl 3 rfl) ?_
        refine lv_iload hx hb dX13_problem_48 (lv_at hl 4 rfl) ?_
        refine lv_iload hx hb dX13_problem_50 (lv_at hl 5 rfl) ?_
        obtain ⟨q10, hq10, hf⟩ := bnd hf
        refine hcV_i hx hb hml hown hts hKs hT hb0 hH (As := [.int a_1, .int a_2, .int a_3, .int a_4, .int a_5]) (rest := []) (k_X13_problemOf l E K H.size o a_1 a_2 a_3 a_4 a_5 q8.2 ho hq10) (gV m7_191 m7_193 ms_63 m1_16 m7_194) hd_X13_problemOf ⟨Nat.le_of_ble_eq_true rfl, Nat.le_of_ble_eq_true rfl, rfl, rfl⟩ rfl ho rfl rfl rfl hl.1 rfl rc0 rfl dX13_problem_52 ⟨Nat.zero_le _, Nat.zero_le _⟩ (fun H locs hH => ?_)
        exact hw_iret hx hb hret hf hH hlocks dX13_problem_55
      · replace hf := (if_pos c9).symm.trans hf
        refine lv_iconst (v := 0) hx hb dX13_problem_42 (by decide) ?_
        exact hw_iret hx hb hret hf hH hlocks dX13_problem_43

theorem dX13_loadOf_0 : decode cX13_loadOf 0 = .ok (.iconst 0, 1) := by decide +kernel
theorem dX13_loadOf_1 : decode cX13_loadOf 1 = .ok (.istore_n 2, 1) := by decide +kernel
theorem dX13_loadOf_2 : decode cX13_loadOf 2 = .ok (.iconst 0, 1) := by decide +kernel
theorem dX13_loadOf_3 : decode cX13_loadOf 3 = .ok (.istore_n 3, 1) := by decide +kernel
theorem dX13_loadOf_4 : decode cX13_loadOf 4 = .ok (.iload_n 3, 1) := by decide +kernel
theorem dX13_loadOf_5 : decode cX13_loadOf 5 = .ok (.aload_n 0, 1) := by decide +kernel
theorem dX13_loadOf_6 : decode cX13_loadOf 6 = .ok (.getfield 7, 3) := by decide +kernel
theorem dX13_loadOf_9 : decode cX13_loadOf 9 = .ok (.iconst 3, 1) := by decide +kernel
theorem dX13_loadOf_10 : decode cX13_loadOf 10 = .ok (.iaload, 1) := by decide +kernel
theorem dX13_loadOf_11 : decode cX13_loadOf 11 = .ok (.if_icmp .ge 40, 3) := by decide +kernel
theorem dX13_loadOf_14 : decode cX13_loadOf 14 = .ok (.aload_n 0, 1) := by decide +kernel
theorem dX13_loadOf_15 : decode cX13_loadOf 15 = .ok (.iload_n 3, 1) := by decide +kernel
theorem dX13_loadOf_16 : decode cX13_loadOf 16 = .ok (.invokevirtual 164, 3) := by decide +kernel
theorem dX13_loadOf_19 : decode cX13_loadOf 19 = .ok (.ifCond .eq 26, 3) := by decide +kernel
theorem dX13_loadOf_22 : decode cX13_loadOf 22 = .ok (.aload_n 0, 1) := by decide +kernel
theorem dX13_loadOf_23 : decode cX13_loadOf 23 = .ok (.iload_n 3, 1) := by decide +kernel
theorem dX13_loadOf_24 : decode cX13_loadOf 24 = .ok (.bipush 6, 2) := by decide +kernel
theorem dX13_loadOf_26 : decode cX13_loadOf 26 = .ok (.invokevirtual 141, 3) := by decide +kernel
theorem dX13_loadOf_29 : decode cX13_loadOf 29 = .ok (.iload_n 1, 1) := by decide +kernel
theorem dX13_loadOf_30 : decode cX13_loadOf 30 = .ok (.if_icmp .ne 15, 3) := by decide +kernel
theorem dX13_loadOf_33 : decode cX13_loadOf 33 = .ok (.iload_n 2, 1) := by decide +kernel
theorem dX13_loadOf_34 : decode cX13_loadOf 34 = .ok (.aload_n 0, 1) := by decide +kernel
theorem dX13_loadOf_35 : decode cX13_loadOf 35 = .ok (.getfield 7, 3) := by decide +kernel
theorem dX13_loadOf_38 : decode cX13_loadOf 38 = .ok (.bipush 100, 2) := by decide +kernel
theorem dX13_loadOf_40 : decode cX13_loadOf 40 = .ok (.iload_n 3, 1) := by decide +kernel
theorem dX13_loadOf_41 : decode cX13_loadOf 41 = .ok (.iadd, 1) := by decide +kernel
theorem dX13_loadOf_42 : decode cX13_loadOf 42 = .ok (.iaload, 1) := by decide +kernel
theorem dX13_loadOf_43 : decode cX13_loadOf 43 = .ok (.iadd, 1) := by decide +kernel
theorem dX13_loadOf_44 : decode cX13_loadOf 44 = .ok (.istore_n 2, 1) := by decide +kernel
theorem dX13_loadOf_45 : decode cX13_loadOf 45 = .ok (.iinc 3 1, 3) := by decide +kernel
theorem dX13_loadOf_48 : decode cX13_loadOf 48 = .ok (.goto (-44), 3) := by decide +kernel
theorem dX13_loadOf_51 : decode cX13_loadOf 51 = .ok (.iload_n 2, 1) := by decide +kernel
theorem dX13_loadOf_52 : decode cX13_loadOf 52 = .ok (.ireturn, 1) := by decide +kernel
theorem hd_X13_loadOf : yX13_loadOf.cls = RX13 ∧ yX13_loadOf.cls ≠ "java/lang/invoke/MethodHandle" ∧ yX13_loadOf.cls ≠ "java/lang/invoke/VarHandle" ∧ (parseMethodDescriptor yX13_loadOf.desc).map (fun d => d.parameters.length) = some 1 := by decide +kernel
theorem hs_X13_loadOf : yX13_loadOf.cls ≠ "java/lang/invoke/MethodHandle" ∧ yX13_loadOf.cls ≠ "java/lang/invoke/VarHandle" ∧ (parseMethodDescriptor yX13_loadOf.desc).map (fun d => d.parameters.length) = some 1 := by decide +kernel
set_option maxHeartbeats 4000000 in
set_option maxRecDepth 100000 in
theorem l_X13_loadOf_L4 (C : CX p l e s m args meth c cX13_loadOf 4 RX13 (Option.some Jvm.ClassFile.FieldType.int) E) {o : Nat} (ho : K o = some (11, 0)) {r : Int32} {w' : Wd} (k : Int32 → Int32 → Int32 → Wd → Option (Int32 × Wd)) (hk : ∀ (v1_4 : Int32) (v2_4 : Int32) (v3_4 : Int32) (w : Wd) (H : Heap) (locs : List Loc) (ls : Array Slot), HQ E K z w s H locs → lv_has ls 4 [(1, .int v1_4), (2, .int v2_4), (3, .int v3_4), (0, rv E (some o))] → k v1_4 v2_4 v3_4 w = some (r, w') → W p l e ({ frames := 3, cells := 0, slots := 0, locals := 65 } : Room) s m args below meth c H locs 0 0 (MQ below (QI E K z w' r) args s 0 0 (hA E)) (F0 m 51 ls [])) : ∀ (n : Nat) (v1_4 : Int32) (v2_4 : Int32) (v3_4 : Int32) (w : Wd) (H : Heap) (locs : List Loc) (ls : Array Slot), HQ E K z w s H locs → lv_has ls 4 [(1, .int v1_4), (2, .int v2_4), (3, .int v3_4), (0, rv E (some o))] → f_X13_loadOf_L4 K o k n v1_4 v2_4 v3_4 w = some (r, w') → W p l e ({ frames := 3, cells := 0, slots := 0, locals := 65 } : Room) s m args below meth c H locs 0 0 (MQ below (QI E K z w' r) args s 0 0 (hA E)) (F0 m 4 ls []) := by
  obtain ⟨hx, hb, hml, hown, hts, hKs, hT, hb0, hlocks, hret⟩ := id C
  intro n
  induction n with
  | zero =>
    intro v1_4 v2_4 v3_4 w H locs ls hH hl hf
    cases hf
  | succ n ih =>
    intro v1_4 v2_4 v3_4 w H locs ls hH hl hf
    rw [f_X13_loadOf_L4] at hf
    refine lv_iload_n hx hb dX13_loadOf_4 rfl (lv_at hl 2 rfl) ?_
    refine hl_aload_n hx hb dX13_loadOf_5 rfl (lv_at hl 3 rfl) ?_
    refine g13_1 hx hb hts hown hKs hH rfl ho m6_182 dX13_loadOf_6 ?_
    refine lv_iconst (v := 3) hx hb dX13_loadOf_9 (by decide) ?_
    obtain ⟨a2, ha2, hf⟩ := bnd hf
    replace ha2 := cha_some ha2
    obtain ⟨j3, hj3, hf⟩ := bnd hf
    refine hw_iald hx hb hKs hH ha2.1 ha2.2 hj3 dX13_loadOf_10 ?_
    refine lv_icmp_ge (tgt := 51) hx hb dX13_loadOf_11 (by decide) (fun c4 => ?_) (fun c4 => ?_)
    · replace hf := (if_pos c4).symm.trans hf
      exact hk v1_4 v2_4 v3_4 _ _ _ _ hH (lv_sub hl [0, 1, 2, 3] rfl) hf
    · replace hf := (if_neg c4).symm.trans hf
      refine hl_aload_n hx hb dX13_loadOf_14 rfl (lv_at hl 3 rfl) ?_
      refine lv_iload_n hx hb dX13_loadOf_15 rfl (lv_at hl 2 rfl) ?_
      obtain ⟨q5, hq5, hf⟩ := bnd hf
      refine hcV_i hx hb hml hown hts hKs hT hb0 hH (As := [.int v3_4]) (rest := []) (k_X13_hasHearing l E K H.size o v3_4 w ho hq5) (gV m7_155 m7_157 ms_57 m1_16 m7_158) hd_X13_hasHearing ⟨Nat.le_of_ble_eq_true rfl, Nat.le_of_ble_eq_true rfl, rfl, rfl⟩ rfl ho rfl rfl rfl hl.1 rfl rc0 rfl dX13_loadOf_16 ⟨Nat.zero_le _, Nat.zero_le _⟩ (fun H locs hH => ?_)
      refine lv_if_eq (tgt := 45) hx hb dX13_loadOf_19 (by decide) (fun c6 => ?_) (fun c6 => ?_)
      · replace hf := (if_pos c6).symm.trans hf
        refine lv_iinc (v := (v3_4 + 1)) (lv' := [(3, .int ((v3_4 + 1))), (1, .int v1_4), (2, .int v2_4), (0, rv E (some o))]) hx hb dX13_loadOf_45 hl (k := 2) rfl rfl (by decide) rfl (fun ls hl => ?_)
        refine lv_goto (tgt := 4) hx hb dX13_loadOf_48 (by decide) ?_
        exact ih v1_4 v2_4 (v3_4 + 1) _ _ _ _ hH (lv_sub hl [1, 2, 0, 3] rfl) hf
      · replace hf := (if_neg c6).symm.trans hf
        refine hl_aload_n hx hb dX13_loadOf_22 rfl (lv_at hl 3 rfl) ?_
        refine lv_iload_n hx hb dX13_loadOf_23 rfl (lv_at hl 2 rfl) ?_
        refine lv_bipush (v := 6) hx hb dX13_loadOf_24 (by decide) ?_
        obtain ⟨q7, hq7, hf⟩ := bnd hf
        refine hcV_i hx hb hml hown hts hKs hT hb0 hH (As := [.int v3_4, .int 6]) (rest := []) (k_X13_of l E K H.size o v3_4 6 q5.2 ho hq7) (gV m7_126 m7_128 ms_54 m1_16 m7_129) hd_X13_of ⟨Nat.le_of_ble_eq_true rfl, Nat.le_of_ble_eq_true rfl, rfl, rfl⟩ rfl ho rfl rfl rfl hl.1 rfl rc0 rfl dX13_loadOf_26 ⟨Nat.zero_le _, Nat.zero_le _⟩ (fun H locs hH => ?_)
        refine lv_iload_n hx hb dX13_loadOf_29 rfl (lv_at hl 0 rfl) ?_
        refine lv_icmp_ne (tgt := 45) hx hb dX13_loadOf_30 (by decide) (fun c8 => ?_) (fun c8 => ?_)
        · replace hf := (if_neg c8).symm.trans hf
          refine lv_iinc (v := (v3_4 + 1)) (lv' := [(3, .int ((v3_4 + 1))), (1, .int v1_4), (2, .int v2_4), (0, rv E (some o))]) hx hb dX13_loadOf_45 hl (k := 2) rfl rfl (by decide) rfl (fun ls hl => ?_)
          refine lv_goto (tgt := 4) hx hb dX13_loadOf_48 (by decide) ?_
          exact ih v1_4 v2_4 (v3_4 + 1) _ _ _ _ hH (lv_sub hl [1, 2, 0, 3] rfl) hf
        · replace hf := (if_pos c8).symm.trans hf
          refine lv_iload_n hx hb dX13_loadOf_33 rfl (lv_at hl 1 rfl) ?_
          refine hl_aload_n hx hb dX13_loadOf_34 rfl (lv_at hl 3 rfl) ?_
          refine g13_1 hx hb hts hown hKs hH rfl ho m6_182 dX13_loadOf_35 ?_
          refine lv_bipush (v := 100) hx hb dX13_loadOf_38 (by decide) ?_
          refine lv_iload_n hx hb dX13_loadOf_40 rfl (lv_at hl 2 rfl) ?_
          refine lv_iadd hx hb dX13_loadOf_41 ?_
          obtain ⟨a9, ha9, hf⟩ := bnd hf
          replace ha9 := cha_some ha9
          obtain ⟨j10, hj10, hf⟩ := bnd hf
          refine hw_iald hx hb hKs hH ha9.1 ha9.2 hj10 dX13_loadOf_42 ?_
          refine lv_iadd hx hb dX13_loadOf_43 ?_
          refine lv_istore_n (i := 2) (lv' := [(2, .int ((v2_4 + (aI q7.2 a9.1 j10)))), (1, .int v1_4), (3, .int v3_4), (0, rv E (some o))]) hx hb dX13_loadOf_44 rfl hl (by decide) rfl (fun ls hl => ?_)
          refine lv_iinc (v := (v3_4 + 1)) (lv' := [(3, .int ((v3_4 + 1))), (2, .int ((v2_4 + (aI q7.2 a9.1 j10)))), (1, .int v1_4), (0, rv E (some o))]) hx hb dX13_loadOf_45 hl (k := 2) rfl rfl (by decide) rfl (fun ls hl => ?_)
          refine lv_goto (tgt := 4) hx hb dX13_loadOf_48 (by decide) ?_
          exact ih v1_4 (v2_4 + (aI q7.2 a9.1 j10)) (v3_4 + 1) _ _ _ _ hH (lv_sub hl [2, 1, 0, 3] rfl) hf
set_option maxHeartbeats 4000000 in
set_option maxRecDepth 100000 in
theorem k_X13_loadOf (l : Launch) (E : Ev) (K : Kd) (z : Nat) (o : Nat) (a_1 : Int32) (w : Wd) (ho : K o = some (11, 0)) {r : Int32} {w' : Wd} (hf : f_X13_loadOf K o a_1 w = some (r, w')) : Met l yX13_loadOf (Cond.code yX13_loadOf cX13_loadOf 4 (Option.some Jvm.ClassFile.FieldType.int) :: bt) ({ frames := 3, cells := 0, slots := 0, locals := 65 } : Room) (va_Pc [rv E (some o), .int a_1] (HB E K w z)) (QI E K z w' r) 0 0 (hA E) := by
  refine Met.ofW (cc := cX13_loadOf) (maxL := 4) (ret := (Option.some Jvm.ClassFile.FieldType.int)) (by decide) rfl ?_
  intro p e s m args below meth c s₁ B hml hv
  obtain ⟨rfl, hz, hP, hKs, hT, hb0⟩ := hv
  have C : CX p l e s m _ meth c cX13_loadOf 4 RX13 (Option.some Jvm.ClassFile.FieldType.int) E := ⟨B.exec, B.bytes, hml, findClass_of_methodNamed B.named, fun w h => atoms_spec (ws := Cond.code yX13_loadOf cX13_loadOf 4 (Option.some Jvm.ClassFile.FieldType.int) :: bt) B.pre w (List.mem_cons_of_mem _ h), hKs, hT, by rw [hz]; exact hb0, B.notSynchronized, B.returns⟩
  have hH : HQ E K z w s s.heap [] := ⟨hP, va_S.rf, hz⟩
  obtain ⟨hx, hb, hml, hown, hts, hKs, hT, hb0, hlocks, hret⟩ := id C
  have hl := lv_entry [rv E (some o), .int a_1] (n := 4) (by simp [lg_len_nil, lg_len_i, lg_len_j, lg_len_q, lg_len_f, lg_len_d, lg_len_r])
  rw [lg_entry_eq]
  generalize (lg_sl [rv E (some o), .int a_1] ++ List.replicate (4 - (lg_sl [rv E (some o), .int a_1]).length) Slot.unset).toArray = ls at hl ⊢
  replace hl : lv_has ls 4 [(0, rv E (some o)), (1, .int a_1)] := by simpa only [lv_args, cat_q, cat_i, cat_j, reduceIte, Nat.reduceEqDiff, Nat.reduceAdd, Nat.zero_add] using hl
  generalize s.heap = H at hH ⊢
  unfold f_X13_loadOf at hf
  refine lv_iconst (v := 0) hx hb dX13_loadOf_0 (by decide) ?_
  refine lv_istore_n (i := 2) (lv' := [(2, .int 0), (0, rv E (some o)), (1, .int a_1)]) hx hb dX13_loadOf_1 rfl hl (by decide) rfl (fun ls hl => ?_)
  refine lv_iconst (v := 0) hx hb dX13_loadOf_2 (by decide) ?_
  refine lv_istore_n (i := 3) (lv' := [(3, .int 0), (2, .int 0), (0, rv E (some o)), (1, .int a_1)]) hx hb dX13_loadOf_3 rfl hl (by decide) rfl (fun ls hl => ?_)
  refine l_X13_loadOf_L4  C ho _ (fun v1_4 v2_4 v3_4 w1 H locs ls hH hl hf => ?_) fu a_1 0 0 w _ _ _ hH (lv_sub hl [3, 1, 0, 2] rfl) hf
  refine lv_iload_n hx hb dX13_loadOf_51 rfl (lv_at hl 1 rfl) ?_
  exact hw_iret hx hb hret hf hH hlocks dX13_loadOf_52

theorem dX13_officerFor_0 : decode cX13_officerFor 0 = .ok (.iconst (-1), 1) := by decide +kernel
theorem dX13_officerFor_1 : decode cX13_officerFor 1 = .ok (.istore 5, 2) := by decide +kernel
theorem dX13_officerFor_3 : decode cX13_officerFor 3 = .ok (.iconst 0, 1) := by decide +kernel
theorem dX13_officerFor_4 : decode cX13_officerFor 4 = .ok (.istore 6, 2) := by decide +kernel
theorem dX13_officerFor_6 : decode cX13_officerFor 6 = .ok (.iload 6, 2) := by decide +kernel
theorem dX13_officerFor_8 : decode cX13_officerFor 8 = .ok (.aload_n 0, 1) := by decide +kernel
theorem dX13_officerFor_9 : decode cX13_officerFor 9 = .ok (.getfield 7, 3) := by decide +kernel
theorem dX13_officerFor_12 : decode cX13_officerFor 12 = .ok (.iconst 1, 1) := by decide +kernel
theorem dX13_officerFor_13 : decode cX13_officerFor 13 = .ok (.iaload, 1) := by decide +kernel
theorem dX13_officerFor_14 : decode cX13_officerFor 14 = .ok (.if_icmp .ge 51, 3) := by decide +kernel
theorem dX13_officerFor_17 : decode cX13_officerFor 17 = .ok (.iload 5, 2) := by decide +kernel
theorem dX13_officerFor_19 : decode cX13_officerFor 19 = .ok (.iconst (-1), 1) := by decide +kernel
theorem dX13_officerFor_20 : decode cX13_officerFor 20 = .ok (.if_icmp .eq 21, 3) := by decide +kernel
theorem dX13_officerFor_23 : decode cX13_officerFor 23 = .ok (.aload_n 0, 1) := by decide +kernel
theorem dX13_officerFor_24 : decode cX13_officerFor 24 = .ok (.iload 6, 2) := by decide +kernel
theorem dX13_officerFor_26 : decode cX13_officerFor 26 = .ok (.invokevirtual 224, 3) := by decide +kernel
theorem dX13_officerFor_29 : decode cX13_officerFor 29 = .ok (.aload_n 0, 1) := by decide +kernel
theorem dX13_officerFor_30 : decode cX13_officerFor 30 = .ok (.iload 5, 2) := by decide +kernel
theorem dX13_officerFor_32 : decode cX13_officerFor 32 = .ok (.invokevirtual 224, 3) := by decide +kernel
theorem dX13_officerFor_35 : decode cX13_officerFor 35 = .ok (.if_icmp .lt 6, 3) := by decide +kernel
theorem dX13_officerFor_38 : decode cX13_officerFor 38 = .ok (.goto 21, 3) := by decide +kernel
theorem dX13_officerFor_41 : decode cX13_officerFor 41 = .ok (.aload_n 0, 1) := by decide +kernel
theorem dX13_officerFor_42 : decode cX13_officerFor 42 = .ok (.iload_n 1, 1) := by decide +kernel
theorem dX13_officerFor_43 : decode cX13_officerFor 43 = .ok (.iload_n 2, 1) := by decide +kernel
theorem dX13_officerFor_44 : decode cX13_officerFor 44 = .ok (.iload_n 3, 1) := by decide +kernel
theorem dX13_officerFor_45 : decode cX13_officerFor 45 = .ok (.iload 4, 2) := by decide +kernel
theorem dX13_officerFor_47 : decode cX13_officerFor 47 = .ok (.iload 6, 2) := by decide +kernel
theorem dX13_officerFor_49 : decode cX13_officerFor 49 = .ok (.invokevirtual 196, 3) := by decide +kernel
theorem dX13_officerFor_52 : decode cX13_officerFor 52 = .ok (.ifCond .ne 7, 3) := by decide +kernel
theorem dX13_officerFor_55 : decode cX13_officerFor 55 = .ok (.iload 6, 2) := by decide +kernel
theorem dX13_officerFor_57 : decode cX13_officerFor 57 = .ok (.istore 5, 2) := by decide +kernel
theorem dX13_officerFor_59 : decode cX13_officerFor 59 = .ok (.iinc 6 1, 3) := by decide +kernel
theorem dX13_officerFor_62 : decode cX13_officerFor 62 = .ok (.goto (-56), 3) := by decide +kernel
theorem dX13_officerFor_65 : decode cX13_officerFor 65 = .ok (.iload 5, 2) := by decide +kernel
theorem dX13_officerFor_67 : decode cX13_officerFor 67 = .ok (.ireturn, 1) := by decide +kernel
theorem hd_X13_officerFor : yX13_officerFor.cls = RX13 ∧ yX13_officerFor.cls ≠ "java/lang/invoke/MethodHandle" ∧ yX13_officerFor.cls ≠ "java/lang/invoke/VarHandle" ∧ (parseMethodDescriptor yX13_officerFor.desc).map (fun d => d.parameters.length) = some 4 := by decide +kernel
theorem hs_X13_officerFor : yX13_officerFor.cls ≠ "java/lang/invoke/MethodHandle" ∧ yX13_officerFor.cls ≠ "java/lang/invoke/VarHandle" ∧ (parseMethodDescriptor yX13_officerFor.desc).map (fun d => d.parameters.length) = some 4 := by decide +kernel
set_option maxHeartbeats 4000000 in
set_option maxRecDepth 100000 in
theorem l_X13_officerFor_L6 (C : CX p l e s m args meth c cX13_officerFor 7 RX13 (Option.some Jvm.ClassFile.FieldType.int) E) {o : Nat} (ho : K o = some (11, 0)) {r : Int32} {w' : Wd} (k : Int32 → Int32 → Int32 → Int32 → Int32 → Int32 → Wd → Option (Int32 × Wd)) (hk : ∀ (v1_6 : Int32) (v2_6 : Int32) (v3_6 : Int32) (v4_6 : Int32) (v5_6 : Int32) (v6_6 : Int32) (w : Wd) (H : Heap) (locs : List Loc) (ls : Array Slot), HQ E K z w s H locs → lv_has ls 7 [(1, .int v1_6), (2, .int v2_6), (3, .int v3_6), (4, .int v4_6), (5, .int v5_6), (6, .int v6_6), (0, rv E (some o))] → k v1_6 v2_6 v3_6 v4_6 v5_6 v6_6 w = some (r, w') → W p l e ({ frames := 6, cells := 0, slots := 0, locals := 140 } : Room) s m args below meth c H locs 0 0 (MQ below (QI E K z w' r) args s 0 0 (hA E)) (F0 m 65 ls [])) : ∀ (n : Nat) (v1_6 : Int32) (v2_6 : Int32) (v3_6 : Int32) (v4_6 : Int32) (v5_6 : Int32) (v6_6 : Int32) (w : Wd) (H : Heap) (locs : List Loc) (ls : Array Slot), HQ E K z w s H locs → lv_has ls 7 [(1, .int v1_6), (2, .int v2_6), (3, .int v3_6), (4, .int v4_6), (5, .int v5_6), (6, .int v6_6), (0, rv E (some o))] → f_X13_officerFor_L6 K o k n v1_6 v2_6 v3_6 v4_6 v5_6 v6_6 w = some (r, w') → W p l e ({ frames := 6, cells := 0, slots := 0, locals := 140 } : Room) s m args below meth c H locs 0 0 (MQ below (QI E K z w' r) args s 0 0 (hA E)) (F0 m 6 ls []) := by
  obtain ⟨hx, hb, hml, hown, hts, hKs, hT, hb0, hlocks, hret⟩ := id C
  intro n
  induction n with
  | zero =>
    intro v1_6 v2_6 v3_6 v4_6 v5_6 v6_6 w H locs ls hH hl hf
    cases hf
  | succ n ih =>
    intro v1_6 v2_6 v3_6 v4_6 v5_6 v6_6 w H locs ls hH hl hf
    rw [f_X13_officerFor_L6] at hf
    refine lv_iload hx hb dX13_officerFor_6 (lv_at hl 5 rfl) ?_
    refine hl_aload_n hx hb dX13_officerFor_8 rfl (lv_at hl 6 rfl) ?_
    refine g13_1 hx hb hts hown hKs hH rfl ho m6_182 dX13_officerFor_9 ?_
    refine lv_iconst (v := 1) hx hb dX13_officerFor_12 (by decide) ?_
    obtain ⟨a2, ha2, hf⟩ := bnd hf
    replace ha2 := cha_some ha2
    obtain ⟨j3, hj3, hf⟩ := bnd hf
    refine hw_iald hx hb hKs hH ha2.1 ha2.2 hj3 dX13_officerFor_13 ?_
    refine lv_icmp_ge (tgt := 65) hx hb dX13_officerFor_14 (by decide) (fun c4 => ?_) (fun c4 => ?_)
    · replace hf := (if_pos c4).symm.trans hf
      exact hk v1_6 v2_6 v3_6 v4_6 v5_6 v6_6 _ _ _ _ hH (lv_sub hl [0, 1, 2, 3, 4, 5, 6] rfl) hf
    · replace hf := (if_neg c4).symm.trans hf
      refine lv_iload hx hb dX13_officerFor_17 (lv_at hl 4 rfl) ?_
      refine lv_iconst (v := (-1)) hx hb dX13_officerFor_19 (by decide) ?_
      refine lv_icmp_eq (tgt := 41) hx hb dX13_officerFor_20 (by decide) (fun c5 => ?_) (fun c5 => ?_)
      · replace hf := (if_pos c5).symm.trans hf
        refine hl_aload_n hx hb dX13_officerFor_41 rfl (lv_at hl 6 rfl) ?_
        refine lv_iload_n hx hb dX13_officerFor_42 rfl (lv_at hl 0 rfl) ?_
        refine lv_iload_n hx hb dX13_officerFor_43 rfl (lv_at hl 1 rfl) ?_
        refine lv_iload_n hx hb dX13_officerFor_44 rfl (lv_at hl 2 rfl) ?_
        refine lv_iload hx hb dX13_officerFor_45 (lv_at hl 3 rfl) ?_
        refine lv_iload hx hb dX13_officerFor_47 (lv_at hl 5 rfl) ?_
        obtain ⟨q6, hq6, hf⟩ := bnd hf
        refine hcV_i hx hb hml hown hts hKs hT hb0 hH (As := [.int v1_6, .int v2_6, .int v3_6, .int v4_6, .int v6_6]) (rest := []) (k_X13_problemOn l E K H.size o v1_6 v2_6 v3_6 v4_6 v6_6 w ho hq6) (gV m7_199 m7_201 ms_65 m1_16 m7_202) hd_X13_problemOn ⟨Nat.le_of_ble_eq_true rfl, Nat.le_of_ble_eq_true rfl, rfl, rfl⟩ rfl ho rfl rfl rfl hl.1 rfl rc0 rfl dX13_officerFor_49 ⟨Nat.zero_le _, Nat.zero_le _⟩ (fun H locs hH => ?_)
        refine lv_if_ne (tgt := 59) hx hb dX13_officerFor_52 (by decide) (fun c7 => ?_) (fun c7 => ?_)
        · replace hf := (if_neg c7).symm.trans hf
          refine lv_iinc (v := (v6_6 + 1)) (lv' := [(6, .int ((v6_6 + 1))), (1, .int v1_6), (2, .int v2_6), (3, .int v3_6), (4, .int v4_6), (5, .int v5_6), (0, rv E (some o))]) hx hb dX13_officerFor_59 hl (k := 5) rfl rfl (by decide) rfl (fun ls hl => ?_)
          refine lv_goto (tgt := 6) hx hb dX13_officerFor_62 (by decide) ?_
          exact ih v1_6 v2_6 v3_6 v4_6 v5_6 (v6_6 + 1) _ _ _ _ hH (lv_sub hl [1, 2, 3, 4, 5, 0, 6] rfl) hf
        · replace hf := (if_pos c7).symm.trans hf
          refine lv_iload hx hb dX13_officerFor_55 (lv_at hl 5 rfl) ?_
          refine lv_istore (i := 5) (lv' := [(5, .int v6_6), (1, .int v1_6), (2, .int v2_6), (3, .int v3_6), (4, .int v4_6), (6, .int v6_6), (0, rv E (some o))]) hx hb dX13_officerFor_57 hl (by decide) rfl (fun ls hl => ?_)
          refine lv_iinc (v := (v6_6 + 1)) (lv' := [(6, .int ((v6_6 + 1))), (5, .int v6_6), (1, .int v1_6), (2, .int v2_6), (3, .int v3_6), (4, .int v4_6), (0, rv E (some o))]) hx hb dX13_officerFor_59 hl (k := 5) rfl rfl (by decide) rfl (fun ls hl => ?_)
          refine lv_goto (tgt := 6) hx hb dX13_officerFor_62 (by decide) ?_
          exact ih v1_6 v2_6 v3_6 v4_6 v6_6 (v6_6 + 1) _ _ _ _ hH (lv_sub hl [2, 3, 4, 5, 1, 0, 6] rfl) hf
      · replace hf := (if_neg c5).symm.trans hf
        refine hl_aload_n hx hb dX13_officerFor_23 rfl (lv_at hl 6 rfl) ?_
        refine lv_iload hx hb dX13_officerFor_24 (lv_at hl 5 rfl) ?_
        obtain ⟨q8, hq8, hf⟩ := bnd hf
        refine hcV_i hx hb hml hown hts hKs hT hb0 hH (As := [.int v6_6]) (rest := []) (k_X13_loadOf l E K H.size o v6_6 w ho hq8) (gV m8_14 m8_16 ms_77 m1_16 m8_17) hd_X13_loadOf ⟨Nat.le_of_ble_eq_true rfl, Nat.le_of_ble_eq_true rfl, rfl, rfl⟩ rfl ho rfl rfl rfl hl.1 rfl rc0 rfl dX13_officerFor_26 ⟨Nat.zero_le _, Nat.zero_le _⟩ (fun H locs hH => ?_)
        refine hl_aload_n hx hb dX13_officerFor_29 rfl (lv_at hl 6 rfl) ?_
        refine lv_iload hx hb dX13_officerFor_30 (lv_at hl 4 rfl) ?_
        obtain ⟨q9, hq9, hf⟩ := bnd hf
        refine hcV_i hx hb hml hown hts hKs hT hb0 hH (As := [.int v5_6]) (rest := [.int (q8.1)]) (k_X13_loadOf l E K H.size o v5_6 q8.2 ho hq9) (gV m8_14 m8_16 ms_77 m1_16 m8_17) hd_X13_loadOf ⟨Nat.le_of_ble_eq_true rfl, Nat.le_of_ble_eq_true rfl, rfl, rfl⟩ rfl ho rfl rfl rfl hl.1 rfl (rcI rc0) rfl dX13_officerFor_32 ⟨Nat.zero_le _, Nat.zero_le _⟩ (fun H locs hH => ?_)
        refine lv_icmp_lt (tgt := 41) hx hb dX13_officerFor_35 (by decide) (fun c10 => ?_) (fun c10 => ?_)
        · replace hf := (if_pos c10).symm.trans hf
          refine hl_aload_n hx hb dX13_officerFor_41 rfl (lv_at hl 6 rfl) ?_
          refine lv_iload_n hx hb dX13_officerFor_42 rfl (lv_at hl 0 rfl) ?_
          refine lv_iload_n hx hb dX13_officerFor_43 rfl (lv_at hl 1 rfl) ?_
          refine lv_iload_n hx hb dX13_officerFor_44 rfl (lv_at hl 2 rfl) ?_
          refine lv_iload hx hb dX13_officerFor_45 (lv_at hl 3 rfl) ?_
          refine lv_iload hx hb dX13_officerFor_47 (lv_at hl 5 rfl) ?_
          obtain ⟨q11, hq11, hf⟩ := bnd hf
          refine hcV_i hx hb hml hown hts hKs hT hb0 hH (As := [.int v1_6, .int v2_6, .int v3_6, .int v4_6, .int v6_6]) (rest := []) (k_X13_problemOn l E K H.size o v1_6 v2_6 v3_6 v4_6 v6_6 q9.2 ho hq11) (gV m7_199 m7_201 ms_65 m1_16 m7_202) hd_X13_problemOn ⟨Nat.le_of_ble_eq_true rfl, Nat.le_of_ble_eq_true rfl, rfl, rfl⟩ rfl ho rfl rfl rfl hl.1 rfl rc0 rfl dX13_officerFor_49 ⟨Nat.zero_le _, Nat.zero_le _⟩ (fun H locs hH => ?_)
          refine lv_if_ne (tgt := 59) hx hb dX13_officerFor_52 (by decide) (fun c12 => ?_) (fun c12 => ?_)
          · replace hf := (if_neg c12).symm.trans hf
            refine lv_iinc (v := (v6_6 + 1)) (lv' := [(6, .int ((v6_6 + 1))), (1, .int v1_6), (2, .int v2_6), (3, .int v3_6), (4, .int v4_6), (5, .int v5_6), (0, rv E (some o))]) hx hb dX13_officerFor_59 hl (k := 5) rfl rfl (by decide) rfl (fun ls hl => ?_)
            refine lv_goto (tgt := 6) hx hb dX13_officerFor_62 (by decide) ?_
            exact ih v1_6 v2_6 v3_6 v4_6 v5_6 (v6_6 + 1) _ _ _ _ hH (lv_sub hl [1, 2, 3, 4, 5, 0, 6] rfl) hf
          · replace hf := (if_pos c12).symm.trans hf
            refine lv_iload hx hb dX13_officerFor_55 (lv_at hl 5 rfl) ?_
            refine lv_istore (i := 5) (lv' := [(5, .int v6_6), (1, .int v1_6), (2, .int v2_6), (3, .int v3_6), (4, .int v4_6), (6, .int v6_6), (0, rv E (some o))]) hx hb dX13_officerFor_57 hl (by decide) rfl (fun ls hl => ?_)
            refine lv_iinc (v := (v6_6 + 1)) (lv' := [(6, .int ((v6_6 + 1))), (5, .int v6_6), (1, .int v1_6), (2, .int v2_6), (3, .int v3_6), (4, .int v4_6), (0, rv E (some o))]) hx hb dX13_officerFor_59 hl (k := 5) rfl rfl (by decide) rfl (fun ls hl => ?_)
            refine lv_goto (tgt := 6) hx hb dX13_officerFor_62 (by decide) ?_
            exact ih v1_6 v2_6 v3_6 v4_6 v6_6 (v6_6 + 1) _ _ _ _ hH (lv_sub hl [2, 3, 4, 5, 1, 0, 6] rfl) hf
        · replace hf := (if_neg c10).symm.trans hf
          refine lv_goto (tgt := 59) hx hb dX13_officerFor_38 (by decide) ?_
          refine lv_iinc (v := (v6_6 + 1)) (lv' := [(6, .int ((v6_6 + 1))), (1, .int v1_6), (2, .int v2_6), (3, .int v3_6), (4, .int v4_6), (5, .int v5_6), (0, rv E (some o))]) hx hb dX13_officerFor_59 hl (k := 5) rfl rfl (by decide) rfl (fun ls hl => ?_)
          refine lv_goto (tgt := 6) hx hb dX13_officerFor_62 (by decide) ?_
          exact ih v1_6 v2_6 v3_6 v4_6 v5_6 (v6_6 + 1) _ _ _ _ hH (lv_sub hl [1, 2, 3, 4, 5, 0, 6] rfl) hf
set_option maxHeartbeats 4000000 in
set_option maxRecDepth 100000 in
theorem k_X13_officerFor (l : Launch) (E : Ev) (K : Kd) (z : Nat) (o : Nat) (a_1 : Int32) (a_2 : Int32) (a_3 : Int32) (a_4 : Int32) (w : Wd) (ho : K o = some (11, 0)) {r : Int32} {w' : Wd} (hf : f_X13_officerFor K o a_1 a_2 a_3 a_4 w = some (r, w')) : Met l yX13_officerFor (Cond.code yX13_officerFor cX13_officerFor 7 (Option.some Jvm.ClassFile.FieldType.int) :: bt) ({ frames := 6, cells := 0, slots := 0, locals := 140 } : Room) (va_Pc [rv E (some o), .int a_1, .int a_2, .int a_3, .int a_4] (HB E K w z)) (QI E K z w' r) 0 0 (hA E) := by
  refine Met.ofW (cc := cX13_officerFor) (maxL := 7) (ret := (Option.some Jvm.ClassFile.FieldType.int)) (by decide) rfl ?_
  intro p e s m args below meth c s₁ B hml hv
  obtain ⟨rfl, hz, hP, hKs, hT, hb0⟩ := hv
  have C : CX p l e s m _ meth c cX13_officerFor 7 RX13 (Option.some Jvm.ClassFile.FieldType.int) E := ⟨B.exec, B.bytes, hml, findClass_of_methodNamed B.named, fun w h => atoms_spec (ws := Cond.code yX13_officerFor cX13_officerFor 7 (Option.some Jvm.ClassFile.FieldType.int) :: bt) B.pre w (List.mem_cons_of_mem _ h), hKs, hT, by rw [hz]; exact hb0, B.notSynchronized, B.returns⟩
  have hH : HQ E K z w s s.heap [] := ⟨hP, va_S.rf, hz⟩
  obtain ⟨hx, hb, hml, hown, hts, hKs, hT, hb0, hlocks, hret⟩ := id C
  have hl := lv_entry [rv E (some o), .int a_1, .int a_2, .int a_3, .int a_4] (n := 7) (by simp [lg_len_nil, lg_len_i, lg_len_j, lg_len_q, lg_len_f, lg_len_d, lg_len_r])
  rw [lg_entry_eq]
  generalize (lg_sl [rv E (some o), .int a_1, .int a_2, .int a_3, .int a_4] ++ List.replicate (7 - (lg_sl [rv E (some o), .int a_1, .int a_2, .int a_3, .int a_4]).length) Slot.unset).toArray = ls at hl ⊢
  replace hl : lv_has ls 7 [(0, rv E (some o)), (1, .int a_1), (2, .int a_2), (3, .int a_3), (4, .int a_4)] := by simpa only [lv_args, cat_q, cat_i, cat_j, reduceIte, Nat.reduceEqDiff, Nat.reduceAdd, Nat.zero_add] using hl
  generalize s.heap = H at hH ⊢
  unfold f_X13_officerFor at hf
  refine lv_iconst (v := (-1)) hx hb dX13_officerFor_0 (by decide) ?_
  refine lv_istore (i := 5) (lv' := [(5, .int ((-1))), (0, rv E (some o)), (1, .int a_1), (2, .int a_2), (3, .int a_3), (4, .int a_4)]) hx hb dX13_officerFor_1 hl (by decide) rfl (fun ls hl => ?_)
  refine lv_iconst (v := 0) hx hb dX13_officerFor_3 (by decide) ?_
  refine lv_istore (i := 6) (lv' := [(6, .int 0), (5, .int ((-1))), (0, rv E (some o)), (1, .int a_1), (2, .int a_2), (3, .int a_3), (4, .int a_4)]) hx hb dX13_officerFor_4 hl (by decide) rfl (fun ls hl => ?_)
  refine l_X13_officerFor_L6  C ho _ (fun v1_6 v2_6 v3_6 v4_6 v5_6 v6_6 w1 H locs ls hH hl hf => ?_) fu a_1 a_2 a_3 a_4 (-1) 0 w _ _ _ hH (lv_sub hl [3, 4, 5, 6, 1, 0, 2] rfl) hf
  refine lv_iload hx hb dX13_officerFor_65 (lv_at hl 4 rfl) ?_
  exact hw_iret hx hb hret hf hH hlocks dX13_officerFor_67
end
