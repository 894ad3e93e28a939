section
variable {p : Program} {l : Launch} {e : Env} {s : State} {m : MethodId} {args : Array Value} {below : List Frame} {meth : Method} {c : Code} {E : Ev} {K : Kd} {z : Nat}

theorem dX10_init_0 : decode cX10_init 0 = .ok (.aload_n 0, 1) := by decide +kernel
theorem dX10_init_1 : decode cX10_init 1 = .ok (.invokespecial 3, 3) := by decide +kernel
theorem dX10_init_4 : decode cX10_init 4 = .ok (.aload_n 0, 1) := by decide +kernel
theorem dX10_init_5 : decode cX10_init 5 = .ok (.new 9, 3) := by decide +kernel
theorem dX10_init_8 : decode cX10_init 8 = .ok (.dup, 1) := by decide +kernel
theorem dX10_init_9 : decode cX10_init 9 = .ok (.invokespecial 11, 3) := by decide +kernel
theorem dX10_init_12 : decode cX10_init 12 = .ok (.putfield 12, 3) := by decide +kernel
theorem dX10_init_15 : decode cX10_init 15 = .ok (.aload_n 0, 1) := by decide +kernel
theorem dX10_init_16 : decode cX10_init 16 = .ok (.bipush 12, 2) := by decide +kernel
theorem dX10_init_18 : decode cX10_init 18 = .ok (.newarray .int, 2) := by decide +kernel
theorem dX10_init_20 : decode cX10_init 20 = .ok (.putfield 18, 3) := by decide +kernel
theorem dX10_init_23 : decode cX10_init 23 = .ok (.aload_n 0, 1) := by decide +kernel
theorem dX10_init_24 : decode cX10_init 24 = .ok (.bipush 12, 2) := by decide +kernel
theorem dX10_init_26 : decode cX10_init 26 = .ok (.newarray .int, 2) := by decide +kernel
theorem dX10_init_28 : decode cX10_init 28 = .ok (.putfield 22, 3) := by decide +kernel
theorem dX10_init_31 : decode cX10_init 31 = .ok (.aload_n 0, 1) := by decide +kernel
theorem dX10_init_32 : decode cX10_init 32 = .ok (.bipush 12, 2) := by decide +kernel
theorem dX10_init_34 : decode cX10_init 34 = .ok (.anewarray 25, 3) := by decide +kernel
theorem dX10_init_37 : decode cX10_init 37 = .ok (.putfield 27, 3) := by decide +kernel
theorem dX10_init_40 : decode cX10_init 40 = .ok (.aload_n 0, 1) := by decide +kernel
theorem dX10_init_41 : decode cX10_init 41 = .ok (.aload_n 1, 1) := by decide +kernel
theorem dX10_init_42 : decode cX10_init 42 = .ok (.putfield 31, 3) := by decide +kernel
theorem dX10_init_45 : decode cX10_init 45 = .ok (.iconst 0, 1) := by decide +kernel
theorem dX10_init_46 : decode cX10_init 46 = .ok (.istore_n 2, 1) := by decide +kernel
theorem dX10_init_47 : decode cX10_init 47 = .ok (.iload_n 2, 1) := by decide +kernel
theorem dX10_init_48 : decode cX10_init 48 = .ok (.bipush 12, 2) := by decide +kernel
theorem dX10_init_50 : decode cX10_init 50 = .ok (.if_icmp .ge 31, 3) := by decide +kernel
theorem dX10_init_53 : decode cX10_init 53 = .ok (.aload_n 0, 1) := by decide +kernel
theorem dX10_init_54 : decode cX10_init 54 = .ok (.getfield 27, 3) := by decide +kernel
theorem dX10_init_57 : decode cX10_init 57 = .ok (.iload_n 2, 1) := by decide +kernel
theorem dX10_init_58 : decode cX10_init 58 = .ok (.new 25, 3) := by decide +kernel
theorem dX10_init_61 : decode cX10_init 61 = .ok (.dup, 1) := by decide +kernel
theorem dX10_init_62 : decode cX10_init 62 = .ok (.invokespecial 35, 3) := by decide +kernel
theorem dX10_init_65 : decode cX10_init 65 = .ok (.aastore, 1) := by decide +kernel
theorem dX10_init_66 : decode cX10_init 66 = .ok (.aload_n 0, 1) := by decide +kernel
theorem dX10_init_67 : decode cX10_init 67 = .ok (.getfield 27, 3) := by decide +kernel
theorem dX10_init_70 : decode cX10_init 70 = .ok (.iload_n 2, 1) := by decide +kernel
theorem dX10_init_71 : decode cX10_init 71 = .ok (.aaload, 1) := by decide +kernel
theorem dX10_init_72 : decode cX10_init 72 = .ok (.invokevirtual 36, 3) := by decide +kernel
theorem dX10_init_75 : decode cX10_init 75 = .ok (.iinc 2 1, 3) := by decide +kernel
theorem dX10_init_78 : decode cX10_init 78 = .ok (.goto (-31), 3) := by decide +kernel
theorem dX10_init_81 : decode cX10_init 81 = .ok (.return_, 1) := by decide +kernel
theorem hd_X10_init : yX10_init.cls = RX10 ∧ yX10_init.cls ≠ "java/lang/invoke/MethodHandle" ∧ yX10_init.cls ≠ "java/lang/invoke/VarHandle" ∧ (parseMethodDescriptor yX10_init.desc).map (fun d => d.parameters.length) = some 1 := by decide +kernel
theorem hs_X10_init : yX10_init.cls ≠ "java/lang/invoke/MethodHandle" ∧ yX10_init.cls ≠ "java/lang/invoke/VarHandle" ∧ (parseMethodDescriptor yX10_init.desc).map (fun d => d.parameters.length) = some 1 := by decide +kernel
set_option maxHeartbeats 4000000 in
set_option maxRecDepth 100000 in
theorem k_X10_init (l : Launch) (E : Ev) (K : Kd) (n : Nat) (o : Nat) (a_1 : Option Nat) (w : Wd) {K' : Kd} {n' : Nat} {w' : Wd} (hf : f_X10_init K n o a_1 w = some (K', n', w')) : Met l yX10_init (Cond.code yX10_init cX10_init 3 (Option.none : Option Jvm.ClassFile.FieldType) :: bt) ({ frames := 2, cells := 29, slots := 393, locals := 40 } : Room) (va_Pc [rv E (some o), rv E a_1] (HB E K w (E.2.1 + n))) (QV E K' (E.2.1 + n') w') 29 393 (hA E) := by
  refine Met.ofW (cc := cX10_init) (maxL := 3) (ret := (Option.none : Option Jvm.ClassFile.FieldType)) (by decide) rfl ?_
  intro p e s m args below meth c s₁ B hml hv
  have hn2 : meth.name = "<init>" := (name_of_methodNamed B.named B.method).1
  obtain ⟨rfl, hz, hP, hKs, hT, hb0⟩ := hv
  have C : CX p l e s m _ meth c cX10_init 3 RX10 (Option.none : Option Jvm.ClassFile.FieldType) E := ⟨B.exec, B.bytes, hml, findClass_of_methodNamed B.named, fun w h => atoms_spec (ws := Cond.code yX10_init cX10_init 3 (Option.none : Option Jvm.ClassFile.FieldType) :: bt) B.pre w (List.mem_cons_of_mem _ h), hKs, hT, by rw [hz]; exact hb0, B.notSynchronized, B.returns⟩
  have hH : HQ E K (E.2.1 + n) w s s.heap [] := ⟨hP, va_S.rf, hz⟩
  obtain ⟨hx, hb, hml, hown, hts, hKs, hT, hb0, hlocks, hret⟩ := id C
  have hl := lv_entry [rv E (some o), rv E a_1] (n := 3) (by simp [lg_len_nil, lg_len_i, lg_len_j, lg_len_q, lg_len_f, lg_len_d, lg_len_r])
  rw [lg_entry_eq]
  generalize (lg_sl [rv E (some o), rv E a_1] ++ List.replicate (3 - (lg_sl [rv E (some o), rv E a_1]).length) Slot.unset).toArray = ls at hl ⊢
  replace hl : lv_has ls 3 [(0, rv E (some o)), (1, rv E a_1)] := by simpa only [lv_args, cat_q, cat_i, cat_j, reduceIte, Nat.reduceEqDiff, Nat.reduceAdd, Nat.zero_add] using hl
  generalize s.heap = H at hH ⊢
  unfold f_X10_init at hf
  refine hl_aload_n hx hb dX10_init_0 rfl (lv_at hl 0 rfl) ?_
  refine hw_obj hx hb hml hl.1 hown hts m2_59 m1_37 m1_38 dX10_init_1 (Nat.le_of_ble_eq_true rfl) (Nat.le_of_ble_eq_true rfl) ?_
  refine hl_aload_n hx hb dX10_init_4 rfl (lv_at hl 0 rfl) ?_
  refine hw_new (ci := 1) (C := RX2) (T := TX2) (N := 2) hx hb hts iX2 tyX2 tyX2_ok hown m2_60 (hts _ m1_50) m1_3 hKs hb0 hH rfl rfl (fun j hj => dfX2 j hj) (Nat.le_of_ble_eq_true rfl) (Nat.le_of_ble_eq_true rfl) dX10_init_5 (fun H hH => ?_)
  obtain ⟨K1, hK1, hf⟩ := bnd hf
  replace hK1 := Option.some.inj hK1
  obtain ⟨w2, hw2, hf⟩ := bnd hf
  replace hw2 := Option.some.inj hw2
  rw [hK1, hw2] at hH
  refine lv_dup hx hb dX10_init_8 rv_cat ?_
  obtain ⟨q3, hq3, hf⟩ := bnd hf
  refine hcA hH (va_runIN (As := []) (rest := [rv E (some n), rv E (some o)]) ⟨hx, hb, hml, hown, hts⟩ (k_X2_init l E K1 (n + 1) n w2 hq3) ⟨va_cnB _ hts (gC m1_53) rfl rfl rfl (hKs.2.1 _ m2_61) (hts _ m1_3) hs_X2_init ⟨Nat.le_of_ble_eq_true rfl, Nat.le_of_ble_eq_true rfl⟩, rfl, hts _ m1_52⟩ ⟨HB.blind, HB.preN hKs hT hb0 hH⟩ rfl rfl hl.1 rfl (lv_room (rcV (rcV rc0))) dX10_init_9 ⟨Nat.le_of_ble_eq_true rfl, Nat.le_of_ble_eq_true rfl⟩) (fun H locs hH => ?_)
  obtain ⟨a4, ha4, hf⟩ := bnd hf
  replace ha4 := chk_some ha4
  obtain ⟨w5, hw5, hf⟩ := bnd hf
  replace hw5 := Option.some.inj hw5
  refine pf10_2 (v := (some n)) hx hb hts hown hKs hH ha4.1 ha4.2 hn2 m2_126 dX10_init_12 (fun H locs hH => ?_)
  rw [hw5] at hH
  refine hl_aload_n hx hb dX10_init_15 rfl (lv_at hl 0 rfl) ?_
  refine lv_bipush (v := 12) hx hb dX10_init_16 (by decide) ?_
  refine hw_newa20 (N := 12) hx hb hts m1_64 hKs hH (by decide) (by decide) (Nat.le_of_ble_eq_true rfl) (Nat.le_of_ble_eq_true rfl) (Nat.le_of_ble_eq_true rfl) dX10_init_18 (fun H hH => ?_)
  obtain ⟨K6, hK6, hf⟩ := bnd hf
  replace hK6 := Option.some.inj hK6
  obtain ⟨w7, hw7, hf⟩ := bnd hf
  replace hw7 := Option.some.inj hw7
  rw [hK6, hw7] at hH
  obtain ⟨a8, ha8, hf⟩ := bnd hf
  replace ha8 := chk_some ha8
  obtain ⟨w9, hw9, hf⟩ := bnd hf
  replace hw9 := Option.some.inj hw9
  refine pf10_3 (v := (some q3.2.1)) hx hb hts hown hKs hH ha8.1 ha8.2 hn2 m2_128 dX10_init_20 (fun H locs hH => ?_)
  rw [hw9] at hH
  refine hl_aload_n hx hb dX10_init_23 rfl (lv_at hl 0 rfl) ?_
  refine lv_bipush (v := 12) hx hb dX10_init_24 (by decide) ?_
  refine hw_newa20 (N := 12) hx hb hts m1_64 hKs hH (by decide) (by decide) (Nat.le_of_ble_eq_true rfl) (Nat.le_of_ble_eq_true rfl) (Nat.le_of_ble_eq_true rfl) dX10_init_26 (fun H hH => ?_)
  obtain ⟨K10, hK10, hf⟩ := bnd hf
  replace hK10 := Option.some.inj hK10
  obtain ⟨w11, hw11, hf⟩ := bnd hf
  replace hw11 := Option.some.inj hw11
  rw [hK10, hw11] at hH
  obtain ⟨a12, ha12, hf⟩ := bnd hf
  replace ha12 := chk_some ha12
  obtain ⟨w13, hw13, hf⟩ := bnd hf
  replace hw13 := Option.some.inj hw13
  refine pf10_4 (v := (some (q3.2.1 + 1))) hx hb hts hown hKs hH ha12.1 ha12.2 hn2 m2_130 dX10_init_28 (fun H locs hH => ?_)
  rw [hw13] at hH
  refine hl_aload_n hx hb dX10_init_31 rfl (lv_at hl 0 rfl) ?_
  refine lv_bipush (v := 12) hx hb dX10_init_32 (by decide) ?_
  refine hw_newq27 (N := 12) hx hb hts hown m2_62 (va_AO.use (hKs.2.2.2.2.2 _ (by decide))) hKs hH (by decide) (by decide) (Nat.le_of_ble_eq_true rfl) (Nat.le_of_ble_eq_true rfl) (Nat.le_of_ble_eq_true rfl) dX10_init_34 (fun H hH => ?_)
  obtain ⟨K14, hK14, hf⟩ := bnd hf
  replace hK14 := Option.some.inj hK14
  obtain ⟨w15, hw15, hf⟩ := bnd hf
  replace hw15 := Option.some.inj hw15
  rw [hK14, hw15] at hH
  obtain ⟨a16, ha16, hf⟩ := bnd hf
  replace ha16 := chk_some ha16
  obtain ⟨w17, hw17, hf⟩ := bnd hf
  replace hw17 := Option.some.inj hw17
  refine pf10_5 (v := (some ((q3.2.1 + 1) + 1))) hx hb hts hown hKs hH ha16.1 ha16.2 hn2 m2_133 dX10_init_37 (fun H locs hH => ?_)
  rw [hw17] at hH
  refine hl_aload_n hx hb dX10_init_40 rfl (lv_at hl 0 rfl) ?_
  refine hl_aload_n hx hb dX10_init_41 rfl (lv_at hl 1 rfl) ?_
  obtain ⟨w18, hw18, hf⟩ := bnd hf
  replace hw18 := Option.some.inj hw18
  refine p10_0 (v := a_1) hx hb hts hown hKs hH ha16.1 ha16.2 m2_119 dX10_init_42 (fun H locs hH => ?_)
  rw [hw18] at hH
  refine lv_iconst (v := 0) hx hb dX10_init_45 (by decide) ?_
  refine lv_istore_n (i := 2) (lv' := [(2, .int 0), (0, rv E (some o)), (1, rv E a_1)]) hx hb dX10_init_46 rfl hl (by decide) (by simp [List.filter_cons, cat_q, cat_i, cat_j, imax, imin]) (fun ls hl => ?_)
  refine lv_iload_n hx hb dX10_init_47 rfl (lv_at hl 0 rfl) ?_
  refine lv_bipush (v := 12) hx hb dX10_init_48 (by decide) ?_
  refine lv_icmp_ge (tgt := 81) hx hb dX10_init_50 (by decide) (fun c19 => ?_) (fun c19 => ?_)
  · exact (by revert c19; decide : False).elim
  · skip
    refine hl_aload_n hx hb dX10_init_53 rfl (lv_at hl 1 rfl) ?_
    refine g10_5 hx hb hts hown hKs hH ha16.1 ha16.2 m2_133 dX10_init_54 ?_
    refine lv_iload_n hx hb dX10_init_57 rfl (lv_at hl 0 rfl) ?_
    refine hw_new (ci := 6) (C := RX7) (T := TX7) (N := 8) hx hb hts iX7 tyX7 tyX7_ok hown m2_62 (hts _ m2_64) m1_13 hKs hb0 hH rfl rfl (fun j hj => dfX7 j hj) (Nat.le_of_ble_eq_true rfl) (Nat.le_of_ble_eq_true rfl) dX10_init_58 (fun H hH => ?_)
    obtain ⟨K20, hK20, hf⟩ := bnd hf
    replace hK20 := Option.some.inj hK20
    obtain ⟨w21, hw21, hf⟩ := bnd hf
    replace hw21 := Option.some.inj hw21
    rw [hK20, hw21] at hH
    refine lv_dup hx hb dX10_init_61 rv_cat ?_
    obtain ⟨q22, hq22, hf⟩ := bnd hf
    refine hcA hH (va_runIN (As := []) (rest := [rv E (some (((q3.2.1 + 1) + 1) + 1)), .int 0, rv E (wR w18 1005 a16)]) ⟨hx, hb, hml, hown, hts⟩ (k_X7_init l E K20 ((((q3.2.1 + 1) + 1) + 1) + 1) (((q3.2.1 + 1) + 1) + 1) w21 hq22) ⟨va_cnB _ hts (gC m2_67) rfl rfl rfl (hKs.2.1 _ m2_65) (hts _ m1_13) hs_X7_init ⟨Nat.le_of_ble_eq_true rfl, Nat.le_of_ble_eq_true rfl⟩, rfl, hts _ m2_66⟩ ⟨HB.blind, HB.preN hKs hT hb0 hH⟩ rfl rfl hl.1 rfl (lv_room (rcV (rcI (rcV rc0)))) dX10_init_62 ⟨Nat.le_of_ble_eq_true rfl, Nat.le_of_ble_eq_true rfl⟩) (fun H locs hH => ?_)
    obtain ⟨a23, ha23, hf⟩ := bnd hf
    replace ha23 := cha_some ha23
    obtain ⟨j24, hj24, hf⟩ := bnd hf
    obtain ⟨a25, ha25, hf⟩ := bnd hf
    replace ha25 := chk_some ha25
    obtain ⟨w26, hw26, hf⟩ := bnd hf
    replace hw26 := Option.some.inj hw26
    refine hw_aast27 hx hb hKs hH ha23.1 ha23.2 ha25.1 ha25.2 hj24 dX10_init_65 (fun H locs hH => ?_)
    rw [hw26] at hH
    refine hl_aload_n hx hb dX10_init_66 rfl (lv_at hl 1 rfl) ?_
    obtain ⟨a27, ha27, hf⟩ := bnd hf
    replace ha27 := chk_some ha27
    refine g10_5 hx hb hts hown hKs hH ha27.1 ha27.2 m2_133 dX10_init_67 ?_
    refine lv_iload_n hx hb dX10_init_70 rfl (lv_at hl 0 rfl) ?_
    obtain ⟨a28, ha28, hf⟩ := bnd hf
    replace ha28 := cha_some ha28
    obtain ⟨j29, hj29, hf⟩ := bnd hf
    refine hw_aald27 hx hb hKs hH ha28.1 ha28.2 hj29 dX10_init_71 ?_
    obtain ⟨a30, ha30, hf⟩ := bnd hf
    replace ha30 := chk_some ha30
    obtain ⟨q31, hq31, hf⟩ := bnd hf
    refine hcV_v hx hb hml hown hts hKs hT hb0 hH (As := []) (rest := []) (k_X7_clear l E q22.1 H.size a30 w26 ha30.2 hq31) (gV m2_111 m2_112 m2_113 m1_13 m2_114) hd_X7_clear ⟨Nat.le_of_ble_eq_true rfl, Nat.le_of_ble_eq_true rfl, rfl, rfl⟩ ha30.1 ha30.2 rfl rfl rfl hl.1 rfl rc0 rfl dX10_init_72 ⟨Nat.le_of_ble_eq_true rfl, Nat.le_of_ble_eq_true rfl⟩ (fun H locs hH => ?_)
    refine lv_iinc (v := 1) (lv' := [(2, .int 1), (0, rv E (some o)), (1, rv E a_1)]) hx hb dX10_init_75 hl (k := 0) rfl rfl (by decide) (by simp [List.filter_cons, cat_q, cat_i, cat_j, imax, imin]) (fun ls hl => ?_)
    refine lv_goto (tgt := 47) hx hb dX10_init_78 (by decide) ?_
    refine lv_iload_n hx hb dX10_init_47 rfl (lv_at hl 0 rfl) ?_
    refine lv_bipush (v := 12) hx hb dX10_init_48 (by decide) ?_
    refine lv_icmp_ge (tgt := 81) hx hb dX10_init_50 (by decide) (fun c32 => ?_) (fun c32 => ?_)
    · exact (by revert c32; decide : False).elim
    · skip
      refine hl_aload_n hx hb dX10_init_53 rfl (lv_at hl 1 rfl) ?_
      refine g10_5 hx hb hts hown hKs hH ha27.1 ha27.2 m2_133 dX10_init_54 ?_
      refine lv_iload_n hx hb dX10_init_57 rfl (lv_at hl 0 rfl) ?_
      refine hw_new (ci := 6) (C := RX7) (T := TX7) (N := 8) hx hb hts iX7 tyX7 tyX7_ok hown m2_62 (hts _ m2_64) m1_13 hKs hb0 hH rfl rfl (fun j hj => dfX7 j hj) (Nat.le_of_ble_eq_true rfl) (Nat.le_of_ble_eq_true rfl) dX10_init_58 (fun H hH => ?_)
      obtain ⟨K33, hK33, hf⟩ := bnd hf
      replace hK33 := Option.some.inj hK33
      obtain ⟨w34, hw34, hf⟩ := bnd hf
      replace hw34 := Option.some.inj hw34
      rw [hK33, hw34] at hH
      refine lv_dup hx hb dX10_init_61 rv_cat ?_
      obtain ⟨q35, hq35, hf⟩ := bnd hf
      refine hcA hH (va_runIN (As := []) (rest := [rv E (some q22.2.1), .int 1, rv E (wR q31 1005 a27)]) ⟨hx, hb, hml, hown, hts⟩ (k_X7_init l E K33 (q22.2.1 + 1) q22.2.1 w34 hq35) ⟨va_cnB _ hts (gC m2_67) rfl rfl rfl (hKs.2.1 _ m2_65) (hts _ m1_13) hs_X7_init ⟨Nat.le_of_ble_eq_true rfl, Nat.le_of_ble_eq_true rfl⟩, rfl, hts _ m2_66⟩ ⟨HB.blind, HB.preN hKs hT hb0 hH⟩ rfl rfl hl.1 rfl (lv_room (rcV (rcI (rcV rc0)))) dX10_init_62 ⟨Nat.le_of_ble_eq_true rfl, Nat.le_of_ble_eq_true rfl⟩) (fun H locs hH => ?_)
      obtain ⟨a36, ha36, hf⟩ := bnd hf
      replace ha36 := cha_some ha36
      obtain ⟨j37, hj37, hf⟩ := bnd hf
      obtain ⟨a38, ha38, hf⟩ := bnd hf
      replace ha38 := chk_some ha38
      obtain ⟨w39, hw39, hf⟩ := bnd hf
      replace hw39 := Option.some.inj hw39
      refine hw_aast27 hx hb hKs hH ha36.1 ha36.2 ha38.1 ha38.2 hj37 dX10_init_65 (fun H locs hH => ?_)
      rw [hw39] at hH
      refine hl_aload_n hx hb dX10_init_66 rfl (lv_at hl 1 rfl) ?_
      obtain ⟨a40, ha40, hf⟩ := bnd hf
      replace ha40 := chk_some ha40
      refine g10_5 hx hb hts hown hKs hH ha40.1 ha40.2 m2_133 dX10_init_67 ?_
      refine lv_iload_n hx hb dX10_init_70 rfl (lv_at hl 0 rfl) ?_
      obtain ⟨a41, ha41, hf⟩ := bnd hf
      replace ha41 := cha_some ha41
      obtain ⟨j42, hj42, hf⟩ := bnd hf
      refine hw_aald27 hx hb hKs hH ha41.1 ha41.2 hj42 dX10_init_71 ?_
      obtain ⟨a43, ha43, hf⟩ := bnd hf
      replace ha43 := chk_some ha43
      obtain ⟨q44, hq44, hf⟩ := bnd hf
      refine hcV_v hx hb hml hown hts hKs hT hb0 hH (As := []) (rest := []) (k_X7_clear l E q35.1 H.size a43 w39 ha43.2 hq44) (gV m2_111 m2_112 m2_113 m1_13 m2_114) hd_X7_clear ⟨Nat.le_of_ble_eq_true rfl, Nat.le_of_ble_eq_true rfl, rfl, rfl⟩ ha43.1 ha43.2 rfl rfl rfl hl.1 rfl rc0 rfl dX10_init_72 ⟨Nat.le_of_ble_eq_true rfl, Nat.le_of_ble_eq_true rfl⟩ (fun H locs hH => ?_)
      refine lv_iinc (v := 2) (lv' := [(2, .int 2), (0, rv E (some o)), (1, rv E a_1)]) hx hb dX10_init_75 hl (k := 0) rfl rfl (by decide) (by simp [List.filter_cons, cat_q, cat_i, cat_j, imax, imin]) (fun ls hl => ?_)
      refine lv_goto (tgt := 47) hx hb dX10_init_78 (by decide) ?_
      refine lv_iload_n hx hb dX10_init_47 rfl (lv_at hl 0 rfl) ?_
      refine lv_bipush (v := 12) hx hb dX10_init_48 (by decide) ?_
      refine lv_icmp_ge (tgt := 81) hx hb dX10_init_50 (by decide) (fun c45 => ?_) (fun c45 => ?_)
      · exact (by revert c45; decide : False).elim
      · skip
        refine hl_aload_n hx hb dX10_init_53 rfl (lv_at hl 1 rfl) ?_
        refine g10_5 hx hb hts hown hKs hH ha40.1 ha40.2 m2_133 dX10_init_54 ?_
        refine lv_iload_n hx hb dX10_init_57 rfl (lv_at hl 0 rfl) ?_
        refine hw_new (ci := 6) (C := RX7) (T := TX7) (N := 8) hx hb hts iX7 tyX7 tyX7_ok hown m2_62 (hts _ m2_64) m1_13 hKs hb0 hH rfl rfl (fun j hj => dfX7 j hj) (Nat.le_of_ble_eq_true rfl) (Nat.le_of_ble_eq_true rfl) dX10_init_58 (fun H hH => ?_)
        obtain ⟨K46, hK46, hf⟩ := bnd hf
        replace hK46 := Option.some.inj hK46
        obtain ⟨w47, hw47, hf⟩ := bnd hf
        replace hw47 := Option.some.inj hw47
        rw [hK46, hw47] at hH
        refine lv_dup hx hb dX10_init_61 rv_cat ?_
        obtain ⟨q48, hq48, hf⟩ := bnd hf
        refine hcA hH (va_runIN (As := []) (rest := [rv E (some q35.2.1), .int 2, rv E (wR q44 1005 a40)]) ⟨hx, hb, hml, hown, hts⟩ (k_X7_init l E K46 (q35.2.1 + 1) q35.2.1 w47 hq48) ⟨va_cnB _ hts (gC m2_67) rfl rfl rfl (hKs.2.1 _ m2_65) (hts _ m1_13) hs_X7_init ⟨Nat.le_of_ble_eq_true rfl, Nat.le_of_ble_eq_true rfl⟩, rfl, hts _ m2_66⟩ ⟨HB.blind, HB.preN hKs hT hb0 hH⟩ rfl rfl hl.1 rfl (lv_room (rcV (rcI (rcV rc0)))) dX10_init_62 ⟨Nat.le_of_ble_eq_true rfl, Nat.le_of_ble_eq_true rfl⟩) (fun H locs hH => ?_)
        obtain ⟨a49, ha49, hf⟩ := bnd hf
        replace ha49 := cha_some ha49
        obtain ⟨j50, hj50, hf⟩ := bnd hf
        obtain ⟨a51, ha51, hf⟩ := bnd hf
        replace ha51 := chk_some ha51
        obtain ⟨w52, hw52, hf⟩ := bnd hf
        replace hw52 := Option.some.inj hw52
        refine hw_aast27 hx hb hKs hH ha49.1 ha49.2 ha51.1 ha51.2 hj50 dX10_init_65 (fun H locs hH => ?_)
        rw [hw52] at hH
        refine hl_aload_n hx hb dX10_init_66 rfl (lv_at hl 1 rfl) ?_
        obtain ⟨a53, ha53, hf⟩ := bnd hf
        replace ha53 := chk_some ha53
        refine g10_5 hx hb hts hown hKs hH ha53.1 ha53.2 m2_133 dX10_init_67 ?_
        refine lv_iload_n hx hb dX10_init_70 rfl (lv_at hl 0 rfl) ?_
        obtain ⟨a54, ha54, hf⟩ := bnd hf
        replace ha54 := cha_some ha54
        obtain ⟨j55, hj55, hf⟩ := bnd hf
        refine hw_aald27 hx hb hKs hH ha54.1 ha54.2 hj55 dX10_init_71 ?_
        obtain ⟨a56, ha56, hf⟩ := bnd hf
        replace ha56 := chk_some ha56
        obtain ⟨q57, hq57, hf⟩ := bnd hf
        refine hcV_v hx hb hml hown hts hKs hT hb0 hH (As := []) (rest := []) (k_X7_clear l E q48.1 H.size a56 w52 ha56.2 hq57) (gV m2_111 m2_112 m2_113 m1_13 m2_114) hd_X7_clear ⟨Nat.le_of_ble_eq_true rfl, Nat.le_of_ble_eq_true rfl, rfl, rfl⟩ ha56.1 ha56.2 rfl rfl rfl hl.1 rfl rc0 rfl dX10_init_72 ⟨Nat.le_of_ble_eq_true rfl, Nat.le_of_ble_eq_true rfl⟩ (fun H locs hH => ?_)
        refine lv_iinc (v := 3) (lv' := [(2, .int 3), (0, rv E (some o)), (1, rv E a_1)]) hx hb dX10_init_75 hl (k := 0) rfl rfl (by decide) (by simp [List.filter_cons, cat_q, cat_i, cat_j, imax, imin]) (fun ls hl => ?_)
        refine lv_goto (tgt := 47) hx hb dX10_init_78 (by decide) ?_
        refine lv_iload_n hx hb dX10_init_47 rfl (lv_at hl 0 rfl) ?_
        refine lv_bipush (v := 12) hx hb dX10_init_48 (by decide) ?_
        refine lv_icmp_ge (tgt := 81) hx hb dX10_init_50 (by decide) (fun c58 => ?_) (fun c58 => ?_)
        · exact (by revert c58; decide : False).elim
        · skip
          refine hl_aload_n hx hb dX10_init_53 rfl (lv_at hl 1 rfl) ?_
          refine g10_5 hx hb hts hown hKs hH ha53.1 ha53.2 m2_133 dX10_init_54 ?_
          refine lv_iload_n hx hb dX10_init_57 rfl (lv_at hl 0 rfl) ?_
          refine hw_new (ci := 6) (C := RX7) (T := TX7) (N := 8) hx hb hts iX7 tyX7 tyX7_ok hown m2_62 (hts _ m2_64) m1_13 hKs hb0 hH rfl rfl (fun j hj => dfX7 j hj) (Nat.le_of_ble_eq_true rfl) (Nat.le_of_ble_eq_true rfl) dX10_init_58 (fun H hH => ?_)
          obtain ⟨K59, hK59, hf⟩ := bnd hf
          replace hK59 := Option.some.inj hK59
          obtain ⟨w60, hw60, hf⟩ := bnd hf
          replace hw60 := Option.some.inj hw60
          rw [hK59, hw60] at hH
          refine lv_dup hx hb dX10_init_61 rv_cat ?_
          obtain ⟨q61, hq61, hf⟩ := bnd hf
          refine hcA hH (va_runIN (As := []) (rest := [rv E (some q48.2.1), .int 3, rv E (wR q57 1005 a53)]) ⟨hx, hb, hml, hown, hts⟩ (k_X7_init l E K59 (q48.2.1 + 1) q48.2.1 w60 hq61) ⟨va_cnB _ hts (gC m2_67) rfl rfl rfl (hKs.2.1 _ m2_65) (hts _ m1_13) hs_X7_init ⟨Nat.le_of_ble_eq_true rfl, Nat.le_of_ble_eq_true rfl⟩, rfl, hts _ m2_66⟩ ⟨HB.blind, HB.preN hKs hT hb0 hH⟩ rfl rfl hl.1 rfl (lv_room (rcV (rcI (rcV rc0)))) dX10_init_62 ⟨Nat.le_of_ble_eq_true rfl, Nat.le_of_ble_eq_true rfl⟩) (fun H locs hH => ?_)
          obtain ⟨a62, ha62, hf⟩ := bnd hf
          replace ha62 := cha_some ha62
          obtain ⟨j63, hj63, hf⟩ := bnd hf
          obtain ⟨a64, ha64, hf⟩ := bnd hf
          replace ha64 := chk_some ha64
          obtain ⟨w65, hw65, hf⟩ := bnd hf
          replace hw65 := Option.some.inj hw65
          refine hw_aast27 hx hb hKs hH ha62.1 ha62.2 ha64.1 ha64.2 hj63 dX10_init_65 (fun H locs hH => ?_)
          rw [hw65] at hH
          refine hl_aload_n hx hb dX10_init_66 rfl (lv_at hl 1 rfl) ?_
          obtain ⟨a66, ha66, hf⟩ := bnd hf
          replace ha66 := chk_some ha66
          refine g10_5 hx hb hts hown hKs hH ha66.1 ha66.2 m2_133 dX10_init_67 ?_
          refine lv_iload_n hx hb dX10_init_70 rfl (lv_at hl 0 rfl) ?_
          obtain ⟨a67, ha67, hf⟩ := bnd hf
          replace ha67 := cha_some ha67
          obtain ⟨j68, hj68, hf⟩ := bnd hf
          refine hw_aald27 hx hb hKs hH ha67.1 ha67.2 hj68 dX10_init_71 ?_
          obtain ⟨a69, ha69, hf⟩ := bnd hf
          replace ha69 := chk_some ha69
          obtain ⟨q70, hq70, hf⟩ := bnd hf
          refine hcV_v hx hb hml hown hts hKs hT hb0 hH (As := []) (rest := []) (k_X7_clear l E q61.1 H.size a69 w65 ha69.2 hq70) (gV m2_111 m2_112 m2_113 m1_13 m2_114) hd_X7_clear ⟨Nat.le_of_ble_eq_true rfl, Nat.le_of_ble_eq_true rfl, rfl, rfl⟩ ha69.1 ha69.2 rfl rfl rfl hl.1 rfl rc0 rfl dX10_init_72 ⟨Nat.le_of_ble_eq_true rfl, Nat.le_of_ble_eq_true rfl⟩ (fun H locs hH => ?_)
          refine lv_iinc (v := 4) (lv' := [(2, .int 4), (0, rv E (some o)), (1, rv E a_1)]) hx hb dX10_init_75 hl (k := 0) rfl rfl (by decide) (by simp [List.filter_cons, cat_q, cat_i, cat_j, imax, imin]) (fun ls hl => ?_)
          refine lv_goto (tgt := 47) hx hb dX10_init_78 (by decide) ?_
          refine lv_iload_n hx hb dX10_init_47 rfl (lv_at hl 0 rfl) ?_
          refine lv_bipush (v := 12) hx hb dX10_init_48 (by decide) ?_
          refine lv_icmp_ge (tgt := 81) hx hb dX10_init_50 (by decide) (fun c71 => ?_) (fun c71 => ?_)
          · exact (by revert c71; decide : False).elim
          · skip
            refine hl_aload_n hx hb dX10_init_53 rfl (lv_at hl 1 rfl) ?_
            refine g10_5 hx hb hts hown hKs hH ha66.1 ha66.2 m2_133 dX10_init_54 ?_
            refine lv_iload_n hx hb dX10_init_57 rfl (lv_at hl 0 rfl) ?_
            refine hw_new (ci := 6) (C := RX7) (T := TX7) (N := 8) hx hb hts iX7 tyX7 tyX7_ok hown m2_62 (hts _ m2_64) m1_13 hKs hb0 hH rfl rfl (fun j hj => dfX7 j hj) (Nat.le_of_ble_eq_true rfl) (Nat.le_of_ble_eq_true rfl) dX10_init_58 (fun H hH => ?_)
            obtain ⟨K72, hK72, hf⟩ := bnd hf
            replace hK72 := Option.some.inj hK72
            obtain ⟨w73, hw73, hf⟩ := bnd hf
            replace hw73 := Option.some.inj hw73
            rw [hK72, hw73] at hH
            refine lv_dup hx hb dX10_init_61 rv_cat ?_
            obtain ⟨q74, hq74, hf⟩ := bnd hf
            refine hcA hH (va_runIN (As := []) (rest := [rv E (some q61.2.1), .int 4, rv E (wR q70 1005 a66)]) ⟨hx, hb, hml, hown, hts⟩ (k_X7_init l E K72 (q61.2.1 + 1) q61.2.1 w73 hq74) ⟨va_cnB _ hts (gC m2_67) rfl rfl rfl (hKs.2.1 _ m2_65) (hts _ m1_13) hs_X7_init ⟨Nat.le_of_ble_eq_true rfl, Nat.le_of_ble_eq_true rfl⟩, rfl, hts _ m2_66⟩ ⟨HB.blind, HB.preN hKs hT hb0 hH⟩ rfl rfl hl.1 rfl (lv_room (rcV (rcI (rcV rc0)))) dX10_init_62 ⟨Nat.le_of_ble_eq_true rfl, Nat.le_of_ble_eq_true rfl⟩) (fun H locs hH => ?_)
            obtain ⟨a75, ha75, hf⟩ := bnd hf
            replace ha75 := cha_some ha75
            obtain ⟨j76, hj76, hf⟩ := bnd hf
            obtain ⟨a77, ha77, hf⟩ := bnd hf
            replace ha77 := chk_some ha77
            obtain ⟨w78, hw78, hf⟩ := bnd hf
            replace hw78 := Option.some.inj hw78
            refine hw_aast27 hx hb hKs hH ha75.1 ha75.2 ha77.1 ha77.2 hj76 dX10_init_65 (fun H locs hH => ?_)
            rw [hw78] at hH
            refine hl_aload_n hx hb dX10_init_66 rfl (lv_at hl 1 rfl) ?_
            obtain ⟨a79, ha79, hf⟩ := bnd hf
            replace ha79 := chk_some ha79
            refine g10_5 hx hb hts hown hKs hH ha79.1 ha79.2 m2_133 dX10_init_67 ?_
            refine lv_iload_n hx hb dX10_init_70 rfl (lv_at hl 0 rfl) ?_
            obtain ⟨a80, ha80, hf⟩ := bnd hf
            replace ha80 := cha_some ha80
            obtain ⟨j81, hj81, hf⟩ := bnd hf
            refine hw_aald27 hx hb hKs hH ha80.1 ha80.2 hj81 dX10_init_71 ?_
            obtain ⟨a82, ha82, hf⟩ := bnd hf
            replace ha82 := chk_some ha82
            obtain ⟨q83, hq83, hf⟩ := bnd hf
            refine hcV_v hx hb hml hown hts hKs hT hb0 hH (As := []) (rest := []) (k_X7_clear l E q74.1 H.size a82 w78 ha82.2 hq83) (gV m2_111 m2_112 m2_113 m1_13 m2_114) hd_X7_clear ⟨Nat.le_of_ble_eq_true rfl, Nat.le_of_ble_eq_true rfl, rfl, rfl⟩ ha82.1 ha82.2 rfl rfl rfl hl.1 rfl rc0 rfl dX10_init_72 ⟨Nat.le_of_ble_eq_true rfl, Nat.le_of_ble_eq_true rfl⟩ (fun H locs hH => ?_)
            refine lv_iinc (v := 5) (lv' := [(2, .int 5), (0, rv E (some o)), (1, rv E a_1)]) hx hb dX10_init_75 hl (k := 0) rfl rfl (by decide) (by simp [List.filter_cons, cat_q, cat_i, cat_j, imax, imin]) (fun ls hl => ?_)
            refine lv_goto (tgt := 47) hx hb dX10_init_78 (by decide) ?_
            refine lv_iload_n hx hb dX10_init_47 rfl (lv_at hl 0 rfl) ?_
            refine lv_bipush (v := 12) hx hb dX10_init_48 (by decide) ?_
            refine lv_icmp_ge (tgt := 81) hx hb dX10_init_50 (by decide) (fun c84 => ?_) (fun c84 => ?_)
            · exact (by revert c84; decide : False).elim
            · skip
              refine hl_aload_n hx hb dX10_init_53 rfl (lv_at hl 1 rfl) ?_
              refine g10_5 hx hb hts hown hKs hH ha79.1 ha79.2 m2_133 dX10_init_54 ?_
              refine lv_iload_n hx hb dX10_init_57 rfl (lv_at hl 0 rfl) ?_
              refine hw_new (ci := 6) (C := RX7) (T := TX7) (N := 8) hx hb hts iX7 tyX7 tyX7_ok hown m2_62 (hts _ m2_64) m1_13 hKs hb0 hH rfl rfl (fun j hj => dfX7 j hj) (Nat.le_of_ble_eq_true rfl) (Nat.le_of_ble_eq_true rfl) dX10_init_58 (fun H hH => ?_)
              obtain ⟨K85, hK85, hf⟩ := bnd hf
              replace hK85 := Option.some.inj hK85
              obtain ⟨w86, hw86, hf⟩ := bnd hf
              replace hw86 := Option.some.inj hw86
              rw [hK85, hw86] at hH
              refine lv_dup hx hb dX10_init_61 rv_cat ?_
              obtain ⟨q87, hq87, hf⟩ := bnd hf
              refine hcA hH (va_runIN (As := []) (rest := [rv E (some q74.2.1), .int 5, rv E (wR q83 1005 a79)]) ⟨hx, hb, hml, hown, hts⟩ (k_X7_init l E K85 (q74.2.1 + 1) q74.2.1 w86 hq87) ⟨va_cnB _ hts (gC m2_67) rfl rfl rfl (hKs.2.1 _ m2_65) (hts _ m1_13) hs_X7_init ⟨Nat.le_of_ble_eq_true rfl, Nat.le_of_ble_eq_true rfl⟩, rfl, hts _ m2_66⟩ ⟨HB.blind, HB.preN hKs hT hb0 hH⟩ rfl rfl hl.1 rfl (lv_room (rcV (rcI (rcV rc0)))) dX10_init_62 ⟨Nat.le_of_ble_eq_true rfl, Nat.le_of_ble_eq_true rfl⟩) (fun H locs hH => ?_)
              obtain ⟨a88, ha88, hf⟩ := bnd hf
              replace ha88 := cha_some ha88
              obtain ⟨j89, hj89, hf⟩ := bnd hf
              obtain ⟨a90, ha90, hf⟩ := bnd hf
              replace ha90 := chk_some ha90
              obtain ⟨w91, hw91, hf⟩ := bnd hf
              replace hw91 := Option.some.inj hw91
              refine hw_aast27 hx hb hKs hH ha88.1 ha88.2 ha90.1 ha90.2 hj89 dX10_init_65 (fun H locs hH => ?_)
              rw [hw91] at hH
              refine hl_aload_n hx hb dX10_init_66 rfl (lv_at hl 1 rfl) ?_
              obtain ⟨a92, ha92, hf⟩ := bnd hf
              replace ha92 := chk_some ha92
              refine g10_5 hx hb hts hown hKs hH ha92.1 ha92.2 m2_133 dX10_init_67 ?_
              refine lv_iload_n hx hb dX10_init_70 rfl (lv_at hl 0 rfl) ?_
              obtain ⟨a93, ha93, hf⟩ := bnd hf
              replace ha93 := cha_some ha93
              obtain ⟨j94, hj94, hf⟩ := bnd hf
              refine hw_aald27 hx hb hKs hH ha93.1 ha93.2 hj94 dX10_init_71 ?_
              obtain ⟨a95, ha95, hf⟩ := bnd hf
              replace ha95 := chk_some ha95
              obtain ⟨q96, hq96, hf⟩ := bnd hf
              refine hcV_v hx hb hml hown hts hKs hT hb0 hH (As := []) (rest := []) (k_X7_clear l E q87.1 H.size a95 w91 ha95.2 hq96) (gV m2_111 m2_112 m2_113 m1_13 m2_114) hd_X7_clear ⟨Nat.le_of_ble_eq_true rfl, Nat.le_of_ble_eq_true rfl, rfl, rfl⟩ ha95.1 ha95.2 rfl rfl rfl hl.1 rfl rc0 rfl dX10_init_72 ⟨Nat.le_of_ble_eq_true rfl, Nat.le_of_ble_eq_true rfl⟩ (fun H locs hH => ?_)
              refine lv_iinc (v := 6) (lv' := [(2, .int 6), (0, rv E (some o)), (1, rv E a_1)]) hx hb dX10_init_75 hl (k := 0) rfl rfl (by decide) (by simp [List.filter_cons, cat_q, cat_i, cat_j, imax, imin]) (fun ls hl => ?_)
              refine lv_goto (tgt := 47) hx hb dX10_init_78 (by decide) ?_
              refine lv_iload_n hx hb dX10_init_47 rfl (lv_at hl 0 rfl) ?_
              refine lv_bipush (v := 12) hx hb dX10_init_48 (by decide) ?_
              refine lv_icmp_ge (tgt := 81) hx hb dX10_init_50 (by decide) (fun c97 => ?_) (fun c97 => ?_)
              · exact (by revert c97; decide : False).elim
              · skip
                refine hl_aload_n hx hb dX10_init_53 rfl (lv_at hl 1 rfl) ?_
                refine g10_5 hx hb hts hown hKs hH ha92.1 ha92.2 m2_133 dX10_init_54 ?_
                refine lv_iload_n hx hb dX10_init_57 rfl (lv_at hl 0 rfl) ?_
                refine hw_new (ci := 6) (C := RX7) (T := TX7) (N := 8) hx hb hts iX7 tyX7 tyX7_ok hown m2_62 (hts _ m2_64) m1_13 hKs hb0 hH rfl rfl (fun j hj => dfX7 j hj) (Nat.le_of_ble_eq_true rfl) (Nat.le_of_ble_eq_true rfl) dX10_init_58 (fun H hH => ?_)
                obtain ⟨K98, hK98, hf⟩ := bnd hf
                replace hK98 := Option.some.inj hK98
                obtain ⟨w99, hw99, hf⟩ := bnd hf
                replace hw99 := Option.some.inj hw99
                rw [hK98, hw99] at hH
                refine lv_dup hx hb dX10_init_61 rv_cat ?_
                obtain ⟨q100, hq100, hf⟩ := bnd hf
                refine hcA hH (va_runIN (As := []) (rest := [rv E (some q87.2.1), .int 6, rv E (wR q96 1005 a92)]) ⟨hx, hb, hml, hown, hts⟩ (k_X7_init l E K98 (q87.2.1 + 1) q87.2.1 w99 hq100) ⟨va_cnB _ hts (gC m2_67) rfl rfl rfl (hKs.2.1 _ m2_65) (hts _ m1_13) hs_X7_init ⟨Nat.le_of_ble_eq_true rfl, Nat.le_of_ble_eq_true rfl⟩, rfl, hts _ m2_66⟩ ⟨HB.blind, HB.preN hKs hT hb0 hH⟩ rfl rfl hl.1 rfl (lv_room (rcV (rcI (rcV rc0)))) dX10_init_62 ⟨Nat.le_of_ble_eq_true rfl, Nat.le_of_ble_eq_true rfl⟩) (fun H locs hH => ?_)
                obtain ⟨a101, ha101, hf⟩ := bnd hf
                replace ha101 := cha_some ha101
                obtain ⟨j102, hj102, hf⟩ := bnd hf
                obtain ⟨a103, ha103, hf⟩ := bnd hf
                replace ha103 := chk_some ha103
                obtain ⟨w104, hw104, hf⟩ := bnd hf
                replace hw104 := Option.some.inj hw104
                refine hw_aast27 hx hb hKs hH ha101.1 ha101.2 ha103.1 ha103.2 hj102 dX10_init_65 (fun H locs hH => ?_)
                rw [hw104] at hH
                refine hl_aload_n hx hb dX10_init_66 rfl (lv_at hl 1 rfl) ?_
                obtain ⟨a105, ha105, hf⟩ := bnd hf
                replace ha105 := chk_some ha105
                refine g10_5 hx hb hts hown hKs hH ha105.1 ha105.2 m2_133 dX10_init_67 ?_
                refine lv_iload_n hx hb dX10_init_70 rfl (lv_at hl 0 rfl) ?_
                obtain ⟨a106, ha106, hf⟩ := bnd hf
                replace ha106 := cha_some ha106
                obtain ⟨j107, hj107, hf⟩ := bnd hf
                refine hw_aald27 hx hb hKs hH ha106.1 ha106.2 hj107 dX10_init_71 ?_
                obtain ⟨a108, ha108, hf⟩ := bnd hf
                replace ha108 := chk_some ha108
                obtain ⟨q109, hq109, hf⟩ := bnd hf
                refine hcV_v hx hb hml hown hts hKs hT hb0 hH (As := []) (rest := []) (k_X7_clear l E q100.1 H.size a108 w104 ha108.2 hq109) (gV m2_111 m2_112 m2_113 m1_13 m2_114) hd_X7_clear ⟨Nat.le_of_ble_eq_true rfl, Nat.le_of_ble_eq_true rfl, rfl, rfl⟩ ha108.1 ha108.2 rfl rfl rfl hl.1 rfl rc0 rfl dX10_init_72 ⟨Nat.le_of_ble_eq_true rfl, Nat.le_of_ble_eq_true rfl⟩ (fun H locs hH => ?_)
                refine lv_iinc (v := 7) (lv' := [(2, .int 7), (0, rv E (some o)), (1, rv E a_1)]) hx hb dX10_init_75 hl (k := 0) rfl rfl (by decide) (by simp [List.filter_cons, cat_q, cat_i, cat_j, imax, imin]) (fun ls hl => ?_)
                refine lv_goto (tgt := 47) hx hb dX10_init_78 (by decide) ?_
                refine lv_iload_n hx hb dX10_init_47 rfl (lv_at hl 0 rfl) ?_
                refine lv_bipush (v := 12) hx hb dX10_init_48 (by decide) ?_
                refine lv_icmp_ge (tgt := 81) hx hb dX10_init_50 (by decide) (fun c110 => ?_) (fun c110 => ?_)
                · exact (by revert c110; decide : False).elim
                · skip
                  refine hl_aload_n hx hb dX10_init_53 rfl (lv_at hl 1 rfl) ?_
                  refine g10_5 hx hb hts hown hKs hH ha105.1 ha105.2 m2_133 dX10_init_54 ?_
                  refine lv_iload_n hx hb dX10_init_57 rfl (lv_at hl 0 rfl) ?_
                  refine hw_new (ci := 6) (C := RX7) (T := TX7) (N := 8) hx hb hts iX7 tyX7 tyX7_ok hown m2_62 (hts _ m2_64) m1_13 hKs hb0 hH rfl rfl (fun j hj => dfX7 j hj) (Nat.le_of_ble_eq_true rfl) (Nat.le_of_ble_eq_true rfl) dX10_init_58 (fun H hH => ?_)
                  obtain ⟨K111, hK111, hf⟩ := bnd hf
                  replace hK111 := Option.some.inj hK111
                  obtain ⟨w112, hw112, hf⟩ := bnd hf
                  replace hw112 := Option.some.inj hw112
                  rw [hK111, hw112] at hH
                  refine lv_dup hx hb dX10_init_61 rv_cat ?_
                  obtain ⟨q113, hq113, hf⟩ := bnd hf
                  refine hcA hH (va_runIN (As := []) (rest := [rv E (some q100.2.1), .int 7, rv E (wR q109 1005 a105)]) ⟨hx, hb, hml, hown, hts⟩ (k_X7_init l E K111 (q100.2.1 + 1) q100.2.1 w112 hq113) ⟨va_cnB _ hts (gC m2_67) rfl rfl rfl (hKs.2.1 _ m2_65) (hts _ m1_13) hs_X7_init ⟨Nat.le_of_ble_eq_true rfl, Nat.le_of_ble_eq_true rfl⟩, rfl, hts _ m2_66⟩ ⟨HB.blind, HB.preN hKs hT hb0 hH⟩ rfl rfl hl.1 rfl (lv_room (rcV (rcI (rcV rc0)))) dX10_init_62 ⟨Nat.le_of_ble_eq_true rfl, Nat.le_of_ble_eq_true rfl⟩) (fun H locs hH => ?_)
                  obtain ⟨a114, ha114, hf⟩ := bnd hf
                  replace ha114 := cha_some ha114
                  obtain ⟨j115, hj115, hf⟩ := bnd hf
                  obtain ⟨a116, ha116, hf⟩ := bnd hf
                  replace ha116 := chk_some ha116
                  obtain ⟨w117, hw117, hf⟩ := bnd hf
                  replace hw117 := Option.some.inj hw117
                  refine hw_aast27 hx hb hKs hH ha114.1 ha114.2 ha116.1 ha116.2 hj115 dX10_init_65 (fun H locs hH => ?_)
                  rw [hw117] at hH
                  refine hl_aload_n hx hb dX10_init_66 rfl (lv_at hl 1 rfl) ?_
                  obtain ⟨a118, ha118, hf⟩ := bnd hf
                  replace ha118 := chk_some ha118
                  refine g10_5 hx hb hts hown hKs hH ha118.1 ha118.2 m2_133 dX10_init_67 ?_
                  refine lv_iload_n hx hb dX10_init_70 rfl (lv_at hl 0 rfl) ?_
                  obtain ⟨a119, ha119, hf⟩ := bnd hf
                  replace ha119 := cha_some ha119
                  obtain ⟨j120, hj120, hf⟩ := bnd hf
                  refine hw_aald27 hx hb hKs hH ha119.1 ha119.2 hj120 dX10_init_71 ?_
                  obtain ⟨a121, ha121, hf⟩ := bnd hf
                  replace ha121 := chk_some ha121
                  obtain ⟨q122, hq122, hf⟩ := bnd hf
                  refine hcV_v hx hb hml hown hts hKs hT hb0 hH (As := []) (rest := []) (k_X7_clear l E q113.1 H.size a121 w117 ha121.2 hq122) (gV m2_111 m2_112 m2_113 m1_13 m2_114) hd_X7_clear ⟨Nat.le_of_ble_eq_true rfl, Nat.le_of_ble_eq_true rfl, rfl, rfl⟩ ha121.1 ha121.2 rfl rfl rfl hl.1 rfl rc0 rfl dX10_init_72 ⟨Nat.le_of_ble_eq_true rfl, Nat.le_of_ble_eq_true rfl⟩ (fun H locs hH => ?_)
                  refine lv_iinc (v := 8) (lv' := [(2, .int 8), (0, rv E (some o)), (1, rv E a_1)]) hx hb dX10_init_75 hl (k := 0) rfl rfl (by decide) (by simp [List.filter_cons, cat_q, cat_i, cat_j, imax, imin]) (fun ls hl => ?_)
                  refine lv_goto (tgt := 47) hx hb dX10_init_78 (by decide) ?_
                  refine lv_iload_n hx hb dX10_init_47 rfl (lv_at hl 0 rfl) ?_
                  refine lv_bipush (v := 12) hx hb dX10_init_48 (by decide) ?_
                  refine lv_icmp_ge (tgt := 81) hx hb dX10_init_50 (by decide) (fun c123 => ?_) (fun c123 => ?_)
                  · exact (by revert c123; decide : False).elim
                  · skip
                    refine hl_aload_n hx hb dX10_init_53 rfl (lv_at hl 1 rfl) ?_
                    refine g10_5 hx hb hts hown hKs hH ha118.1 ha118.2 m2_133 dX10_init_54 ?_
                    refine lv_iload_n hx hb dX10_init_57 rfl (lv_at hl 0 rfl) ?_
                    refine hw_new (ci := 6) (C := RX7) (T := TX7) (N := 8) hx hb hts iX7 tyX7 tyX7_ok hown m2_62 (hts _ m2_64) m1_13 hKs hb0 hH rfl rfl (fun j hj => dfX7 j hj) (Nat.le_of_ble_eq_true rfl) (Nat.le_of_ble_eq_true rfl) dX10_init_58 (fun H hH => ?_)
                    obtain ⟨K124, hK124, hf⟩ := bnd hf
                    replace hK124 := Option.some.inj hK124
                    obtain ⟨w125, hw125, hf⟩ := bnd hf
                    replace hw125 := Option.some.inj hw125
                    rw [hK124, hw125] at hH
                    refine lv_dup hx hb dX10_init_61 rv_cat ?_
                    obtain ⟨q126, hq126, hf⟩ := bnd hf
                    refine hcA hH (va_runIN (As := []) (rest := [rv E (some q113.2.1), .int 8, rv E (wR q122 1005 a118)]) ⟨hx, hb, hml, hown, hts⟩ (k_X7_init l E K124 (q113.2.1 + 1) q113.2.1 w125 hq126) ⟨va_cnB _ hts (gC m2_67) rfl rfl rfl (hKs.2.1 _ m2_65) (hts _ m1_13) hs_X7_init ⟨Nat.le_of_ble_eq_true rfl, Nat.le_of_ble_eq_true rfl⟩, rfl, hts _ m2_66⟩ ⟨HB.blind, HB.preN hKs hT hb0 hH⟩ rfl rfl hl.1 rfl (lv_room (rcV (rcI (rcV rc0)))) dX10_init_62 ⟨Nat.le_of_ble_eq_true rfl, Nat.le_of_ble_eq_true rfl⟩) (fun H locs hH => ?_)
                    obtain ⟨a127, ha127, hf⟩ := bnd hf
                    replace ha127 := cha_some ha127
                    obtain ⟨j128, hj128, hf⟩ := bnd hf
                    obtain ⟨a129, ha129, hf⟩ := bnd hf
                    replace ha129 := chk_some ha129
                    obtain ⟨w130, hw130, hf⟩ := bnd hf
                    replace hw130 := Option.some.inj hw130
                    refine hw_aast27 hx hb hKs hH ha127.1 ha127.2 ha129.1 ha129.2 hj128 dX10_init_65 (fun H locs hH => ?_)
                    rw [hw130] at hH
                    refine hl_aload_n hx hb dX10_init_66 rfl (lv_at hl 1 rfl) ?_
                    obtain ⟨a131, ha131, hf⟩ := bnd hf
                    replace ha131 := chk_some ha131
                    refine g10_5 hx hb hts hown hKs hH ha131.1 ha131.2 m2_133 dX10_init_67 ?_
                    refine lv_iload_n hx hb dX10_init_70 rfl (lv_at hl 0 rfl) ?_
                    obtain ⟨a132, ha132, hf⟩ := bnd hf
                    replace ha132 := cha_some ha132
                    obtain ⟨j133, hj133, hf⟩ := bnd hf
                    refine hw_aald27 hx hb hKs hH ha132.1 ha132.2 hj133 dX10_init_71 ?_
                    obtain ⟨a134, ha134, hf⟩ := bnd hf
                    replace ha134 := chk_some ha134
                    obtain ⟨q135, hq135, hf⟩ := bnd hf
                    refine hcV_v hx hb hml hown hts hKs hT hb0 hH (As := []) (rest := []) (k_X7_clear l E q126.1 H.size a134 w130 ha134.2 hq135) (gV m2_111 m2_112 m2_113 m1_13 m2_114) hd_X7_clear ⟨Nat.le_of_ble_eq_true rfl, Nat.le_of_ble_eq_true rfl, rfl, rfl⟩ ha134.1 ha134.2 rfl rfl rfl hl.1 rfl rc0 rfl dX10_init_72 ⟨Nat.le_of_ble_eq_true rfl, Nat.le_of_ble_eq_true rfl⟩ (fun H locs hH => ?_)
                    refine lv_iinc (v := 9) (lv' := [(2, .int 9), (0, rv E (some o)), (1, rv E a_1)]) hx hb dX10_init_75 hl (k := 0) rfl rfl (by decide) (by simp [List.filter_cons, cat_q, cat_i, cat_j, imax, imin]) (fun ls hl => ?_)
                    refine lv_goto (tgt := 47) hx hb dX10_init_78 (by decide) ?_
                    refine lv_iload_n hx hb dX10_init_47 rfl (lv_at hl 0 rfl) ?_
                    refine lv_bipush (v := 12) hx hb dX10_init_48 (by decide) ?_
                    refine lv_icmp_ge (tgt := 81) hx hb dX10_init_50 (by decide) (fun c136 => ?_) (fun c136 => ?_)
                    · exact (by revert c136; decide : False).elim
                    · skip
                      refine hl_aload_n hx hb dX10_init_53 rfl (lv_at hl 1 rfl) ?_
                      refine g10_5 hx hb hts hown hKs hH ha131.1 ha131.2 m2_133 dX10_init_54 ?_
                      refine lv_iload_n hx hb dX10_init_57 rfl (lv_at hl 0 rfl) ?_
                      refine hw_new (ci := 6) (C := RX7) (T := TX7) (N := 8) hx hb hts iX7 tyX7 tyX7_ok hown m2_62 (hts _ m2_64) m1_13 hKs hb0 hH rfl rfl (fun j hj => dfX7 j hj) (Nat.le_of_ble_eq_true rfl) (Nat.le_of_ble_eq_true rfl) dX10_init_58 (fun H hH => ?_)
                      obtain ⟨K137, hK137, hf⟩ := bnd hf
                      replace hK137 := Option.some.inj hK137
                      obtain ⟨w138, hw138, hf⟩ := bnd hf
                      replace hw138 := Option.some.inj hw138
                      rw [hK137, hw138] at hH
                      refine lv_dup hx hb dX10_init_61 rv_cat ?_
                      obtain ⟨q139, hq139, hf⟩ := bnd hf
                      refine hcA hH (va_runIN (As := []) (rest := [rv E (some q126.2.1), .int 9, rv E (wR q135 1005 a131)]) ⟨hx, hb, hml, hown, hts⟩ (k_X7_init l E K137 (q126.2.1 + 1) q126.2.1 w138 hq139) ⟨va_cnB _ hts (gC m2_67) rfl rfl rfl (hKs.2.1 _ m2_65) (hts _ m1_13) hs_X7_init ⟨Nat.le_of_ble_eq_true rfl, Nat.le_of_ble_eq_true rfl⟩, rfl, hts _ m2_66⟩ ⟨HB.blind, HB.preN hKs hT hb0 hH⟩ rfl rfl hl.1 rfl (lv_room (rcV (rcI (rcV rc0)))) dX10_init_62 ⟨Nat.le_of_ble_eq_true rfl, Nat.le_of_ble_eq_true rfl⟩) (fun H locs hH => ?_)
                      obtain ⟨a140, ha140, hf⟩ := bnd hf
                      replace ha140 := cha_some ha140
                      obtain ⟨j141, hj141, hf⟩ := bnd hf
                      obtain ⟨a142, ha142, hf⟩ := bnd hf
                      replace ha142 := chk_some ha142
                      obtain ⟨w143, hw143, hf⟩ := bnd hf
                      replace hw143 := Option.some.inj hw143
                      refine hw_aast27 hx hb hKs hH ha140.1 ha140.2 ha142.1 ha142.2 hj141 dX10_init_65 (fun H locs hH => ?_)
                      rw [hw143] at hH
                      refine hl_aload_n hx hb dX10_init_66 rfl (lv_at hl 1 rfl) ?_
                      obtain ⟨a144, ha144, hf⟩ := bnd hf
                      replace ha144 := chk_some ha144
                      refine g10_5 hx hb hts hown hKs hH ha144.1 ha144.2 m2_133 dX10_init_67 ?_
                      refine lv_iload_n hx hb dX10_init_70 rfl (lv_at hl 0 rfl) ?_
                      obtain ⟨a145, ha145, hf⟩ := bnd hf
                      replace ha145 := cha_some ha145
                      obtain ⟨j146, hj146, hf⟩ := bnd hf
                      refine hw_aald27 hx hb hKs hH ha145.1 ha145.2 hj146 dX10_init_71 ?_
                      obtain ⟨a147, ha147, hf⟩ := bnd hf
                      replace ha147 := chk_some ha147
                      obtain ⟨q148, hq148, hf⟩ := bnd hf
                      refine hcV_v hx hb hml hown hts hKs hT hb0 hH (As := []) (rest := []) (k_X7_clear l E q139.1 H.size a147 w143 ha147.2 hq148) (gV m2_111 m2_112 m2_113 m1_13 m2_114) hd_X7_clear ⟨Nat.le_of_ble_eq_true rfl, Nat.le_of_ble_eq_true rfl, rfl, rfl⟩ ha147.1 ha147.2 rfl rfl rfl hl.1 rfl rc0 rfl dX10_init_72 ⟨Nat.le_of_ble_eq_true rfl, Nat.le_of_ble_eq_true rfl⟩ (fun H locs hH => ?_)
                      refine lv_iinc (v := 10) (lv' := [(2, .int 10), (0, rv E (some o)), (1, rv E a_1)]) hx hb dX10_init_75 hl (k := 0) rfl rfl (by decide) (by simp [List.filter_cons, cat_q, cat_i, cat_j, imax, imin]) (fun ls hl => ?_)
                      refine lv_goto (tgt := 47) hx hb dX10_init_78 (by decide) ?_
                      refine lv_iload_n hx hb dX10_init_47 rfl (lv_at hl 0 rfl) ?_
                      refine lv_bipush (v := 12) hx hb dX10_init_48 (by decide) ?_
                      refine lv_icmp_ge (tgt := 81) hx hb dX10_init_50 (by decide) (fun c149 => ?_) (fun c149 => ?_)
                      · exact (by revert c149; decide : False).elim
                      · skip
                        refine hl_aload_n hx hb dX10_init_53 rfl (lv_at hl 1 rfl) ?_
                        refine g10_5 hx hb hts hown hKs hH ha144.1 ha144.2 m2_133 dX10_init_54 ?_
                        refine lv_iload_n hx hb dX10_init_57 rfl (lv_at hl 0 rfl) ?_
                        refine hw_new (ci := 6) (C := RX7) (T := TX7) (N := 8) hx hb hts iX7 tyX7 tyX7_ok hown m2_62 (hts _ m2_64) m1_13 hKs hb0 hH rfl rfl (fun j hj => dfX7 j hj) (Nat.le_of_ble_eq_true rfl) (Nat.le_of_ble_eq_true rfl) dX10_init_58 (fun H hH => ?_)
                        obtain ⟨K150, hK150, hf⟩ := bnd hf
                        replace hK150 := Option.some.inj hK150
                        obtain ⟨w151, hw151, hf⟩ := bnd hf
                        replace hw151 := Option.some.inj hw151
                        rw [hK150, hw151] at hH
                        refine lv_dup hx hb dX10_init_61 rv_cat ?_
                        obtain ⟨q152, hq152, hf⟩ := bnd hf
                        refine hcA hH (va_runIN (As := []) (rest := [rv E (some q139.2.1), .int 10, rv E (wR q148 1005 a144)]) ⟨hx, hb, hml, hown, hts⟩ (k_X7_init l E K150 (q139.2.1 + 1) q139.2.1 w151 hq152) ⟨va_cnB _ hts (gC m2_67) rfl rfl rfl (hKs.2.1 _ m2_65) (hts _ m1_13) hs_X7_init ⟨Nat.le_of_ble_eq_true rfl, Nat.le_of_ble_eq_true rfl⟩, rfl, hts _ m2_66⟩ ⟨HB.blind, HB.preN hKs hT hb0 hH⟩ rfl rfl hl.1 rfl (lv_room (rcV (rcI (rcV rc0)))) dX10_init_62 ⟨Nat.le_of_ble_eq_true rfl, Nat.le_of_ble_eq_true rfl⟩) (fun H locs hH => ?_)
                        obtain ⟨a153, ha153, hf⟩ := bnd hf
                        replace ha153 := cha_some ha153
                        obtain ⟨j154, hj154, hf⟩ := bnd hf
                        obtain ⟨a155, ha155, hf⟩ := bnd hf
                        replace ha155 := chk_some ha155
                        obtain ⟨w156, hw156, hf⟩ := bnd hf
                        replace hw156 := Option.some.inj hw156
                        refine hw_aast27 hx hb hKs hH ha153.1 ha153.2 ha155.1 ha155.2 hj154 dX10_init_65 (fun H locs hH => ?_)
                        rw [hw156] at hH
                        refine hl_aload_n hx hb dX10_init_66 rfl (lv_at hl 1 rfl) ?_
                        obtain ⟨a157, ha157, hf⟩ := bnd hf
                        replace ha157 := chk_some ha157
                        refine g10_5 hx hb hts hown hKs hH ha157.1 ha157.2 m2_133 dX10_init_67 ?_
                        refine lv_iload_n hx hb dX10_init_70 rfl (lv_at hl 0 rfl) ?_
                        obtain ⟨a158, ha158, hf⟩ := bnd hf
                        replace ha158 := cha_some ha158
                        obtain ⟨j159, hj159, hf⟩ := bnd hf
                        refine hw_aald27 hx hb hKs hH ha158.1 ha158.2 hj159 dX10_init_71 ?_
                        obtain ⟨a160, ha160, hf⟩ := bnd hf
                        replace ha160 := chk_some ha160
                        obtain ⟨q161, hq161, hf⟩ := bnd hf
                        refine hcV_v hx hb hml hown hts hKs hT hb0 hH (As := []) (rest := []) (k_X7_clear l E q152.1 H.size a160 w156 ha160.2 hq161) (gV m2_111 m2_112 m2_113 m1_13 m2_114) hd_X7_clear ⟨Nat.le_of_ble_eq_true rfl, Nat.le_of_ble_eq_true rfl, rfl, rfl⟩ ha160.1 ha160.2 rfl rfl rfl hl.1 rfl rc0 rfl dX10_init_72 ⟨Nat.le_of_ble_eq_true rfl, Nat.le_of_ble_eq_true rfl⟩ (fun H locs hH => ?_)
                        refine lv_iinc (v := 11) (lv' := [(2, .int 11), (0, rv E (some o)), (1, rv E a_1)]) hx hb dX10_init_75 hl (k := 0) rfl rfl (by decide) (by simp [List.filter_cons, cat_q, cat_i, cat_j, imax, imin]) (fun ls hl => ?_)
                        refine lv_goto (tgt := 47) hx hb dX10_init_78 (by decide) ?_
                        refine lv_iload_n hx hb dX10_init_47 rfl (lv_at hl 0 rfl) ?_
                        refine lv_bipush (v := 12) hx hb dX10_init_48 (by decide) ?_
                        refine lv_icmp_ge (tgt := 81) hx hb dX10_init_50 (by decide) (fun c162 => ?_) (fun c162 => ?_)
                        · exact (by revert c162; decide : False).elim
                        · skip
                          refine hl_aload_n hx hb dX10_init_53 rfl (lv_at hl 1 rfl) ?_
                          refine g10_5 hx hb hts hown hKs hH ha157.1 ha157.2 m2_133 dX10_init_54 ?_
                          refine lv_iload_n hx hb dX10_init_57 rfl (lv_at hl 0 rfl) ?_
                          refine hw_new (ci := 6) (C := RX7) (T := TX7) (N := 8) hx hb hts iX7 tyX7 tyX7_ok hown m2_62 (hts _ m2_64) m1_13 hKs hb0 hH rfl rfl (fun j hj => dfX7 j hj) (Nat.le_of_ble_eq_true rfl) (Nat.le_of_ble_eq_true rfl) dX10_init_58 (fun H hH => ?_)
                          obtain ⟨K163, hK163, hf⟩ := bnd hf
                          replace hK163 := Option.some.inj hK163
                          obtain ⟨w164, hw164, hf⟩ := bnd hf
                          replace hw164 := Option.some.inj hw164
                          rw [hK163, hw164] at hH
                          refine lv_dup hx hb dX10_init_61 rv_cat ?_
                          obtain ⟨q165, hq165, hf⟩ := bnd hf
                          refine hcA hH (va_runIN (As := []) (rest := [rv E (some q152.2.1), .int 11, rv E (wR q161 1005 a157)]) ⟨hx, hb, hml, hown, hts⟩ (k_X7_init l E K163 (q152.2.1 + 1) q152.2.1 w164 hq165) ⟨va_cnB _ hts (gC m2_67) rfl rfl rfl (hKs.2.1 _ m2_65) (hts _ m1_13) hs_X7_init ⟨Nat.le_of_ble_eq_true rfl, Nat.le_of_ble_eq_true rfl⟩, rfl, hts _ m2_66⟩ ⟨HB.blind, HB.preN hKs hT hb0 hH⟩ rfl rfl hl.1 rfl (lv_room (rcV (rcI (rcV rc0)))) dX10_init_62 ⟨Nat.le_of_ble_eq_true rfl, Nat.le_of_ble_eq_true rfl⟩) (fun H locs hH => ?_)
                          obtain ⟨a166, ha166, hf⟩ := bnd hf
                          replace ha166 := cha_some ha166
                          obtain ⟨j167, hj167, hf⟩ := bnd hf
                          obtain ⟨a168, ha168, hf⟩ := bnd hf
                          replace ha168 := chk_some ha168
                          obtain ⟨w169, hw169, hf⟩ := bnd hf
                          replace hw169 := Option.some.inj hw169
                          refine hw_aast27 hx hb hKs hH ha166.1 ha166.2 ha168.1 ha168.2 hj167 dX10_init_65 (fun H locs hH => ?_)
                          rw [hw169] at hH
                          refine hl_aload_n hx hb dX10_init_66 rfl (lv_at hl 1 rfl) ?_
                          obtain ⟨a170, ha170, hf⟩ := bnd hf
                          replace ha170 := chk_some ha170
                          refine g10_5 hx hb hts hown hKs hH ha170.1 ha170.2 m2_133 dX10_init_67 ?_
                          refine lv_iload_n hx hb dX10_init_70 rfl (lv_at hl 0 rfl) ?_
                          obtain ⟨a171, ha171, hf⟩ := bnd hf
                          replace ha171 := cha_some ha171
                          obtain ⟨j172, hj172, hf⟩ := bnd hf
                          refine hw_aald27 hx hb hKs hH ha171.1 ha171.2 hj172 dX10_init_71 ?_
                          obtain ⟨a173, ha173, hf⟩ := bnd hf
                          replace ha173 := chk_some ha173
                          obtain ⟨q174, hq174, hf⟩ := bnd hf
                          refine hcV_v hx hb hml hown hts hKs hT hb0 hH (As := []) (rest := []) (k_X7_clear l E q165.1 H.size a173 w169 ha173.2 hq174) (gV m2_111 m2_112 m2_113 m1_13 m2_114) hd_X7_clear ⟨Nat.le_of_ble_eq_true rfl, Nat.le_of_ble_eq_true rfl, rfl, rfl⟩ ha173.1 ha173.2 rfl rfl rfl hl.1 rfl rc0 rfl dX10_init_72 ⟨Nat.le_of_ble_eq_true rfl, Nat.le_of_ble_eq_true rfl⟩ (fun H locs hH => ?_)
                          refine lv_iinc (v := 12) (lv' := [(2, .int 12), (0, rv E (some o)), (1, rv E a_1)]) hx hb dX10_init_75 hl (k := 0) rfl rfl (by decide) (by simp [List.filter_cons, cat_q, cat_i, cat_j, imax, imin]) (fun ls hl => ?_)
                          refine lv_goto (tgt := 47) hx hb dX10_init_78 (by decide) ?_
                          refine lv_iload_n hx hb dX10_init_47 rfl (lv_at hl 0 rfl) ?_
                          refine lv_bipush (v := 12) hx hb dX10_init_48 (by decide) ?_
                          refine lv_icmp_ge (tgt := 81) hx hb dX10_init_50 (by decide) (fun c175 => ?_) (fun c175 => ?_)
                          · skip
                            exact hw_aret hx hb (Nat.le_of_ble_eq_true rfl) (Nat.le_of_ble_eq_true rfl) hret hf hH hlocks dX10_init_81
                          · exact (by revert c175; decide : False).elim

theorem dX10_begin_0 : decode cX10_begin 0 = .ok (.aload_n 0, 1) := by decide +kernel
theorem dX10_begin_1 : decode cX10_begin 1 = .ok (.aload_n 1, 1) := by decide +kernel
theorem dX10_begin_2 : decode cX10_begin 2 = .ok (.putfield 31, 3) := by decide +kernel
theorem dX10_begin_5 : decode cX10_begin 5 = .ok (.aload_n 0, 1) := by decide +kernel
theorem dX10_begin_6 : decode cX10_begin 6 = .ok (.iconst 0, 1) := by decide +kernel
theorem dX10_begin_7 : decode cX10_begin 7 = .ok (.putfield 39, 3) := by decide +kernel
theorem dX10_begin_10 : decode cX10_begin 10 = .ok (.aload_n 0, 1) := by decide +kernel
theorem dX10_begin_11 : decode cX10_begin 11 = .ok (.getfield 12, 3) := by decide +kernel
theorem dX10_begin_14 : decode cX10_begin 14 = .ok (.aload_n 1, 1) := by decide +kernel
theorem dX10_begin_15 : decode cX10_begin 15 = .ok (.getfield 43, 3) := by decide +kernel
theorem dX10_begin_18 : decode cX10_begin 18 = .ok (.invokevirtual 46, 3) := by decide +kernel
theorem dX10_begin_21 : decode cX10_begin 21 = .ok (.aload_n 1, 1) := by decide +kernel
theorem dX10_begin_22 : decode cX10_begin 22 = .ok (.getfield 50, 3) := by decide +kernel
theorem dX10_begin_25 : decode cX10_begin 25 = .ok (.iconst 0, 1) := by decide +kernel
theorem dX10_begin_26 : decode cX10_begin 26 = .ok (.aload_n 0, 1) := by decide +kernel
theorem dX10_begin_27 : decode cX10_begin 27 = .ok (.getfield 18, 3) := by decide +kernel
theorem dX10_begin_30 : decode cX10_begin 30 = .ok (.iconst 0, 1) := by decide +kernel
theorem dX10_begin_31 : decode cX10_begin 31 = .ok (.aload_n 0, 1) := by decide +kernel
theorem dX10_begin_32 : decode cX10_begin 32 = .ok (.getfield 18, 3) := by decide +kernel
theorem dX10_begin_35 : decode cX10_begin 35 = .ok (.arraylength, 1) := by decide +kernel
theorem dX10_begin_36 : decode cX10_begin 36 = .ok (.invokestatic 51, 3) := by decide +kernel
theorem dX10_begin_39 : decode cX10_begin 39 = .ok (.iconst 0, 1) := by decide +kernel
theorem dX10_begin_40 : decode cX10_begin 40 = .ok (.istore_n 2, 1) := by decide +kernel
theorem dX10_begin_41 : decode cX10_begin 41 = .ok (.iload_n 2, 1) := by decide +kernel
theorem dX10_begin_42 : decode cX10_begin 42 = .ok (.bipush 12, 2) := by decide +kernel
theorem dX10_begin_44 : decode cX10_begin 44 = .ok (.if_icmp .ge 33, 3) := by decide +kernel
theorem dX10_begin_47 : decode cX10_begin 47 = .ok (.aload_n 0, 1) := by decide +kernel
theorem dX10_begin_48 : decode cX10_begin 48 = .ok (.getfield 22, 3) := by decide +kernel
theorem dX10_begin_51 : decode cX10_begin 51 = .ok (.iload_n 2, 1) := by decide +kernel
theorem dX10_begin_52 : decode cX10_begin 52 = .ok (.aload_n 1, 1) := by decide +kernel
theorem dX10_begin_53 : decode cX10_begin 53 = .ok (.getfield 57, 3) := by decide +kernel
theorem dX10_begin_56 : decode cX10_begin 56 = .ok (.iload_n 2, 1) := by decide +kernel
theorem dX10_begin_57 : decode cX10_begin 57 = .ok (.aaload, 1) := by decide +kernel
theorem dX10_begin_58 : decode cX10_begin 58 = .ok (.getfield 61, 3) := by decide +kernel
theorem dX10_begin_61 : decode cX10_begin 61 = .ok (.iastore, 1) := by decide +kernel
theorem dX10_begin_62 : decode cX10_begin 62 = .ok (.aload_n 0, 1) := by decide +kernel
theorem dX10_begin_63 : decode cX10_begin 63 = .ok (.getfield 27, 3) := by decide +kernel
theorem dX10_begin_66 : decode cX10_begin 66 = .ok (.iload_n 2, 1) := by decide +kernel
theorem dX10_begin_67 : decode cX10_begin 67 = .ok (.aaload, 1) := by decide +kernel
theorem dX10_begin_68 : decode cX10_begin 68 = .ok (.invokevirtual 36, 3) := by decide +kernel
theorem dX10_begin_71 : decode cX10_begin 71 = .ok (.iinc 2 1, 3) := by decide +kernel
theorem dX10_begin_74 : decode cX10_begin 74 = .ok (.goto (-33), 3) := by decide +kernel
theorem dX10_begin_77 : decode cX10_begin 77 = .ok (.return_, 1) := by decide +kernel
theorem hd_X10_begin : yX10_begin.cls = RX10 ∧ yX10_begin.cls ≠ "java/lang/invoke/MethodHandle" ∧ yX10_begin.cls ≠ "java/lang/invoke/VarHandle" ∧ (parseMethodDescriptor yX10_begin.desc).map (fun d => d.parameters.length) = some 1 := by decide +kernel
theorem hs_X10_begin : yX10_begin.cls ≠ "java/lang/invoke/MethodHandle" ∧ yX10_begin.cls ≠ "java/lang/invoke/VarHandle" ∧ (parseMethodDescriptor yX10_begin.desc).map (fun d => d.parameters.length) = some 1 := by decide +kernel
set_option maxHeartbeats 4000000 in
set_option maxRecDepth 100000 in
theorem l_X10_begin_L41 (C : CX p l e s m args meth c cX10_begin 3 RX10 (Option.none : Option Jvm.ClassFile.FieldType) E) {o : Nat} (ho : K o = some (9, 0)) {w' : Wd} (k : Option Nat → Int32 → Wd → Option Wd) (hk : ∀ (v1_41 : Option Nat) (v2_41 : Int32) (w : Wd) (H : Heap) (locs : List Loc) (ls : Array Slot), HQ E K z w s H locs → lv_has ls 3 [(1, rv E v1_41), (2, .int v2_41), (0, rv E (some o))] → k v1_41 v2_41 w = some w' → W p l e ({ frames := 2, cells := 0, slots := 0, locals := 81 } : Room) s m args below meth c H locs 0 0 (MQ below (QV E K z w') args s 0 0 (hA E)) (F0 m 77 ls [])) : ∀ (n : Nat) (v1_41 : Option Nat) (v2_41 : Int32) (w : Wd) (H : Heap) (locs : List Loc) (ls : Array Slot), HQ E K z w s H locs → lv_has ls 3 [(1, rv E v1_41), (2, .int v2_41), (0, rv E (some o))] → f_X10_begin_L41 K o k n v1_41 v2_41 w = some w' → W p l e ({ frames := 2, cells := 0, slots := 0, locals := 81 } : Room) s m args below meth c H locs 0 0 (MQ below (QV E K z w') args s 0 0 (hA E)) (F0 m 41 ls []) := by
  obtain ⟨hx, hb, hml, hown, hts, hKs, hT, hb0, hlocks, hret⟩ := id C
  intro n
  induction n with
  | zero =>
    intro v1_41 v2_41 w H locs ls hH hl hf
    cases hf
  | succ n ih =>
    intro v1_41 v2_41 w H locs ls hH hl hf
    rw [f_X10_begin_L41] at hf
    refine lv_iload_n hx hb dX10_begin_41 rfl (lv_at hl 1 rfl) ?_
    refine lv_bipush (v := 12) hx hb dX10_begin_42 (by decide) ?_
    refine lv_icmp_ge (tgt := 77) hx hb dX10_begin_44 (by decide) (fun c11 => ?_) (fun c11 => ?_)
    · replace hf := (if_pos c11).symm.trans hf
      exact hk v1_41 v2_41 _ _ _ _ hH (lv_sub hl [0, 1, 2] rfl) hf
    · replace hf := (if_neg c11).symm.trans hf
      refine hl_aload_n hx hb dX10_begin_47 rfl (lv_at hl 2 rfl) ?_
      refine g10_4 hx hb hts hown hKs hH rfl ho m2_130 dX10_begin_48 ?_
      refine lv_iload_n hx hb dX10_begin_51 rfl (lv_at hl 1 rfl) ?_
      refine hl_aload_n hx hb dX10_begin_52 rfl (lv_at hl 0 rfl) ?_
      obtain ⟨a12, ha12, hf⟩ := bnd hf
      replace ha12 := chk_some ha12
      refine gn9_9 hx hb hts hown hKs hH ha12.1 ha12.2 m1_177 dX10_begin_53 ?_
      refine lv_iload_n hx hb dX10_begin_56 rfl (lv_at hl 1 rfl) ?_
      obtain ⟨a13, ha13, hf⟩ := bnd hf
      replace ha13 := cha_some ha13
      obtain ⟨j14, hj14, hf⟩ := bnd hf
      refine hw_aald25 hx hb hKs hH ha13.1 ha13.2 hj14 dX10_begin_57 ?_
      obtain ⟨a15, ha15, hf⟩ := bnd hf
      replace ha15 := chk_some ha15
      refine gn3_6 hx hb hts hown hKs hH ha15.1 ha15.2 m1_117 dX10_begin_58 ?_
      obtain ⟨a16, ha16, hf⟩ := bnd hf
      replace ha16 := cha_some ha16
      obtain ⟨j17, hj17, hf⟩ := bnd hf
      obtain ⟨w18, hw18, hf⟩ := bnd hf
      replace hw18 := Option.some.inj hw18
      refine hw_iast (x := (wI w 306 a15)) hx hb hKs hH ha16.1 ha16.2 hj17 dX10_begin_61 (fun H locs hH => ?_)
      rw [hw18] at hH
      refine hl_aload_n hx hb dX10_begin_62 rfl (lv_at hl 2 rfl) ?_
      refine g10_5 hx hb hts hown hKs hH rfl ho m2_133 dX10_begin_63 ?_
      refine lv_iload_n hx hb dX10_begin_66 rfl (lv_at hl 1 rfl) ?_
      obtain ⟨a19, ha19, hf⟩ := bnd hf
      replace ha19 := cha_some ha19
      obtain ⟨j20, hj20, hf⟩ := bnd hf
      refine hw_aald27 hx hb hKs hH ha19.1 ha19.2 hj20 dX10_begin_67 ?_
      obtain ⟨a21, ha21, hf⟩ := bnd hf
      replace ha21 := chk_some ha21
      obtain ⟨q22, hq22, hf⟩ := bnd hf
      refine hcV_v hx hb hml hown hts hKs hT hb0 hH (As := []) (rest := []) (k_X7_clear l E K H.size a21 w18 ha21.2 hq22) (gV m2_111 m2_112 m2_113 m1_13 m2_114) hd_X7_clear ⟨Nat.le_of_ble_eq_true rfl, Nat.le_of_ble_eq_true rfl, rfl, rfl⟩ ha21.1 ha21.2 rfl rfl rfl hl.1 rfl rc0 rfl dX10_begin_68 ⟨Nat.zero_le _, Nat.zero_le _⟩ (fun H locs hH => ?_)
      refine lv_iinc (v := (v2_41 + 1)) (lv' := [(2, .int ((v2_41 + 1))), (1, rv E v1_41), (0, rv E (some o))]) hx hb dX10_begin_71 hl (k := 1) rfl rfl (by decide) (by simp [List.filter_cons, cat_q, cat_i, cat_j, imax, imin]) (fun ls hl => ?_)
      refine lv_goto (tgt := 41) hx hb dX10_begin_74 (by decide) ?_
      exact ih v1_41 (v2_41 + 1) _ _ _ _ hH (lv_sub hl [1, 0, 2] rfl) hf
set_option maxHeartbeats 4000000 in
set_option maxRecDepth 100000 in
theorem k_X10_begin (l : Launch) (E : Ev) (K : Kd) (z : Nat) (o : Nat) (a_1 : Option Nat) (w : Wd) (ho : K o = some (9, 0)) {w' : Wd} (hf : f_X10_begin K o a_1 w = some w') : Met l yX10_begin (Cond.code yX10_begin cX10_begin 3 (Option.none : Option Jvm.ClassFile.FieldType) :: bt) ({ frames := 2, cells := 0, slots := 0, locals := 81 } : Room) (va_Pc [rv E (some o), rv E a_1] (HB E K w z)) (QV E K z w') 0 0 (hA E) := by
  refine Met.ofW (cc := cX10_begin) (maxL := 3) (ret := (Option.none : Option Jvm.ClassFile.FieldType)) (by decide) rfl ?_
  intro p e s m args below meth c s₁ B hml hv
  obtain ⟨rfl, hz, hP, hKs, hT, hb0⟩ := hv
  have C : CX p l e s m _ meth c cX10_begin 3 RX10 (Option.none : Option Jvm.ClassFile.FieldType) E := ⟨B.exec, B.bytes, hml, findClass_of_methodNamed B.named, fun w h => atoms_spec (ws := Cond.code yX10_begin cX10_begin 3 (Option.none : Option Jvm.ClassFile.FieldType) :: bt) B.pre w (List.mem_cons_of_mem _ h), hKs, hT, by rw [hz]; exact hb0, B.notSynchronized, B.returns⟩
  have hH : HQ E K z w s s.heap [] := ⟨hP, va_S.rf, hz⟩
  obtain ⟨hx, hb, hml, hown, hts, hKs, hT, hb0, hlocks, hret⟩ := id C
  have hl := lv_entry [rv E (some o), rv E a_1] (n := 3) (by simp [lg_len_nil, lg_len_i, lg_len_j, lg_len_q, lg_len_f, lg_len_d, lg_len_r])
  rw [lg_entry_eq]
  generalize (lg_sl [rv E (some o), rv E a_1] ++ List.replicate (3 - (lg_sl [rv E (some o), rv E a_1]).length) Slot.unset).toArray = ls at hl ⊢
  replace hl : lv_has ls 3 [(0, rv E (some o)), (1, rv E a_1)] := by simpa only [lv_args, cat_q, cat_i, cat_j, reduceIte, Nat.reduceEqDiff, Nat.reduceAdd, Nat.zero_add] using hl
  generalize s.heap = H at hH ⊢
  unfold f_X10_begin at hf
  refine hl_aload_n hx hb dX10_begin_0 rfl (lv_at hl 0 rfl) ?_
  refine hl_aload_n hx hb dX10_begin_1 rfl (lv_at hl 1 rfl) ?_
  obtain ⟨w1, hw1, hf⟩ := bnd hf
  replace hw1 := Option.some.inj hw1
  refine p10_0 (v := a_1) hx hb hts hown hKs hH rfl ho m2_119 dX10_begin_2 (fun H locs hH => ?_)
  rw [hw1] at hH
  refine hl_aload_n hx hb dX10_begin_5 rfl (lv_at hl 0 rfl) ?_
  refine lv_iconst (v := 0) hx hb dX10_begin_6 (by decide) ?_
  obtain ⟨w2, hw2, hf⟩ := bnd hf
  replace hw2 := Option.some.inj hw2
  refine p10_1 (v := 0) hx hb hts hown hKs hH rfl ho m2_123 dX10_begin_7 (fun H locs hH => ?_)
  rw [hw2] at hH
  refine hl_aload_n hx hb dX10_begin_10 rfl (lv_at hl 0 rfl) ?_
  refine g10_2 hx hb hts hown hKs hH rfl ho m2_126 dX10_begin_11 ?_
  refine hl_aload_n hx hb dX10_begin_14 rfl (lv_at hl 1 rfl) ?_
  obtain ⟨a3, ha3, hf⟩ := bnd hf
  replace ha3 := chk_some ha3
  refine gn9_10 hx hb hts hown hKs hH ha3.1 ha3.2 m1_182 dX10_begin_15 ?_
  obtain ⟨a4, ha4, hf⟩ := bnd hf
  replace ha4 := chk_some ha4
  obtain ⟨q5, hq5, hf⟩ := bnd hf
  refine hcV_v hx hb hml hown hts hKs hT hb0 hH (As := [rv E (wR w2 910 a3)]) (rest := []) (k_X2_copyFrom l E K H.size a4 (wR w2 910 a3) w2 ha4.2 hq5) (gV m3_221 m3_222 m3_223 m1_3 m3_224) hd_X2_copyFrom ⟨Nat.le_of_ble_eq_true rfl, Nat.le_of_ble_eq_true rfl, rfl, rfl⟩ ha4.1 ha4.2 rfl rfl rfl hl.1 rfl rc0 rfl dX10_begin_18 ⟨Nat.zero_le _, Nat.zero_le _⟩ (fun H locs hH => ?_)
  refine hl_aload_n hx hb dX10_begin_21 rfl (lv_at hl 1 rfl) ?_
  refine gn9_6 hx hb hts hown hKs hH ha3.1 ha3.2 m1_165 dX10_begin_22 ?_
  refine lv_iconst (v := 0) hx hb dX10_begin_25 (by decide) ?_
  refine hl_aload_n hx hb dX10_begin_26 rfl (lv_at hl 0 rfl) ?_
  refine g10_3 hx hb hts hown hKs hH rfl ho m2_128 dX10_begin_27 ?_
  refine lv_iconst (v := 0) hx hb dX10_begin_30 (by decide) ?_
  refine hl_aload_n hx hb dX10_begin_31 rfl (lv_at hl 0 rfl) ?_
  refine g10_3 hx hb hts hown hKs hH rfl ho m2_128 dX10_begin_32 ?_
  obtain ⟨a6, ha6, hf⟩ := bnd hf
  replace ha6 := cha_some ha6
  refine hw_alen20 hx hb hKs hH ha6.1 ha6.2 dX10_begin_35 ?_
  obtain ⟨a7, ha7, hf⟩ := bnd hf
  replace ha7 := cha_some ha7
  obtain ⟨_, hg8, hf⟩ := bnd hf
  replace hg8 := grd_some hg8
  obtain ⟨w9, hw9, hf⟩ := bnd hf
  replace hw9 := Option.some.inj hw9
  refine hw_copy hx hb (hml.trans hl.1.symm) hown (hts _ m3_228) (va_Nw.use rfl hKs.2.2.2.2.1) (hts _ m3_226) (hts _ m1_18) hKs hH ha7.1 ha7.2 ha6.1 ha6.2 hg8.1 hg8.2.1 hg8.2.2.1 hg8.2.2.2.1 hg8.2.2.2.2 (Nat.le_of_ble_eq_true rfl) (by decide) dX10_begin_36 (fun H locs hH => ?_)
  rw [hw9] at hH
  refine lv_iconst (v := 0) hx hb dX10_begin_39 (by decide) ?_
  refine lv_istore_n (i := 2) (lv' := [(2, .int 0), (0, rv E (some o)), (1, rv E a_1)]) hx hb dX10_begin_40 rfl hl (by decide) (by simp [List.filter_cons, cat_q, cat_i, cat_j, imax, imin]) (fun ls hl => ?_)
  refine l_X10_begin_L41  C ho _ (fun v1_41 v2_41 w10 H locs ls hH hl hf => ?_) fu a_1 0 w9 _ _ _ hH (lv_sub hl [2, 0, 1] rfl) hf
  exact hw_vret hx hb hret hf hH hlocks dX10_begin_77

theorem dX10_countBars_0 : decode cX10_countBars 0 = .ok (.iconst 0, 1) := by decide +kernel
theorem dX10_countBars_1 : decode cX10_countBars 1 = .ok (.istore_n 1, 1) := by decide +kernel
theorem dX10_countBars_2 : decode cX10_countBars 2 = .ok (.iconst 0, 1) := by decide +kernel
theorem dX10_countBars_3 : decode cX10_countBars 3 = .ok (.istore_n 2, 1) := by decide +kernel
theorem dX10_countBars_4 : decode cX10_countBars 4 = .ok (.iload_n 2, 1) := by decide +kernel
theorem dX10_countBars_5 : decode cX10_countBars 5 = .ok (.aload_n 0, 1) := by decide +kernel
theorem dX10_countBars_6 : decode cX10_countBars 6 = .ok (.getfield 31, 3) := by decide +kernel
theorem dX10_countBars_9 : decode cX10_countBars 9 = .ok (.iconst 3, 1) := by decide +kernel
theorem dX10_countBars_10 : decode cX10_countBars 10 = .ok (.invokevirtual 92, 3) := by decide +kernel
theorem dX10_countBars_13 : decode cX10_countBars 13 = .ok (.if_icmp .ge 21, 3) := by decide +kernel
theorem dX10_countBars_16 : decode cX10_countBars 16 = .ok (.iload_n 1, 1) := by decide +kernel
theorem dX10_countBars_17 : decode cX10_countBars 17 = .ok (.aload_n 0, 1) := by decide +kernel
theorem dX10_countBars_18 : decode cX10_countBars 18 = .ok (.getfield 22, 3) := by decide +kernel
theorem dX10_countBars_21 : decode cX10_countBars 21 = .ok (.iload_n 2, 1) := by decide +kernel
theorem dX10_countBars_22 : decode cX10_countBars 22 = .ok (.iaload, 1) := by decide +kernel
theorem dX10_countBars_23 : decode cX10_countBars 23 = .ok (.invokestatic 98, 3) := by decide +kernel
theorem dX10_countBars_26 : decode cX10_countBars 26 = .ok (.iadd, 1) := by decide +kernel
theorem dX10_countBars_27 : decode cX10_countBars 27 = .ok (.istore_n 1, 1) := by decide +kernel
theorem dX10_countBars_28 : decode cX10_countBars 28 = .ok (.iinc 2 1, 3) := by decide +kernel
theorem dX10_countBars_31 : decode cX10_countBars 31 = .ok (.goto (-27), 3) := by decide +kernel
theorem dX10_countBars_34 : decode cX10_countBars 34 = .ok (.iload_n 1, 1) := by decide +kernel
theorem dX10_countBars_35 : decode cX10_countBars 35 = .ok (.ireturn, 1) := by decide +kernel
theorem hd_X10_countBars : yX10_countBars.cls = RX10 ∧ yX10_countBars.cls ≠ "java/lang/invoke/MethodHandle" ∧ yX10_countBars.cls ≠ "java/lang/invoke/VarHandle" ∧ (parseMethodDescriptor yX10_countBars.desc).map (fun d => d.parameters.length) = some 0 := by decide +kernel
theorem hs_X10_countBars : yX10_countBars.cls ≠ "java/lang/invoke/MethodHandle" ∧ yX10_countBars.cls ≠ "java/lang/invoke/VarHandle" ∧ (parseMethodDescriptor yX10_countBars.desc).map (fun d => d.parameters.length) = some 0 := by decide +kernel
set_option maxHeartbeats 4000000 in
set_option maxRecDepth 100000 in
theorem l_X10_countBars_L4 (C : CX p l e s m args meth c cX10_countBars 3 RX10 (Option.some Jvm.ClassFile.FieldType.int) E) {o : Nat} (ho : K o = some (9, 0)) {r : Int32} {w' : Wd} (k : Int32 → Int32 → Wd → Option (Int32 × Wd)) (hk : ∀ (v1_4 : Int32) (v2_4 : Int32) (w : Wd) (H : Heap) (locs : List Loc) (ls : Array Slot), HQ E K z w s H locs → lv_has ls 3 [(1, .int v1_4), (2, .int v2_4), (0, rv E (some o))] → k v1_4 v2_4 w = some (r, w') → W p l e ({ frames := 1, cells := 0, slots := 0, locals := 21 } : Room) s m args below meth c H locs 0 0 (MQ below (QI E K z w' r) args s 0 0 (hA E)) (F0 m 34 ls [])) : ∀ (n : Nat) (v1_4 : Int32) (v2_4 : Int32) (w : Wd) (H : Heap) (locs : List Loc) (ls : Array Slot), HQ E K z w s H locs → lv_has ls 3 [(1, .int v1_4), (2, .int v2_4), (0, rv E (some o))] → f_X10_countBars_L4 K o k n v1_4 v2_4 w = some (r, w') → W p l e ({ frames := 1, cells := 0, slots := 0, locals := 21 } : Room) s m args below meth c H locs 0 0 (MQ below (QI E K z w' r) args s 0 0 (hA E)) (F0 m 4 ls []) := by
  obtain ⟨hx, hb, hml, hown, hts, hKs, hT, hb0, hlocks, hret⟩ := id C
  intro n
  induction n with
  | zero =>
    intro v1_4 v2_4 w H locs ls hH hl hf
    cases hf
  | succ n ih =>
    intro v1_4 v2_4 w H locs ls hH hl hf
    rw [f_X10_countBars_L4] at hf
    refine lv_iload_n hx hb dX10_countBars_4 rfl (lv_at hl 1 rfl) ?_
    refine hl_aload_n hx hb dX10_countBars_5 rfl (lv_at hl 2 rfl) ?_
    refine g10_0 hx hb hts hown hKs hH rfl ho m2_119 dX10_countBars_6 ?_
    refine lv_iconst (v := 3) hx hb dX10_countBars_9 (by decide) ?_
    obtain ⟨a2, ha2, hf⟩ := bnd hf
    replace ha2 := chk_some ha2
    obtain ⟨q3, hq3, hf⟩ := bnd hf
    refine hcV_i hx hb hml hown hts hKs hT hb0 hH (As := [.int 3]) (rest := [.int v2_4]) (k_X9_size l E K H.size a2 3 w ha2.2 hq3) (gV m4_6 m3_151 m3_152 m1_2 m3_153) hd_X9_size ⟨Nat.le_of_ble_eq_true rfl, Nat.le_of_ble_eq_true rfl, rfl, rfl⟩ ha2.1 ha2.2 rfl rfl rfl hl.1 rfl (rcI rc0) rfl dX10_countBars_10 ⟨Nat.zero_le _, Nat.zero_le _⟩ (fun H locs hH => ?_)
    refine lv_icmp_ge (tgt := 34) hx hb dX10_countBars_13 (by decide) (fun c4 => ?_) (fun c4 => ?_)
    · replace hf := (if_pos c4).symm.trans hf
      exact hk v1_4 v2_4 _ _ _ _ hH (lv_sub hl [0, 1, 2] rfl) hf
    · replace hf := (if_neg c4).symm.trans hf
      refine lv_iload_n hx hb dX10_countBars_16 rfl (lv_at hl 0 rfl) ?_
      refine hl_aload_n hx hb dX10_countBars_17 rfl (lv_at hl 2 rfl) ?_
      refine g10_4 hx hb hts hown hKs hH rfl ho m2_130 dX10_countBars_18 ?_
      refine lv_iload_n hx hb dX10_countBars_21 rfl (lv_at hl 1 rfl) ?_
      obtain ⟨a5, ha5, hf⟩ := bnd hf
      replace ha5 := cha_some ha5
      obtain ⟨j6, hj6, hf⟩ := bnd hf
      refine hw_iald hx hb hKs hH ha5.1 ha5.2 hj6 dX10_countBars_22 ?_
      obtain ⟨q7, hq7, hf⟩ := bnd hf
      refine hcS_i hx hb hml hown hts hKs hT hb0 hH (As := [.int ((aI q3.2 a5.1 j6))]) (rest := [.int v1_4]) (k_J6_bitCount_0f7a4 l E K H.size (aI q3.2 a5.1 j6) q3.2 hq7) (gS m4_7 m4_8 m1_23 m4_9) hs_J6_bitCount_0f7a4 ⟨Nat.le_of_ble_eq_true rfl, Nat.le_of_ble_eq_true rfl, rfl, rfl⟩ hl.1 rfl (rcI rc0) rfl dX10_countBars_23 ⟨Nat.zero_le _, Nat.zero_le _⟩ (fun H locs hH => ?_)
      refine lv_iadd hx hb dX10_countBars_26 ?_
      refine lv_istore_n (i := 1) (lv' := [(1, .int ((v1_4 + q7.1))), (2, .int v2_4), (0, rv E (some o))]) hx hb dX10_countBars_27 rfl hl (by decide) rfl (fun ls hl => ?_)
      refine lv_iinc (v := (v2_4 + 1)) (lv' := [(2, .int ((v2_4 + 1))), (1, .int ((v1_4 + q7.1))), (0, rv E (some o))]) hx hb dX10_countBars_28 hl (k := 1) rfl rfl (by decide) rfl (fun ls hl => ?_)
      refine lv_goto (tgt := 4) hx hb dX10_countBars_31 (by decide) ?_
      exact ih (v1_4 + q7.1) (v2_4 + 1) _ _ _ _ hH (lv_sub hl [1, 0, 2] rfl) hf
set_option maxHeartbeats 4000000 in
set_option maxRecDepth 100000 in
theorem k_X10_countBars (l : Launch) (E : Ev) (K : Kd) (z : Nat) (o : Nat) (w : Wd) (ho : K o = some (9, 0)) {r : Int32} {w' : Wd} (hf : f_X10_countBars K o w = some (r, w')) : Met l yX10_countBars (Cond.code yX10_countBars cX10_countBars 3 (Option.some Jvm.ClassFile.FieldType.int) :: bt) ({ frames := 1, cells := 0, slots := 0, locals := 21 } : Room) (va_Pc [rv E (some o)] (HB E K w z)) (QI E K z w' r) 0 0 (hA E) := by
  refine Met.ofW (cc := cX10_countBars) (maxL := 3) (ret := (Option.some Jvm.ClassFile.FieldType.int)) (by decide) rfl ?_
  intro p e s m args below meth c s₁ B hml hv
  obtain ⟨rfl, hz, hP, hKs, hT, hb0⟩ := hv
  have C : CX p l e s m _ meth c cX10_countBars 3 RX10 (Option.some Jvm.ClassFile.FieldType.int) E := ⟨B.exec, B.bytes, hml, findClass_of_methodNamed B.named, fun w h => atoms_spec (ws := Cond.code yX10_countBars cX10_countBars 3 (Option.some Jvm.ClassFile.FieldType.int) :: bt) B.pre w (List.mem_cons_of_mem _ h), hKs, hT, by rw [hz]; exact hb0, B.notSynchronized, B.returns⟩
  have hH : HQ E K z w s s.heap [] := ⟨hP, va_S.rf, hz⟩
  obtain ⟨hx, hb, hml, hown, hts, hKs, hT, hb0, hlocks, hret⟩ := id C
  have hl := lv_entry [rv E (some o)] (n := 3) (by simp [lg_len_nil, lg_len_i, lg_len_j, lg_len_q, lg_len_f, lg_len_d, lg_len_r])
  rw [lg_entry_eq]
  generalize (lg_sl [rv E (some o)] ++ List.replicate (3 - (lg_sl [rv E (some o)]).length) Slot.unset).toArray = ls at hl ⊢
  replace hl : lv_has ls 3 [(0, rv E (some o))] := by simpa only [lv_args, cat_q, cat_i, cat_j, reduceIte, Nat.reduceEqDiff, Nat.reduceAdd, Nat.zero_add] using hl
  generalize s.heap = H at hH ⊢
  unfold f_X10_countBars at hf
  refine lv_iconst (v := 0) hx hb dX10_countBars_0 (by decide) ?_
  refine lv_istore_n (i := 1) (lv' := [(1, .int 0), (0, rv E (some o))]) hx hb dX10_countBars_1 rfl hl (by decide) rfl (fun ls hl => ?_)
  refine lv_iconst (v := 0) hx hb dX10_countBars_2 (by decide) ?_
  refine lv_istore_n (i := 2) (lv' := [(2, .int 0), (1, .int 0), (0, rv E (some o))]) hx hb dX10_countBars_3 rfl hl (by decide) rfl (fun ls hl => ?_)
  refine l_X10_countBars_L4  C ho _ (fun v1_4 v2_4 w1 H locs ls hH hl hf => ?_) fu 0 0 w _ _ _ hH (lv_sub hl [1, 0, 2] rfl) hf
  refine lv_iload_n hx hb dX10_countBars_34 rfl (lv_at hl 0 rfl) ?_
  exact hw_iret hx hb hret hf hH hlocks dX10_countBars_35

theorem dX10_caseTaking_0 : decode cX10_caseTaking 0 = .ok (.iconst 0, 1) := by decide +kernel
theorem dX10_caseTaking_1 : decode cX10_caseTaking 1 = .ok (.istore 4, 2) := by decide +kernel
theorem dX10_caseTaking_3 : decode cX10_caseTaking 3 = .ok (.iload 4, 2) := by decide +kernel
theorem dX10_caseTaking_5 : decode cX10_caseTaking 5 = .ok (.aload_n 0, 1) := by decide +kernel
theorem dX10_caseTaking_6 : decode cX10_caseTaking 6 = .ok (.getfield 31, 3) := by decide +kernel
theorem dX10_caseTaking_9 : decode cX10_caseTaking 9 = .ok (.iconst 3, 1) := by decide +kernel
theorem dX10_caseTaking_10 : decode cX10_caseTaking 10 = .ok (.invokevirtual 92, 3) := by decide +kernel
theorem dX10_caseTaking_13 : decode cX10_caseTaking 13 = .ok (.if_icmp .ge 53, 3) := by decide +kernel
theorem dX10_caseTaking_16 : decode cX10_caseTaking 16 = .ok (.aload_n 0, 1) := by decide +kernel
theorem dX10_caseTaking_17 : decode cX10_caseTaking 17 = .ok (.getfield 27, 3) := by decide +kernel
theorem dX10_caseTaking_20 : decode cX10_caseTaking 20 = .ok (.iload 4, 2) := by decide +kernel
theorem dX10_caseTaking_22 : decode cX10_caseTaking 22 = .ok (.aaload, 1) := by decide +kernel
theorem dX10_caseTaking_23 : decode cX10_caseTaking 23 = .ok (.iload_n 2, 1) := by decide +kernel
theorem dX10_caseTaking_24 : decode cX10_caseTaking 24 = .ok (.invokevirtual 120, 3) := by decide +kernel
theorem dX10_caseTaking_27 : decode cX10_caseTaking 27 = .ok (.ifCond .eq 33, 3) := by decide +kernel
theorem dX10_caseTaking_30 : decode cX10_caseTaking 30 = .ok (.aload_n 0, 1) := by decide +kernel
theorem dX10_caseTaking_31 : decode cX10_caseTaking 31 = .ok (.getfield 27, 3) := by decide +kernel
theorem dX10_caseTaking_34 : decode cX10_caseTaking 34 = .ok (.iload 4, 2) := by decide +kernel
theorem dX10_caseTaking_36 : decode cX10_caseTaking 36 = .ok (.aaload, 1) := by decide +kernel
theorem dX10_caseTaking_37 : decode cX10_caseTaking 37 = .ok (.getfield 116, 3) := by decide +kernel
theorem dX10_caseTaking_40 : decode cX10_caseTaking 40 = .ok (.iload_n 1, 1) := by decide +kernel
theorem dX10_caseTaking_41 : decode cX10_caseTaking 41 = .ok (.if_icmp .ne 19, 3) := by decide +kernel
theorem dX10_caseTaking_44 : decode cX10_caseTaking 44 = .ok (.aload_n 0, 1) := by decide +kernel
theorem dX10_caseTaking_45 : decode cX10_caseTaking 45 = .ok (.iload 4, 2) := by decide +kernel
theorem dX10_caseTaking_47 : decode cX10_caseTaking 47 = .ok (.invokevirtual 123, 3) := by decide +kernel
theorem dX10_caseTaking_50 : decode cX10_caseTaking 50 = .ok (.iload_n 3, 1) := by decide +kernel
theorem dX10_caseTaking_51 : decode cX10_caseTaking 51 = .ok (.invokestatic 106, 3) := by decide +kernel
theorem dX10_caseTaking_54 : decode cX10_caseTaking 54 = .ok (.ifCond .eq 6, 3) := by decide +kernel
theorem dX10_caseTaking_57 : decode cX10_caseTaking 57 = .ok (.iload 4, 2) := by decide +kernel
theorem dX10_caseTaking_59 : decode cX10_caseTaking 59 = .ok (.ireturn, 1) := by decide +kernel
theorem dX10_caseTaking_60 : decode cX10_caseTaking 60 = .ok (.iinc 4 1, 3) := by decide +kernel
theorem dX10_caseTaking_63 : decode cX10_caseTaking 63 = .ok (.goto (-60), 3) := by decide +kernel
theorem dX10_caseTaking_66 : decode cX10_caseTaking 66 = .ok (.iconst (-1), 1) := by decide +kernel
theorem dX10_caseTaking_67 : decode cX10_caseTaking 67 = .ok (.ireturn, 1) := by decide +kernel
theorem hd_X10_caseTaking : yX10_caseTaking.cls = RX10 ∧ yX10_caseTaking.cls ≠ "java/lang/invoke/MethodHandle" ∧ yX10_caseTaking.cls ≠ "java/lang/invoke/VarHandle" ∧ (parseMethodDescriptor yX10_caseTaking.desc).map (fun d => d.parameters.length) = some 3 := by decide +kernel
theorem hs_X10_caseTaking : yX10_caseTaking.cls ≠ "java/lang/invoke/MethodHandle" ∧ yX10_caseTaking.cls ≠ "java/lang/invoke/VarHandle" ∧ (parseMethodDescriptor yX10_caseTaking.desc).map (fun d => d.parameters.length) = some 3 := by decide +kernel
set_option maxHeartbeats 4000000 in
set_option maxRecDepth 100000 in
theorem l_X10_caseTaking_L3 (C : CX p l e s m args meth c cX10_caseTaking 5 RX10 (Option.some Jvm.ClassFile.FieldType.int) E) {o : Nat} (ho : K o = some (9, 0)) {r : Int32} {w' : Wd} (k : Int32 → Int32 → Int32 → Int32 → Wd → Option (Int32 × Wd)) (hk : ∀ (v1_3 : Int32) (v2_3 : Int32) (v3_3 : Int32) (v4_3 : Int32) (w : Wd) (H : Heap) (locs : List Loc) (ls : Array Slot), HQ E K z w s H locs → lv_has ls 5 [(1, .int v1_3), (2, .int v2_3), (3, .int v3_3), (4, .int v4_3), (0, rv E (some o))] → k v1_3 v2_3 v3_3 v4_3 w = some (r, w') → W p l e ({ frames := 2, cells := 0, slots := 0, locals := 42 } : Room) s m args below meth c H locs 0 0 (MQ below (QI E K z w' r) args s 0 0 (hA E)) (F0 m 66 ls [])) : ∀ (n : Nat) (v1_3 : Int32) (v2_3 : Int32) (v3_3 : Int32) (v4_3 : Int32) (w : Wd) (H : Heap) (locs : List Loc) (ls : Array Slot), HQ E K z w s H locs → lv_has ls 5 [(1, .int v1_3), (2, .int v2_3), (3, .int v3_3), (4, .int v4_3), (0, rv E (some o))] → f_X10_caseTaking_L3 K o k n v1_3 v2_3 v3_3 v4_3 w = some (r, w') → W p l e ({ frames := 2, cells := 0, slots := 0, locals := 42 } : Room) s m args below meth c H locs 0 0 (MQ below (QI E K z w' r) args s 0 0 (hA E)) (F0 m 3 ls []) := by
  obtain ⟨hx, hb, hml, hown, hts, hKs, hT, hb0, hlocks, hret⟩ := id C
  intro n
  induction n with
  | zero =>
    intro v1_3 v2_3 v3_3 v4_3 w H locs ls hH hl hf
    cases hf
  | succ n ih =>
    intro v1_3 v2_3 v3_3 v4_3 w H locs ls hH hl hf
    rw [f_X10_caseTaking_L3] at hf
    refine lv_iload hx hb dX10_caseTaking_3 (lv_at hl 3 rfl) ?_
    refine hl_aload_n hx hb dX10_caseTaking_5 rfl (lv_at hl 4 rfl) ?_
    refine g10_0 hx hb hts hown hKs hH rfl ho m2_119 dX10_caseTaking_6 ?_
    refine lv_iconst (v := 3) hx hb dX10_caseTaking_9 (by decide) ?_
    obtain ⟨a2, ha2, hf⟩ := bnd hf
    replace ha2 := chk_some ha2
    obtain ⟨q3, hq3, hf⟩ := bnd hf
    refine hcV_i hx hb hml hown hts hKs hT hb0 hH (As := [.int 3]) (rest := [.int v4_3]) (k_X9_size l E K H.size a2 3 w ha2.2 hq3) (gV m4_6 m3_151 m3_152 m1_2 m3_153) hd_X9_size ⟨Nat.le_of_ble_eq_true rfl, Nat.le_of_ble_eq_true rfl, rfl, rfl⟩ ha2.1 ha2.2 rfl rfl rfl hl.1 rfl (rcI rc0) rfl dX10_caseTaking_10 ⟨Nat.zero_le _, Nat.zero_le _⟩ (fun H locs hH => ?_)
    refine lv_icmp_ge (tgt := 66) hx hb dX10_caseTaking_13 (by decide) (fun c4 => ?_) (fun c4 => ?_)
    · replace hf := (if_pos c4).symm.trans hf
      exact hk v1_3 v2_3 v3_3 v4_3 _ _ _ _ hH (lv_sub hl [0, 1, 2, 3, 4] rfl) hf
    · replace hf := (if_neg c4).symm.trans hf
      refine hl_aload_n hx hb dX10_caseTaking_16 rfl (lv_at hl 4 rfl) ?_
      refine g10_5 hx hb hts hown hKs hH rfl ho m2_133 dX10_caseTaking_17 ?_
      refine lv_iload hx hb dX10_caseTaking_20 (lv_at hl 3 rfl) ?_
      obtain ⟨a5, ha5, hf⟩ := bnd hf
      replace ha5 := cha_some ha5
      obtain ⟨j6, hj6, hf⟩ := bnd hf
      refine hw_aald27 hx hb hKs hH ha5.1 ha5.2 hj6 dX10_caseTaking_22 ?_
      refine lv_iload_n hx hb dX10_caseTaking_23 rfl (lv_at hl 1 rfl) ?_
      obtain ⟨a7, ha7, hf⟩ := bnd hf
      replace ha7 := chk_some ha7
      obtain ⟨q8, hq8, hf⟩ := bnd hf
      refine hcV_i hx hb hml hown hts hKs hT hb0 hH (As := [.int v2_3]) (rest := []) (k_X7_isOn l E K H.size a7 v2_3 q3.2 ha7.2 hq8) (gV m5_176 m4_161 m4_162 m1_13 m4_163) hd_X7_isOn ⟨Nat.le_of_ble_eq_true rfl, Nat.le_of_ble_eq_true rfl, rfl, rfl⟩ ha7.1 ha7.2 rfl rfl rfl hl.1 rfl rc0 rfl dX10_caseTaking_24 ⟨Nat.zero_le _, Nat.zero_le _⟩ (fun H locs hH => ?_)
      refine lv_if_eq (tgt := 60) hx hb dX10_caseTaking_27 (by decide) (fun c9 => ?_) (fun c9 => ?_)
      · replace hf := (if_pos c9).symm.trans hf
        refine lv_iinc (v := (v4_3 + 1)) (lv' := [(4, .int ((v4_3 + 1))), (1, .int v1_3), (2, .int v2_3), (3, .int v3_3), (0, rv E (some o))]) hx hb dX10_caseTaking_60 hl (k := 3) rfl rfl (by decide) rfl (fun ls hl => ?_)
        refine lv_goto (tgt := 3) hx hb dX10_caseTaking_63 (by decide) ?_
        exact ih v1_3 v2_3 v3_3 (v4_3 + 1) _ _ _ _ hH (lv_sub hl [1, 2, 3, 0, 4] rfl) hf
      · replace hf := (if_neg c9).symm.trans hf
        refine hl_aload_n hx hb dX10_caseTaking_30 rfl (lv_at hl 4 rfl) ?_
        refine g10_5 hx hb hts hown hKs hH rfl ho m2_133 dX10_caseTaking_31 ?_
        refine lv_iload hx hb dX10_caseTaking_34 (lv_at hl 3 rfl) ?_
        obtain ⟨a10, ha10, hf⟩ := bnd hf
        replace ha10 := cha_some ha10
        obtain ⟨j11, hj11, hf⟩ := bnd hf
        refine hw_aald27 hx hb hKs hH ha10.1 ha10.2 hj11 dX10_caseTaking_36 ?_
        obtain ⟨a12, ha12, hf⟩ := bnd hf
        replace ha12 := chk_some ha12
        refine gn7_4 hx hb hts hown hKs hH ha12.1 ha12.2 m2_82 dX10_caseTaking_37 ?_
        refine lv_iload_n hx hb dX10_caseTaking_40 rfl (lv_at hl 0 rfl) ?_
        refine lv_icmp_ne (tgt := 60) hx hb dX10_caseTaking_41 (by decide) (fun c13 => ?_) (fun c13 => ?_)
        · replace hf := (if_neg c13).symm.trans hf
          refine lv_iinc (v := (v4_3 + 1)) (lv' := [(4, .int ((v4_3 + 1))), (1, .int v1_3), (2, .int v2_3), (3, .int v3_3), (0, rv E (some o))]) hx hb dX10_caseTaking_60 hl (k := 3) rfl rfl (by decide) rfl (fun ls hl => ?_)
          refine lv_goto (tgt := 3) hx hb dX10_caseTaking_63 (by decide) ?_
          exact ih v1_3 v2_3 v3_3 (v4_3 + 1) _ _ _ _ hH (lv_sub hl [1, 2, 3, 0, 4] rfl) hf
        · replace hf := (if_pos c13).symm.trans hf
          refine hl_aload_n hx hb dX10_caseTaking_44 rfl (lv_at hl 4 rfl) ?_
          refine lv_iload hx hb dX10_caseTaking_45 (lv_at hl 3 rfl) ?_
          obtain ⟨q14, hq14, hf⟩ := bnd hf
          refine hcV_i hx hb hml hown hts hKs hT hb0 hH (As := [.int v4_3]) (rest := []) (k_X10_slotsOf l E K H.size o v4_3 q8.2 ho hq14) (gV m5_177 m4_165 m4_166 m1_12 m4_167) hd_X10_slotsOf ⟨Nat.le_of_ble_eq_true rfl, Nat.le_of_ble_eq_true rfl, rfl, rfl⟩ rfl ho rfl rfl rfl hl.1 rfl rc0 rfl dX10_caseTaking_47 ⟨Nat.zero_le _, Nat.zero_le _⟩ (fun H locs hH => ?_)
          refine lv_iload_n hx hb dX10_caseTaking_50 rfl (lv_at hl 2 rfl) ?_
          obtain ⟨q15, hq15, hf⟩ := bnd hf
          refine hcM_i hx hb hml hown hts hKs hT hb0 hH (As := [.int (q14.1), .int v3_3]) (rest := []) (k_X12_has l E K H.size q14.1 v3_3 q14.2 hq15) m4_122 m3_194 m1_1 m3_195 hs_X12_has ⟨Nat.le_of_ble_eq_true rfl, Nat.le_of_ble_eq_true rfl, rfl, rfl⟩ hl.1 rfl rc0 rfl dX10_caseTaking_51 ⟨Nat.zero_le _, Nat.zero_le _⟩ (fun H locs hH => ?_)
          refine lv_if_eq (tgt := 60) hx hb dX10_caseTaking_54 (by decide) (fun c16 => ?_) (fun c16 => ?_)
          · replace hf := (if_pos c16).symm.trans hf
            refine lv_iinc (v := (v4_3 + 1)) (lv' := [(4, .int ((v4_3 + 1))), (1, .int v1_3), (2, .int v2_3), (3, .int v3_3), (0, rv E (some o))]) hx hb dX10_caseTaking_60 hl (k := 3) rfl rfl (by decide) rfl (fun ls hl => ?_)
            refine lv_goto (tgt := 3) hx hb dX10_caseTaking_63 (by decide) ?_
            exact ih v1_3 v2_3 v3_3 (v4_3 + 1) _ _ _ _ hH (lv_sub hl [1, 2, 3, 0, 4] rfl) hf
          · replace hf := (if_neg c16).symm.trans hf
            refine lv_iload hx hb dX10_caseTaking_57 (lv_at hl 3 rfl) ?_
            exact hw_iret hx hb hret hf hH hlocks dX10_caseTaking_59
set_option maxHeartbeats 4000000 in
set_option maxRecDepth 100000 in
theorem k_X10_caseTaking (l : Launch) (E : Ev) (K : Kd) (z : Nat) (o : Nat) (a_1 : Int32) (a_2 : Int32) (a_3 : Int32) (w : Wd) (ho : K o = some (9, 0)) {r : Int32} {w' : Wd} (hf : f_X10_caseTaking K o a_1 a_2 a_3 w = some (r, w')) : Met l yX10_caseTaking (Cond.code yX10_caseTaking cX10_caseTaking 5 (Option.some Jvm.ClassFile.FieldType.int) :: bt) ({ frames := 2, cells := 0, slots := 0, locals := 42 } : Room) (va_Pc [rv E (some o), .int a_1, .int a_2, .int a_3] (HB E K w z)) (QI E K z w' r) 0 0 (hA E) := by
  refine Met.ofW (cc := cX10_caseTaking) (maxL := 5) (ret := (Option.some Jvm.ClassFile.FieldType.int)) (by decide) rfl ?_
  intro p e s m args below meth c s₁ B hml hv
  obtain ⟨rfl, hz, hP, hKs, hT, hb0⟩ := hv
  have C : CX p l e s m _ meth c cX10_caseTaking 5 RX10 (Option.some Jvm.ClassFile.FieldType.int) E := ⟨B.exec, B.bytes, hml, findClass_of_methodNamed B.named, fun w h => atoms_spec (ws := Cond.code yX10_caseTaking cX10_caseTaking 5 (Option.some Jvm.ClassFile.FieldType.int) :: bt) B.pre w (List.mem_cons_of_mem _ h), hKs, hT, by rw [hz]; exact hb0, B.notSynchronized, B.returns⟩
  have hH : HQ E K z w s s.heap [] := ⟨hP, va_S.rf, hz⟩
  obtain ⟨hx, hb, hml, hown, hts, hKs, hT, hb0, hlocks, hret⟩ := id C
  have hl := lv_entry [rv E (some o), .int a_1, .int a_2, .int a_3] (n := 5) (by simp [lg_len_nil, lg_len_i, lg_len_j, lg_len_q, lg_len_f, lg_len_d, lg_len_r])
  rw [lg_entry_eq]
  generalize (lg_sl [rv E (some o), .int a_1, .int a_2, .int a_3] ++ List.replicate (5 - (lg_sl [rv E (some o), .int a_1, .int a_2, .int a_3]).length) Slot.unset).toArray = ls at hl ⊢
  replace hl : lv_has ls 5 [(0, rv E (some o)), (1, .int a_1), (2, .int a_2), (3, .int a_3)] := by simpa only [lv_args, cat_q, cat_i, cat_j, reduceIte, Nat.reduceEqDiff, Nat.reduceAdd, Nat.zero_add] using hl
  generalize s.heap = H at hH ⊢
  unfold f_X10_caseTaking at hf
  refine lv_iconst (v := 0) hx hb dX10_caseTaking_0 (by decide) ?_
  refine lv_istore (i := 4) (lv' := [(4, .int 0), (0, rv E (some o)), (1, .int a_1), (2, .int a_2), (3, .int a_3)]) hx hb dX10_caseTaking_1 hl (by decide) rfl (fun ls hl => ?_)
  refine l_X10_caseTaking_L3  C ho _ (fun v1_3 v2_3 v3_3 v4_3 w1 H locs ls hH hl hf => ?_) fu a_1 a_2 a_3 0 w _ _ _ hH (lv_sub hl [2, 3, 4, 0, 1] rfl) hf
  refine lv_iconst (v := (-1)) hx hb dX10_caseTaking_66 (by decide) ?_
  exact hw_iret hx hb hret hf hH hlocks dX10_caseTaking_67

theorem dX10_sortWaiting_0 : decode cX10_sortWaiting 0 = .ok (.iconst 0, 1) := by decide +kernel
theorem dX10_sortWaiting_1 : decode cX10_sortWaiting 1 = .ok (.istore_n 2, 1) := by decide +kernel
theorem dX10_sortWaiting_2 : decode cX10_sortWaiting 2 = .ok (.iconst 0, 1) := by decide +kernel
theorem dX10_sortWaiting_3 : decode cX10_sortWaiting 3 = .ok (.istore_n 3, 1) := by decide +kernel
theorem dX10_sortWaiting_4 : decode cX10_sortWaiting 4 = .ok (.iload_n 3, 1) := by decide +kernel
theorem dX10_sortWaiting_5 : decode cX10_sortWaiting 5 = .ok (.aload_n 0, 1) := by decide +kernel
theorem dX10_sortWaiting_6 : decode cX10_sortWaiting 6 = .ok (.getfield 31, 3) := by decide +kernel
theorem dX10_sortWaiting_9 : decode cX10_sortWaiting 9 = .ok (.iconst 3, 1) := by decide +kernel
theorem dX10_sortWaiting_10 : decode cX10_sortWaiting 10 = .ok (.invokevirtual 92, 3) := by decide +kernel
theorem dX10_sortWaiting_13 : decode cX10_sortWaiting 13 = .ok (.if_icmp .ge 40, 3) := by decide +kernel
theorem dX10_sortWaiting_16 : decode cX10_sortWaiting 16 = .ok (.iload_n 2, 1) := by decide +kernel
theorem dX10_sortWaiting_17 : decode cX10_sortWaiting 17 = .ok (.aload_n 1, 1) := by decide +kernel
theorem dX10_sortWaiting_18 : decode cX10_sortWaiting 18 = .ok (.arraylength, 1) := by decide +kernel
theorem dX10_sortWaiting_19 : decode cX10_sortWaiting 19 = .ok (.if_icmp .ge 34, 3) := by decide +kernel
theorem dX10_sortWaiting_22 : decode cX10_sortWaiting 22 = .ok (.aload_n 0, 1) := by decide +kernel
theorem dX10_sortWaiting_23 : decode cX10_sortWaiting 23 = .ok (.getfield 27, 3) := by decide +kernel
theorem dX10_sortWaiting_26 : decode cX10_sortWaiting 26 = .ok (.iload_n 3, 1) := by decide +kernel
theorem dX10_sortWaiting_27 : decode cX10_sortWaiting 27 = .ok (.aaload, 1) := by decide +kernel
theorem dX10_sortWaiting_28 : decode cX10_sortWaiting 28 = .ok (.getfield 95, 3) := by decide +kernel
theorem dX10_sortWaiting_31 : decode cX10_sortWaiting 31 = .ok (.ifCond .ne 16, 3) := by decide +kernel
theorem dX10_sortWaiting_34 : decode cX10_sortWaiting 34 = .ok (.aload_n 1, 1) := by decide +kernel
theorem dX10_sortWaiting_35 : decode cX10_sortWaiting 35 = .ok (.iload_n 2, 1) := by decide +kernel
theorem dX10_sortWaiting_36 : decode cX10_sortWaiting 36 = .ok (.aload_n 0, 1) := by decide +kernel
theorem dX10_sortWaiting_37 : decode cX10_sortWaiting 37 = .ok (.iload_n 3, 1) := by decide +kernel
theorem dX10_sortWaiting_38 : decode cX10_sortWaiting 38 = .ok (.invokevirtual 144, 3) := by decide +kernel
theorem dX10_sortWaiting_41 : decode cX10_sortWaiting 41 = .ok (.invokestatic 147, 3) := by decide +kernel
theorem dX10_sortWaiting_44 : decode cX10_sortWaiting 44 = .ok (.iinc 2 1, 3) := by decide +kernel
theorem dX10_sortWaiting_47 : decode cX10_sortWaiting 47 = .ok (.iinc 3 1, 3) := by decide +kernel
theorem dX10_sortWaiting_50 : decode cX10_sortWaiting 50 = .ok (.goto (-46), 3) := by decide +kernel
theorem dX10_sortWaiting_53 : decode cX10_sortWaiting 53 = .ok (.iconst 0, 1) := by decide +kernel
theorem dX10_sortWaiting_54 : decode cX10_sortWaiting 54 = .ok (.istore_n 3, 1) := by decide +kernel
theorem dX10_sortWaiting_55 : decode cX10_sortWaiting 55 = .ok (.iload_n 3, 1) := by decide +kernel
theorem dX10_sortWaiting_56 : decode cX10_sortWaiting 56 = .ok (.iload_n 2, 1) := by decide +kernel
theorem dX10_sortWaiting_57 : decode cX10_sortWaiting 57 = .ok (.if_icmp .ge 17, 3) := by decide +kernel
theorem dX10_sortWaiting_60 : decode cX10_sortWaiting 60 = .ok (.aload_n 1, 1) := by decide +kernel
theorem dX10_sortWaiting_61 : decode cX10_sortWaiting 61 = .ok (.iload_n 3, 1) := by decide +kernel
theorem dX10_sortWaiting_62 : decode cX10_sortWaiting 62 = .ok (.dup2, 1) := by decide +kernel
theorem dX10_sortWaiting_63 : decode cX10_sortWaiting 63 = .ok (.iaload, 1) := by decide +kernel
theorem dX10_sortWaiting_64 : decode cX10_sortWaiting 64 = .ok (.bipush 12, 2) := by decide +kernel
theorem dX10_sortWaiting_66 : decode cX10_sortWaiting 66 = .ok (.irem, 1) := by decide +kernel
theorem dX10_sortWaiting_67 : decode cX10_sortWaiting 67 = .ok (.iastore, 1) := by decide +kernel
theorem dX10_sortWaiting_68 : decode cX10_sortWaiting 68 = .ok (.iinc 3 1, 3) := by decide +kernel
theorem dX10_sortWaiting_71 : decode cX10_sortWaiting 71 = .ok (.goto (-16), 3) := by decide +kernel
theorem dX10_sortWaiting_74 : decode cX10_sortWaiting 74 = .ok (.iload_n 2, 1) := by decide +kernel
theorem dX10_sortWaiting_75 : decode cX10_sortWaiting 75 = .ok (.ireturn, 1) := by decide +kernel
theorem hd_X10_sortWaiting : yX10_sortWaiting.cls = RX10 ∧ yX10_sortWaiting.cls ≠ "java/lang/invoke/MethodHandle" ∧ yX10_sortWaiting.cls ≠ "java/lang/invoke/VarHandle" ∧ (parseMethodDescriptor yX10_sortWaiting.desc).map (fun d => d.parameters.length) = some 1 := by decide +kernel
theorem hs_X10_sortWaiting : yX10_sortWaiting.cls ≠ "java/lang/invoke/MethodHandle" ∧ yX10_sortWaiting.cls ≠ "java/lang/invoke/VarHandle" ∧ (parseMethodDescriptor yX10_sortWaiting.desc).map (fun d => d.parameters.length) = some 1 := by decide +kernel
set_option maxHeartbeats 4000000 in
set_option maxRecDepth 100000 in
theorem l_X10_sortWaiting_L4 (C : CX p l e s m args meth c cX10_sortWaiting 4 RX10 (Option.some Jvm.ClassFile.FieldType.int) E) {o : Nat} (ho : K o = some (9, 0)) {r : Int32} {w' : Wd} (k : Option Nat → Int32 → Int32 → Wd → Option (Int32 × Wd)) (hk : ∀ (v1_4 : Option Nat) (v2_4 : Int32) (v3_4 : Int32) (w : Wd) (H : Heap) (locs : List Loc) (ls : Array Slot), HQ E K z w s H locs → lv_has ls 4 [(1, rv E v1_4), (2, .int v2_4), (3, .int v3_4), (0, rv E (some o))] → k v1_4 v2_4 v3_4 w = some (r, w') → W p l e ({ frames := 4, cells := 0, slots := 0, locals := 88 } : Room) s m args below meth c H locs 0 0 (MQ below (QI E K z w' r) args s 0 0 (hA E)) (F0 m 53 ls [])) : ∀ (n : Nat) (v1_4 : Option Nat) (v2_4 : Int32) (v3_4 : Int32) (w : Wd) (H : Heap) (locs : List Loc) (ls : Array Slot), HQ E K z w s H locs → lv_has ls 4 [(1, rv E v1_4), (2, .int v2_4), (3, .int v3_4), (0, rv E (some o))] → f_X10_sortWaiting_L4 K o k n v1_4 v2_4 v3_4 w = some (r, w') → W p l e ({ frames := 4, cells := 0, slots := 0, locals := 88 } : Room) s m args below meth c H locs 0 0 (MQ below (QI E K z w' r) args s 0 0 (hA E)) (F0 m 4 ls []) := by
  obtain ⟨hx, hb, hml, hown, hts, hKs, hT, hb0, hlocks, hret⟩ := id C
  intro n
  induction n with
  | zero =>
    intro v1_4 v2_4 v3_4 w H locs ls hH hl hf
    cases hf
  | succ n ih =>
    intro v1_4 v2_4 v3_4 w H locs ls hH hl hf
    rw [f_X10_sortWaiting_L4] at hf
    refine lv_iload_n hx hb dX10_sortWaiting_4 rfl (lv_at hl 2 rfl) ?_
    refine hl_aload_n hx hb dX10_sortWaiting_5 rfl (lv_at hl 3 rfl) ?_
    refine g10_0 hx hb hts hown hKs hH rfl ho m2_119 dX10_sortWaiting_6 ?_
    refine lv_iconst (v := 3) hx hb dX10_sortWaiting_9 (by decide) ?_
    obtain ⟨a2, ha2, hf⟩ := bnd hf
    replace ha2 := chk_some ha2
    obtain ⟨q3, hq3, hf⟩ := bnd hf
    refine hcV_i hx hb hml hown hts hKs hT hb0 hH (As := [.int 3]) (rest := [.int v3_4]) (k_X9_size l E K H.size a2 3 w ha2.2 hq3) (gV m4_6 m3_151 m3_152 m1_2 m3_153) hd_X9_size ⟨Nat.le_of_ble_eq_true rfl, Nat.le_of_ble_eq_true rfl, rfl, rfl⟩ ha2.1 ha2.2 rfl rfl rfl hl.1 rfl (rcI rc0) rfl dX10_sortWaiting_10 ⟨Nat.zero_le _, Nat.zero_le _⟩ (fun H locs hH => ?_)
    refine lv_icmp_ge (tgt := 53) hx hb dX10_sortWaiting_13 (by decide) (fun c4 => ?_) (fun c4 => ?_)
    · replace hf := (if_pos c4).symm.trans hf
      exact hk v1_4 v2_4 v3_4 _ _ _ _ hH (lv_sub hl [0, 1, 2, 3] rfl) hf
    · replace hf := (if_neg c4).symm.trans hf
      refine lv_iload_n hx hb dX10_sortWaiting_16 rfl (lv_at hl 1 rfl) ?_
      refine hl_aload_n hx hb dX10_sortWaiting_17 rfl (lv_at hl 0 rfl) ?_
      obtain ⟨a5, ha5, hf⟩ := bnd hf
      replace ha5 := cha_some ha5
      refine hw_alen20 hx hb hKs hH ha5.1 ha5.2 dX10_sortWaiting_18 ?_
      refine lv_icmp_ge (tgt := 53) hx hb dX10_sortWaiting_19 (by decide) (fun c6 => ?_) (fun c6 => ?_)
      · replace hf := (if_pos c6).symm.trans hf
        exact hk v1_4 v2_4 v3_4 _ _ _ _ hH (lv_sub hl [0, 1, 2, 3] rfl) hf
      · replace hf := (if_neg c6).symm.trans hf
        refine hl_aload_n hx hb dX10_sortWaiting_22 rfl (lv_at hl 3 rfl) ?_
        refine g10_5 hx hb hts hown hKs hH rfl ho m2_133 dX10_sortWaiting_23 ?_
        refine lv_iload_n hx hb dX10_sortWaiting_26 rfl (lv_at hl 2 rfl) ?_
        obtain ⟨a7, ha7, hf⟩ := bnd hf
        replace ha7 := cha_some ha7
        obtain ⟨j8, hj8, hf⟩ := bnd hf
        refine hw_aald27 hx hb hKs hH ha7.1 ha7.2 hj8 dX10_sortWaiting_27 ?_
        obtain ⟨a9, ha9, hf⟩ := bnd hf
        replace ha9 := chk_some ha9
        refine gn7_0 hx hb hts hown hKs hH ha9.1 ha9.2 m2_70 dX10_sortWaiting_28 ?_
        refine lv_if_ne (tgt := 47) hx hb dX10_sortWaiting_31 (by decide) (fun c10 => ?_) (fun c10 => ?_)
        · replace hf := (if_neg c10).symm.trans hf
          refine lv_iinc (v := (v3_4 + 1)) (lv' := [(3, .int ((v3_4 + 1))), (1, rv E v1_4), (2, .int v2_4), (0, rv E (some o))]) hx hb dX10_sortWaiting_47 hl (k := 2) rfl rfl (by decide) rfl (fun ls hl => ?_)
          refine lv_goto (tgt := 4) hx hb dX10_sortWaiting_50 (by decide) ?_
          exact ih v1_4 v2_4 (v3_4 + 1) _ _ _ _ hH (lv_sub hl [1, 2, 0, 3] rfl) hf
        · replace hf := (if_pos c10).symm.trans hf
          refine hl_aload_n hx hb dX10_sortWaiting_34 rfl (lv_at hl 0 rfl) ?_
          refine lv_iload_n hx hb dX10_sortWaiting_35 rfl (lv_at hl 1 rfl) ?_
          refine hl_aload_n hx hb dX10_sortWaiting_36 rfl (lv_at hl 3 rfl) ?_
          refine lv_iload_n hx hb dX10_sortWaiting_37 rfl (lv_at hl 2 rfl) ?_
          obtain ⟨q11, hq11, hf⟩ := bnd hf
          refine hcV_i hx hb hml hown hts hKs hT hb0 hH (As := [.int v3_4]) (rest := [.int v2_4, rv E v1_4]) (k_X10_urgencyKey l E K H.size o v3_4 q3.2 ho hq11) (gV m4_103 m4_105 ms_24 m1_12 m4_106) hd_X10_urgencyKey ⟨Nat.le_of_ble_eq_true rfl, Nat.le_of_ble_eq_true rfl, rfl, rfl⟩ rfl ho rfl rfl rfl hl.1 rfl (rcI (rcV rc0)) rfl dX10_sortWaiting_38 ⟨Nat.zero_le _, Nat.zero_le _⟩ (fun H locs hH => ?_)
          obtain ⟨q12, hq12, hf⟩ := bnd hf
          refine hcS_v hx hb hml hown hts hKs hT hb0 hH (As := [rv E v1_4, .int v2_4, .int (q11.1)]) (rest := []) (k_X10_insert l E K H.size v1_4 v2_4 q11.1 q11.2 hq12) (gS m4_107 m4_108 m1_12 m4_109) hs_X10_insert ⟨Nat.le_of_ble_eq_true rfl, Nat.le_of_ble_eq_true rfl, rfl, rfl⟩ hl.1 rfl rc0 rfl dX10_sortWaiting_41 ⟨Nat.zero_le _, Nat.zero_le _⟩ (fun H locs hH => ?_)
          refine lv_iinc (v := (v2_4 + 1)) (lv' := [(2, .int ((v2_4 + 1))), (1, rv E v1_4), (3, .int v3_4), (0, rv E (some o))]) hx hb dX10_sortWaiting_44 hl (k := 1) rfl rfl (by decide) (by simp [List.filter_cons, cat_q, cat_i, cat_j, imax, imin]) (fun ls hl => ?_)
          refine lv_iinc (v := (v3_4 + 1)) (lv' := [(3, .int ((v3_4 + 1))), (2, .int ((v2_4 + 1))), (1, rv E v1_4), (0, rv E (some o))]) hx hb dX10_sortWaiting_47 hl (k := 2) rfl rfl (by decide) rfl (fun ls hl => ?_)
          refine lv_goto (tgt := 4) hx hb dX10_sortWaiting_50 (by decide) ?_
          exact ih v1_4 (v2_4 + 1) (v3_4 + 1) _ _ _ _ hH (lv_sub hl [2, 1, 0, 3] rfl) hf
set_option maxHeartbeats 4000000 in
set_option maxRecDepth 100000 in
theorem l_X10_sortWaiting_L55 (C : CX p l e s m args meth c cX10_sortWaiting 4 RX10 (Option.some Jvm.ClassFile.FieldType.int) E) {o : Nat} (ho : K o = some (9, 0)) {r : Int32} {w' : Wd} (k : Option Nat → Int32 → Int32 → Wd → Option (Int32 × Wd)) (hk : ∀ (v1_55 : Option Nat) (v2_55 : Int32) (v3_55 : Int32) (w : Wd) (H : Heap) (locs : List Loc) (ls : Array Slot), HQ E K z w s H locs → lv_has ls 4 [(1, rv E v1_55), (2, .int v2_55), (3, .int v3_55), (0, rv E (some o))] → k v1_55 v2_55 v3_55 w = some (r, w') → W p l e ({ frames := 4, cells := 0, slots := 0, locals := 88 } : Room) s m args below meth c H locs 0 0 (MQ below (QI E K z w' r) args s 0 0 (hA E)) (F0 m 74 ls [])) : ∀ (n : Nat) (v1_55 : Option Nat) (v2_55 : Int32) (v3_55 : Int32) (w : Wd) (H : Heap) (locs : List Loc) (ls : Array Slot), HQ E K z w s H locs → lv_has ls 4 [(1, rv E v1_55), (2, .int v2_55), (3, .int v3_55), (0, rv E (some o))] → f_X10_sortWaiting_L55 K o k n v1_55 v2_55 v3_55 w = some (r, w') → W p l e ({ frames := 4, cells := 0, slots := 0, locals := 88 } : Room) s m args below meth c H locs 0 0 (MQ below (QI E K z w' r) args s 0 0 (hA E)) (F0 m 55 ls []) := by
  obtain ⟨hx, hb, hml, hown, hts, hKs, hT, hb0, hlocks, hret⟩ := id C
  intro n
  induction n with
  | zero =>
    intro v1_55 v2_55 v3_55 w H locs ls hH hl hf
    cases hf
  | succ n ih =>
    intro v1_55 v2_55 v3_55 w H locs ls hH hl hf
    rw [f_X10_sortWaiting_L55] at hf
    refine lv_iload_n hx hb dX10_sortWaiting_55 rfl (lv_at hl 2 rfl) ?_
    refine lv_iload_n hx hb dX10_sortWaiting_56 rfl (lv_at hl 1 rfl) ?_
    refine lv_icmp_ge (tgt := 74) hx hb dX10_sortWaiting_57 (by decide) (fun c14 => ?_) (fun c14 => ?_)
    · replace hf := (if_pos c14).symm.trans hf
      exact hk v1_55 v2_55 v3_55 _ _ _ _ hH (lv_sub hl [0, 1, 2, 3] rfl) hf
    · replace hf := (if_neg c14).symm.trans hf
      refine hl_aload_n hx hb dX10_sortWaiting_60 rfl (lv_at hl 0 rfl) ?_
      refine lv_iload_n hx hb dX10_sortWaiting_61 rfl (lv_at hl 2 rfl) ?_
      refine lv_dup2_11 hx hb dX10_sortWaiting_62 rfl rv_cat ?_
      obtain ⟨a15, ha15, hf⟩ := bnd hf
      replace ha15 := cha_some ha15
      obtain ⟨j16, hj16, hf⟩ := bnd hf
      refine hw_iald hx hb hKs hH ha15.1 ha15.2 hj16 dX10_sortWaiting_63 ?_
      refine lv_bipush (v := 12) hx hb dX10_sortWaiting_64 (by decide) ?_
      refine lv_irem hx hb dX10_sortWaiting_66 (by decide) ?_
      obtain ⟨j17, hj17, hf⟩ := bnd hf
      obtain ⟨w18, hw18, hf⟩ := bnd hf
      replace hw18 := Option.some.inj hw18
      refine hw_iast (x := ((aI w a15.1 j16) - (aI w a15.1 j16) / 12 * 12)) hx hb hKs hH ha15.1 ha15.2 hj17 dX10_sortWaiting_67 (fun H locs hH => ?_)
      rw [hw18] at hH
      refine lv_iinc (v := (v3_55 + 1)) (lv' := [(3, .int ((v3_55 + 1))), (1, rv E v1_55), (2, .int v2_55), (0, rv E (some o))]) hx hb dX10_sortWaiting_68 hl (k := 2) rfl rfl (by decide) rfl (fun ls hl => ?_)
      refine lv_goto (tgt := 55) hx hb dX10_sortWaiting_71 (by decide) ?_
      exact ih v1_55 v2_55 (v3_55 + 1) _ _ _ _ hH (lv_sub hl [1, 2, 0, 3] rfl) hf
set_option maxHeartbeats 4000000 in
set_option maxRecDepth 100000 in
theorem k_X10_sortWaiting (l : Launch) (E : Ev) (K : Kd) (z : Nat) (o : Nat) (a_1 : Option Nat) (w : Wd) (ho : K o = some (9, 0)) {r : Int32} {w' : Wd} (hf : f_X10_sortWaiting K o a_1 w = some (r, w')) : Met l yX10_sortWaiting (Cond.code yX10_sortWaiting cX10_sortWaiting 4 (Option.some Jvm.ClassFile.FieldType.int) :: bt) ({ frames := 4, cells := 0, slots := 0, locals := 88 } : Room) (va_Pc [rv E (some o), rv E a_1] (HB E K w z)) (QI E K z w' r) 0 0 (hA E) := by
  refine Met.ofW (cc := cX10_sortWaiting) (maxL := 4) (ret := (Option.some Jvm.ClassFile.FieldType.int)) (by decide) rfl ?_
  intro p e s m args below meth c s₁ B hml hv
  obtain ⟨rfl, hz, hP, hKs, hT, hb0⟩ := hv
  have C : CX p l e s m _ meth c cX10_sortWaiting 4 RX10 (Option.some Jvm.ClassFile.FieldType.int) E := ⟨B.exec, B.bytes, hml, findClass_of_methodNamed B.named, fun w h => atoms_spec (ws := Cond.code yX10_sortWaiting cX10_sortWaiting 4 (Option.some Jvm.ClassFile.FieldType.int) :: bt) B.pre w (List.mem_cons_of_mem _ h), hKs, hT, by rw [hz]; exact hb0, B.notSynchronized, B.returns⟩
  have hH : HQ E K z w s s.heap [] := ⟨hP, va_S.rf, hz⟩
  obtain ⟨hx, hb, hml, hown, hts, hKs, hT, hb0, hlocks, hret⟩ := id C
  have hl := lv_entry [rv E (some o), rv E a_1] (n := 4) (by simp [lg_len_nil, lg_len_i, lg_len_j, lg_len_q, lg_len_f, lg_len_d, lg_len_r])
  rw [lg_entry_eq]
  generalize (lg_sl [rv E (some o), rv E a_1] ++ List.replicate (4 - (lg_sl [rv E (some o), rv E a_1]).length) Slot.unset).toArray = ls at hl ⊢
  replace hl : lv_has ls 4 [(0, rv E (some o)), (1, rv E a_1)] := by simpa only [lv_args, cat_q, cat_i, cat_j, reduceIte, Nat.reduceEqDiff, Nat.reduceAdd, Nat.zero_add] using hl
  generalize s.heap = H at hH ⊢
  unfold f_X10_sortWaiting at hf
  refine lv_iconst (v := 0) hx hb dX10_sortWaiting_0 (by decide) ?_
  refine lv_istore_n (i := 2) (lv' := [(2, .int 0), (0, rv E (some o)), (1, rv E a_1)]) hx hb dX10_sortWaiting_1 rfl hl (by decide) (by simp [List.filter_cons, cat_q, cat_i, cat_j, imax, imin]) (fun ls hl => ?_)
  refine lv_iconst (v := 0) hx hb dX10_sortWaiting_2 (by decide) ?_
  refine lv_istore_n (i := 3) (lv' := [(3, .int 0), (2, .int 0), (0, rv E (some o)), (1, rv E a_1)]) hx hb dX10_sortWaiting_3 rfl hl (by decide) rfl (fun ls hl => ?_)
  refine l_X10_sortWaiting_L4  C ho _ (fun v1_4 v2_4 v3_4 w1 H locs ls hH hl hf => ?_) fu a_1 0 0 w _ _ _ hH (lv_sub hl [3, 1, 0, 2] rfl) hf
  refine lv_iconst (v := 0) hx hb dX10_sortWaiting_53 (by decide) ?_
  refine lv_istore_n (i := 3) (lv' := [(3, .int 0), (1, rv E v1_4), (2, .int v2_4), (0, rv E (some o))]) hx hb dX10_sortWaiting_54 rfl hl (by decide) rfl (fun ls hl => ?_)
  refine l_X10_sortWaiting_L55  C ho _ (fun v1_55 v2_55 v3_55 w13 H locs ls hH hl hf => ?_) fu v1_4 v2_4 0 w1 _ _ _ hH (lv_sub hl [1, 2, 0, 3] rfl) hf
  refine lv_iload_n hx hb dX10_sortWaiting_74 rfl (lv_at hl 1 rfl) ?_
  exact hw_iret hx hb hret hf hH hlocks dX10_sortWaiting_75

theorem dL_isWorkingDay_0 : decode cL_isWorkingDay 0 = .ok (.aload_n 2, 1) := by decide +kernel
theorem dL_isWorkingDay_1 : decode cL_isWorkingDay 1 = .ok (.iconst 0, 1) := by decide +kernel
theorem dL_isWorkingDay_2 : decode cL_isWorkingDay 2 = .ok (.aload_n 0, 1) := by decide +kernel
theorem dL_isWorkingDay_3 : decode cL_isWorkingDay 3 = .ok (.iload_n 1, 1) := by decide +kernel
theorem dL_isWorkingDay_4 : decode cL_isWorkingDay 4 = .ok (.invokevirtual 15, 3) := by decide +kernel
theorem dL_isWorkingDay_7 : decode cL_isWorkingDay 7 = .ok (.ifCond .eq 7, 3) := by decide +kernel
theorem dL_isWorkingDay_10 : decode cL_isWorkingDay 10 = .ok (.lconst 1, 1) := by decide +kernel
theorem dL_isWorkingDay_11 : decode cL_isWorkingDay 11 = .ok (.goto 4, 3) := by decide +kernel
theorem dL_isWorkingDay_14 : decode cL_isWorkingDay 14 = .ok (.lconst 0, 1) := by decide +kernel
theorem dL_isWorkingDay_15 : decode cL_isWorkingDay 15 = .ok (.lastore, 1) := by decide +kernel
theorem dL_isWorkingDay_16 : decode cL_isWorkingDay 16 = .ok (.goto 6, 3) := by decide +kernel
theorem dL_isWorkingDay_19 : decode cL_isWorkingDay 19 = .ok (.astore_n 3, 1) := by decide +kernel
theorem dL_isWorkingDay_20 : decode cL_isWorkingDay 20 = .ok (.iconst 1, 1) := by decide +kernel
theorem dL_isWorkingDay_21 : decode cL_isWorkingDay 21 = .ok (.ireturn, 1) := by decide +kernel
theorem dL_isWorkingDay_22 : decode cL_isWorkingDay 22 = .ok (.iconst 0, 1) := by decide +kernel
theorem dL_isWorkingDay_23 : decode cL_isWorkingDay 23 = .ok (.ireturn, 1) := by decide +kernel
theorem hs_L_isWorkingDay : yL_isWorkingDay.cls ≠ "java/lang/invoke/MethodHandle" ∧ yL_isWorkingDay.cls ≠ "java/lang/invoke/VarHandle" ∧ (parseMethodDescriptor yL_isWorkingDay.desc).map (fun d => d.parameters.length) = some 3 := by decide +kernel
set_option maxHeartbeats 4000000 in
set_option maxRecDepth 100000 in
theorem k_L_isWorkingDay (l : Launch) (hls : l.stackTraces = false) (E : Ev) (K : Kd) (z : Nat) (a_0 : Option Nat) (a_1 : Int32) (a_2 : Option Nat) (w : Wd) {r : Int32} {w' : Wd} (hf : f_L_isWorkingDay K a_0 a_1 a_2 w = some (r, w')) : Met l yL_isWorkingDay (Cond.codeWith yL_isWorkingDay cL_isWorkingDay 4 (Option.some Jvm.ClassFile.FieldType.int) [(0, 16, 19, 13)] :: bt) ({ frames := 8, cells := 1, slots := 6, locals := 132 } : Room) (va_Pc [rv E a_0, .int a_1, rv E a_2] (HB E K w z)) (QW E K w' r) 1 6 (hA E) := by
  refine MetH_ofW (cc := cL_isWorkingDay) (maxL := 4) (ret := (Option.some Jvm.ClassFile.FieldType.int)) (hh := [(0, 16, 19, 13)]) (by decide) rfl ?_
  intro p e s m args below meth c s₁ B hml htab hv
  obtain ⟨rfl, hz, hP, hKs, hT, hb0⟩ := hv
  have C : CX p l e s m _ meth c cL_isWorkingDay 4 RL (Option.some Jvm.ClassFile.FieldType.int) E := ⟨B.exec, B.bytes, hml, findClass_of_methodNamed B.named, fun w h => atoms_spec (ws := Cond.codeWith yL_isWorkingDay cL_isWorkingDay 4 (Option.some Jvm.ClassFile.FieldType.int) [(0, 16, 19, 13)] :: bt) B.pre w (List.mem_cons_of_mem _ h), hKs, hT, by rw [hz]; exact hb0, B.notSynchronized, B.returns⟩
  have hH : HQ E K z w s s.heap [] := ⟨hP, va_S.rf, hz⟩
  obtain ⟨hx, hb, hml, hown, hts, hKs, hT, hb0, hlocks, hret⟩ := id C
  have hl := lv_entry [rv E a_0, .int a_1, rv E a_2] (n := 4) (by simp [lg_len_nil, lg_len_i, lg_len_j, lg_len_q, lg_len_f, lg_len_d, lg_len_r])
  rw [lg_entry_eq]
  generalize (lg_sl [rv E a_0, .int a_1, rv E a_2] ++ List.replicate (4 - (lg_sl [rv E a_0, .int a_1, rv E a_2]).length) Slot.unset).toArray = ls at hl ⊢
  replace hl : lv_has ls 4 [(0, rv E a_0), (1, .int a_1), (2, rv E a_2)] := by simpa only [lv_args, cat_q, cat_i, cat_j, reduceIte, Nat.reduceEqDiff, Nat.reduceAdd, Nat.zero_add] using hl
  generalize s.heap = H at hH ⊢
  unfold f_L_isWorkingDay at hf
  refine hl_aload_n hx hb dL_isWorkingDay_0 rfl (lv_at hl 2 rfl) ?_
  refine lv_iconst (v := 0) hx hb dL_isWorkingDay_1 (by decide) ?_
  refine hl_aload_n hx hb dL_isWorkingDay_2 rfl (lv_at hl 0 rfl) ?_
  refine lv_iload_n hx hb dL_isWorkingDay_3 rfl (lv_at hl 1 rfl) ?_
  obtain ⟨a1, ha1, hf⟩ := bnd hf
  replace ha1 := chk_some ha1
  obtain ⟨q2, hq2, hf⟩ := bnd hf
  refine hxC_z hx hb hml hown hts hKs hT hb0 hH (As := [.int a_1]) (rest := [.int 0, rv E a_2]) (k_X12_isWorkingDay l hls E K H.size a1 a_1 w ha1.2 hq2) (gV m5_50 m5_51 m5_52 m1_1 m5_53) hd_X12_isWorkingDay ⟨Nat.le_of_ble_eq_true rfl, Nat.le_of_ble_eq_true rfl, rfl, rfl⟩ ha1.1 ha1.2 rfl rfl rfl hl.1 rfl (rcI (rcV rc0)) rfl dL_isWorkingDay_4 ⟨Nat.le_of_ble_eq_true rfl, Nat.le_of_ble_eq_true rfl⟩ (fun c4 hc4 H locs q9 ce9 hH hc9 hv9 hf9 => ?_) (fun v3 hv3 H locs hH => ?_)
  · replace hf := (xh_inr hc4).symm.trans hf
    by_cases h5 : c4 = 2
    · subst h5
      replace hf := (if_pos rfl).symm.trans hf
      refine vx_catch (name := "java/lang/IllegalArgumentException") hown [] ⟨0, 16, 19, 13⟩ [] htab pass0 (by decide) (by decide) (hts _ m4_212) (va_Nw.use rfl (hKs.2.1 _ m4_219)) hc9 hv9 hf9 ?_
      refine lv_astore_n (i := 3) (lv' := [(3, .ref q9), (0, rv E a_0), (1, .int a_1), (2, rv E a_2)]) hx hb dL_isWorkingDay_19 rfl hl (by decide) (by simp [List.filter_cons, cat_q, cat_i, cat_j, imax, imin]) (fun ls hl => ?_)
      refine lv_iconst (v := 1) hx hb dL_isWorkingDay_20 (by decide) ?_
      exact hw_wret hx hb (Nat.le_of_ble_eq_true rfl) (Nat.le_of_ble_eq_true rfl) hret hf hH hlocks dL_isWorkingDay_21
    replace hf := (if_neg h5).symm.trans hf
    cases hf
  · replace hf := (xh_inl hv3).symm.trans hf
    refine lv_if_eq (tgt := 14) hx hb dL_isWorkingDay_7 (by decide) (fun c6 => ?_) (fun c6 => ?_)
    · replace hf := (if_pos c6).symm.trans hf
      refine lv_lconst (v := 0) hx hb dL_isWorkingDay_14 rfl ?_
      obtain ⟨a7, ha7, hf⟩ := bnd hf
      replace ha7 := cha_some ha7
      obtain ⟨j8, hj8, hf⟩ := bnd hf
      obtain ⟨w9, hw9, hf⟩ := bnd hf
      replace hw9 := Option.some.inj hw9
      refine hw_last (x := 0) hx hb hKs hH ha7.1 ha7.2 hj8 dL_isWorkingDay_15 (fun H locs hH => ?_)
      rw [hw9] at hH
      refine lv_goto (tgt := 22) hx hb dL_isWorkingDay_16 (by decide) ?_
      refine lv_iconst (v := 0) hx hb dL_isWorkingDay_22 (by decide) ?_
      exact hw_wret hx hb (Nat.le_of_ble_eq_true rfl) (Nat.le_of_ble_eq_true rfl) hret hf hH hlocks dL_isWorkingDay_23
    · replace hf := (if_neg c6).symm.trans hf
      refine lv_lconst (v := 1) hx hb dL_isWorkingDay_10 rfl ?_
      refine lv_goto (tgt := 15) hx hb dL_isWorkingDay_11 (by decide) ?_
      obtain ⟨a10, ha10, hf⟩ := bnd hf
      replace ha10 := cha_some ha10
      obtain ⟨j11, hj11, hf⟩ := bnd hf
      obtain ⟨w12, hw12, hf⟩ := bnd hf
      replace hw12 := Option.some.inj hw12
      refine hw_last (x := 1) hx hb hKs hH ha10.1 ha10.2 hj11 dL_isWorkingDay_15 (fun H locs hH => ?_)
      rw [hw12] at hH
      refine lv_goto (tgt := 22) hx hb dL_isWorkingDay_16 (by decide) ?_
      refine lv_iconst (v := 0) hx hb dL_isWorkingDay_22 (by decide) ?_
      exact hw_wret hx hb (Nat.le_of_ble_eq_true rfl) (Nat.le_of_ble_eq_true rfl) hret hf hH hlocks dL_isWorkingDay_23

theorem dL_workingDays_0 : decode cL_workingDays 0 = .ok (.aload_n 3, 1) := by decide +kernel
theorem dL_workingDays_1 : decode cL_workingDays 1 = .ok (.iconst 0, 1) := by decide +kernel
theorem dL_workingDays_2 : decode cL_workingDays 2 = .ok (.aload_n 0, 1) := by decide +kernel
theorem dL_workingDays_3 : decode cL_workingDays 3 = .ok (.iload_n 1, 1) := by decide +kernel
theorem dL_workingDays_4 : decode cL_workingDays 4 = .ok (.iload_n 2, 1) := by decide +kernel
theorem dL_workingDays_5 : decode cL_workingDays 5 = .ok (.invokevirtual 19, 3) := by decide +kernel
theorem dL_workingDays_8 : decode cL_workingDays 8 = .ok (.i2l, 1) := by decide +kernel
theorem dL_workingDays_9 : decode cL_workingDays 9 = .ok (.lastore, 1) := by decide +kernel
theorem dL_workingDays_10 : decode cL_workingDays 10 = .ok (.goto 7, 3) := by decide +kernel
theorem dL_workingDays_13 : decode cL_workingDays 13 = .ok (.astore 4, 2) := by decide +kernel
theorem dL_workingDays_15 : decode cL_workingDays 15 = .ok (.iconst 1, 1) := by decide +kernel
theorem dL_workingDays_16 : decode cL_workingDays 16 = .ok (.ireturn, 1) := by decide +kernel
theorem dL_workingDays_17 : decode cL_workingDays 17 = .ok (.iconst 0, 1) := by decide +kernel
theorem dL_workingDays_18 : decode cL_workingDays 18 = .ok (.ireturn, 1) := by decide +kernel
theorem hs_L_workingDays : yL_workingDays.cls ≠ "java/lang/invoke/MethodHandle" ∧ yL_workingDays.cls ≠ "java/lang/invoke/VarHandle" ∧ (parseMethodDescriptor yL_workingDays.desc).map (fun d => d.parameters.length) = some 4 := by decide +kernel
set_option maxHeartbeats 4000000 in
set_option maxRecDepth 100000 in
theorem k_L_workingDays (l : Launch) (hls : l.stackTraces = false) (E : Ev) (K : Kd) (z : Nat) (a_0 : Option Nat) (a_1 : Int32) (a_2 : Int32) (a_3 : Option Nat) (w : Wd) {r : Int32} {w' : Wd} (hf : f_L_workingDays K a_0 a_1 a_2 a_3 w = some (r, w')) : Met l yL_workingDays (Cond.codeWith yL_workingDays cL_workingDays 5 (Option.some Jvm.ClassFile.FieldType.int) [(0, 10, 13, 13)] :: bt) ({ frames := 8, cells := 1, slots := 6, locals := 134 } : Room) (va_Pc [rv E a_0, .int a_1, .int a_2, rv E a_3] (HB E K w z)) (QW E K w' r) 1 6 (hA E) := by
  refine MetH_ofW (cc := cL_workingDays) (maxL := 5) (ret := (Option.some Jvm.ClassFile.FieldType.int)) (hh := [(0, 10, 13, 13)]) (by decide) rfl ?_
  intro p e s m args below meth c s₁ B hml htab hv
  obtain ⟨rfl, hz, hP, hKs, hT, hb0⟩ := hv
  have C : CX p l e s m _ meth c cL_workingDays 5 RL (Option.some Jvm.ClassFile.FieldType.int) E := ⟨B.exec, B.bytes, hml, findClass_of_methodNamed B.named, fun w h => atoms_spec (ws := Cond.codeWith yL_workingDays cL_workingDays 5 (Option.some Jvm.ClassFile.FieldType.int) [(0, 10, 13, 13)] :: bt) B.pre w (List.mem_cons_of_mem _ h), hKs, hT, by rw [hz]; exact hb0, B.notSynchronized, B.returns⟩
  have hH : HQ E K z w s s.heap [] := ⟨hP, va_S.rf, hz⟩
  obtain ⟨hx, hb, hml, hown, hts, hKs, hT, hb0, hlocks, hret⟩ := id C
  have hl := lv_entry [rv E a_0, .int a_1, .int a_2, rv E a_3] (n := 5) (by simp [lg_len_nil, lg_len_i, lg_len_j, lg_len_q, lg_len_f, lg_len_d, lg_len_r])
  rw [lg_entry_eq]
  generalize (lg_sl [rv E a_0, .int a_1, .int a_2, rv E a_3] ++ List.replicate (5 - (lg_sl [rv E a_0, .int a_1, .int a_2, rv E a_3]).length) Slot.unset).toArray = ls at hl ⊢
  replace hl : lv_has ls 5 [(0, rv E a_0), (1, .int a_1), (2, .int a_2), (3, rv E a_3)] := by simpa only [lv_args, cat_q, cat_i, cat_j, reduceIte, Nat.reduceEqDiff, Nat.reduceAdd, Nat.zero_add] using hl
  generalize s.heap = H at hH ⊢
  unfold f_L_workingDays at hf
  refine hl_aload_n hx hb dL_workingDays_0 rfl (lv_at hl 3 rfl) ?_
  refine lv_iconst (v := 0) hx hb dL_workingDays_1 (by decide) ?_
  refine hl_aload_n hx hb dL_workingDays_2 rfl (lv_at hl 0 rfl) ?_
  refine lv_iload_n hx hb dL_workingDays_3 rfl (lv_at hl 1 rfl) ?_
  refine lv_iload_n hx hb dL_workingDays_4 rfl (lv_at hl 2 rfl) ?_
  obtain ⟨a1, ha1, hf⟩ := bnd hf
  replace ha1 := chk_some ha1
  obtain ⟨q2, hq2, hf⟩ := bnd hf
  refine hxC_i hx hb hml hown hts hKs hT hb0 hH (As := [.int a_1, .int a_2]) (rest := [.int 0, rv E a_3]) (k_X12_workingDays l hls E K H.size a1 a_1 a_2 w ha1.2 hq2) (gV m5_62 m5_63 m5_64 m1_1 m5_65) hd_X12_workingDays ⟨Nat.le_of_ble_eq_true rfl, Nat.le_of_ble_eq_true rfl, rfl, rfl⟩ ha1.1 ha1.2 rfl rfl rfl hl.1 rfl (rcI (rcV rc0)) rfl dL_workingDays_5 ⟨Nat.le_of_ble_eq_true rfl, Nat.le_of_ble_eq_true rfl⟩ (fun c4 hc4 H locs q9 ce9 hH hc9 hv9 hf9 => ?_) (fun v3 hv3 H locs hH => ?_)
  · replace hf := (xh_inr hc4).symm.trans hf
    by_cases h5 : c4 = 2
    · subst h5
      replace hf := (if_pos rfl).symm.trans hf
      refine vx_catch (name := "java/lang/IllegalArgumentException") hown [] ⟨0, 10, 13, 13⟩ [] htab pass0 (by decide) (by decide) (hts _ m4_212) (va_Nw.use rfl (hKs.2.1 _ m4_219)) hc9 hv9 hf9 ?_
      refine lv_astore (i := 4) (lv' := [(4, .ref q9), (0, rv E a_0), (1, .int a_1), (2, .int a_2), (3, rv E a_3)]) hx hb dL_workingDays_13 hl (by decide) (by simp [List.filter_cons, cat_q, cat_i, cat_j, imax, imin]) (fun ls hl => ?_)
      refine lv_iconst (v := 1) hx hb dL_workingDays_15 (by decide) ?_
      exact hw_wret hx hb (Nat.le_of_ble_eq_true rfl) (Nat.le_of_ble_eq_true rfl) hret hf hH hlocks dL_workingDays_16
    replace hf := (if_neg h5).symm.trans hf
    cases hf
  · replace hf := (xh_inl hv3).symm.trans hf
    refine lv_i2l (v := (v3.toInt64)) hx hb dL_workingDays_8 rfl ?_
    obtain ⟨a6, ha6, hf⟩ := bnd hf
    replace ha6 := cha_some ha6
    obtain ⟨j7, hj7, hf⟩ := bnd hf
    obtain ⟨w8, hw8, hf⟩ := bnd hf
    replace hw8 := Option.some.inj hw8
    refine hw_last (x := (v3.toInt64)) hx hb hKs hH ha6.1 ha6.2 hj7 dL_workingDays_9 (fun H locs hH => ?_)
    rw [hw8] at hH
    refine lv_goto (tgt := 17) hx hb dL_workingDays_10 (by decide) ?_
    refine lv_iconst (v := 0) hx hb dL_workingDays_17 (by decide) ?_
    exact hw_wret hx hb (Nat.le_of_ble_eq_true rfl) (Nat.le_of_ble_eq_true rfl) hret hf hH hlocks dL_workingDays_18

theorem dL_lengthening_0 : decode cL_lengthening 0 = .ok (.aload_n 2, 1) := by decide +kernel
theorem dL_lengthening_1 : decode cL_lengthening 1 = .ok (.iconst 0, 1) := by decide +kernel
theorem dL_lengthening_2 : decode cL_lengthening 2 = .ok (.aload_n 0, 1) := by decide +kernel
theorem dL_lengthening_3 : decode cL_lengthening 3 = .ok (.iload_n 1, 1) := by decide +kernel
theorem dL_lengthening_4 : decode cL_lengthening 4 = .ok (.invokevirtual 23, 3) := by decide +kernel
theorem dL_lengthening_7 : decode cL_lengthening 7 = .ok (.i2l, 1) := by decide +kernel
theorem dL_lengthening_8 : decode cL_lengthening 8 = .ok (.lastore, 1) := by decide +kernel
theorem dL_lengthening_9 : decode cL_lengthening 9 = .ok (.goto 6, 3) := by decide +kernel
theorem dL_lengthening_12 : decode cL_lengthening 12 = .ok (.astore_n 3, 1) := by decide +kernel
theorem dL_lengthening_13 : decode cL_lengthening 13 = .ok (.iconst 1, 1) := by decide +kernel
theorem dL_lengthening_14 : decode cL_lengthening 14 = .ok (.ireturn, 1) := by decide +kernel
theorem dL_lengthening_15 : decode cL_lengthening 15 = .ok (.iconst 0, 1) := by decide +kernel
theorem dL_lengthening_16 : decode cL_lengthening 16 = .ok (.ireturn, 1) := by decide +kernel
theorem hs_L_lengthening : yL_lengthening.cls ≠ "java/lang/invoke/MethodHandle" ∧ yL_lengthening.cls ≠ "java/lang/invoke/VarHandle" ∧ (parseMethodDescriptor yL_lengthening.desc).map (fun d => d.parameters.length) = some 3 := by decide +kernel
set_option maxHeartbeats 4000000 in
set_option maxRecDepth 100000 in
theorem k_L_lengthening (l : Launch) (hls : l.stackTraces = false) (E : Ev) (K : Kd) (z : Nat) (a_0 : Option Nat) (a_1 : Int32) (a_2 : Option Nat) (w : Wd) {r : Int32} {w' : Wd} (hf : f_L_lengthening K a_0 a_1 a_2 w = some (r, w')) : Met l yL_lengthening (Cond.codeWith yL_lengthening cL_lengthening 4 (Option.some Jvm.ClassFile.FieldType.int) [(0, 9, 12, 13)] :: bt) ({ frames := 8, cells := 1, slots := 6, locals := 132 } : Room) (va_Pc [rv E a_0, .int a_1, rv E a_2] (HB E K w z)) (QW E K w' r) 1 6 (hA E) := by
  refine MetH_ofW (cc := cL_lengthening) (maxL := 4) (ret := (Option.some Jvm.ClassFile.FieldType.int)) (hh := [(0, 9, 12, 13)]) (by decide) rfl ?_
  intro p e s m args below meth c s₁ B hml htab hv
  obtain ⟨rfl, hz, hP, hKs, hT, hb0⟩ := hv
  have C : CX p l e s m _ meth c cL_lengthening 4 RL (Option.some Jvm.ClassFile.FieldType.int) E := ⟨B.exec, B.bytes, hml, findClass_of_methodNamed B.named, fun w h => atoms_spec (ws := Cond.codeWith yL_lengthening cL_lengthening 4 (Option.some Jvm.ClassFile.FieldType.int) [(0, 9, 12, 13)] :: bt) B.pre w (List.mem_cons_of_mem _ h), hKs, hT, by rw [hz]; exact hb0, B.notSynchronized, B.returns⟩
  have hH : HQ E K z w s s.heap [] := ⟨hP, va_S.rf, hz⟩
  obtain ⟨hx, hb, hml, hown, hts, hKs, hT, hb0, hlocks, hret⟩ := id C
  have hl := lv_entry [rv E a_0, .int a_1, rv E a_2] (n := 4) (by simp [lg_len_nil, lg_len_i, lg_len_j, lg_len_q, lg_len_f, lg_len_d, lg_len_r])
  rw [lg_entry_eq]
  generalize (lg_sl [rv E a_0, .int a_1, rv E a_2] ++ List.replicate (4 - (lg_sl [rv E a_0, .int a_1, rv E a_2]).length) Slot.unset).toArray = ls at hl ⊢
  replace hl : lv_has ls 4 [(0, rv E a_0), (1, .int a_1), (2, rv E a_2)] := by simpa only [lv_args, cat_q, cat_i, cat_j, reduceIte, Nat.reduceEqDiff, Nat.reduceAdd, Nat.zero_add] using hl
  generalize s.heap = H at hH ⊢
  unfold f_L_lengthening at hf
  refine hl_aload_n hx hb dL_lengthening_0 rfl (lv_at hl 2 rfl) ?_
  refine lv_iconst (v := 0) hx hb dL_lengthening_1 (by decide) ?_
  refine hl_aload_n hx hb dL_lengthening_2 rfl (lv_at hl 0 rfl) ?_
  refine lv_iload_n hx hb dL_lengthening_3 rfl (lv_at hl 1 rfl) ?_
  obtain ⟨a1, ha1, hf⟩ := bnd hf
  replace ha1 := chk_some ha1
  obtain ⟨q2, hq2, hf⟩ := bnd hf
  refine hxC_i hx hb hml hown hts hKs hT hb0 hH (As := [.int a_1]) (rest := [.int 0, rv E a_2]) (k_X12_lengthening l hls E K H.size a1 a_1 w ha1.2 hq2) (gV m5_74 m5_75 m5_76 m1_1 m5_77) hd_X12_lengthening ⟨Nat.le_of_ble_eq_true rfl, Nat.le_of_ble_eq_true rfl, rfl, rfl⟩ ha1.1 ha1.2 rfl rfl rfl hl.1 rfl (rcI (rcV rc0)) rfl dL_lengthening_4 ⟨Nat.le_of_ble_eq_true rfl, Nat.le_of_ble_eq_true rfl⟩ (fun c4 hc4 H locs q9 ce9 hH hc9 hv9 hf9 => ?_) (fun v3 hv3 H locs hH => ?_)
  · replace hf := (xh_inr hc4).symm.trans hf
    by_cases h5 : c4 = 2
    · subst h5
      replace hf := (if_pos rfl).symm.trans hf
      refine vx_catch (name := "java/lang/IllegalArgumentException") hown [] ⟨0, 9, 12, 13⟩ [] htab pass0 (by decide) (by decide) (hts _ m4_212) (va_Nw.use rfl (hKs.2.1 _ m4_219)) hc9 hv9 hf9 ?_
      refine lv_astore_n (i := 3) (lv' := [(3, .ref q9), (0, rv E a_0), (1, .int a_1), (2, rv E a_2)]) hx hb dL_lengthening_12 rfl hl (by decide) (by simp [List.filter_cons, cat_q, cat_i, cat_j, imax, imin]) (fun ls hl => ?_)
      refine lv_iconst (v := 1) hx hb dL_lengthening_13 (by decide) ?_
      exact hw_wret hx hb (Nat.le_of_ble_eq_true rfl) (Nat.le_of_ble_eq_true rfl) hret hf hH hlocks dL_lengthening_14
    replace hf := (if_neg h5).symm.trans hf
    cases hf
  · replace hf := (xh_inl hv3).symm.trans hf
    refine lv_i2l (v := (v3.toInt64)) hx hb dL_lengthening_7 rfl ?_
    obtain ⟨a6, ha6, hf⟩ := bnd hf
    replace ha6 := cha_some ha6
    obtain ⟨j7, hj7, hf⟩ := bnd hf
    obtain ⟨w8, hw8, hf⟩ := bnd hf
    replace hw8 := Option.some.inj hw8
    refine hw_last (x := (v3.toInt64)) hx hb hKs hH ha6.1 ha6.2 hj7 dL_lengthening_8 (fun H locs hH => ?_)
    rw [hw8] at hH
    refine lv_goto (tgt := 15) hx hb dL_lengthening_9 (by decide) ?_
    refine lv_iconst (v := 0) hx hb dL_lengthening_15 (by decide) ?_
    exact hw_wret hx hb (Nat.le_of_ble_eq_true rfl) (Nat.le_of_ble_eq_true rfl) hret hf hH hlocks dL_lengthening_16

theorem dL_undo_0 : decode cL_undo 0 = .ok (.aload_n 1, 1) := by decide +kernel
theorem dL_undo_1 : decode cL_undo 1 = .ok (.iconst 0, 1) := by decide +kernel
theorem dL_undo_2 : decode cL_undo 2 = .ok (.aload_n 0, 1) := by decide +kernel
theorem dL_undo_3 : decode cL_undo 3 = .ok (.invokevirtual 102, 3) := by decide +kernel
theorem dL_undo_6 : decode cL_undo 6 = .ok (.i2l, 1) := by decide +kernel
theorem dL_undo_7 : decode cL_undo 7 = .ok (.lastore, 1) := by decide +kernel
theorem dL_undo_8 : decode cL_undo 8 = .ok (.goto 6, 3) := by decide +kernel
theorem dL_undo_11 : decode cL_undo 11 = .ok (.astore_n 2, 1) := by decide +kernel
theorem dL_undo_12 : decode cL_undo 12 = .ok (.iconst 1, 1) := by decide +kernel
theorem dL_undo_13 : decode cL_undo 13 = .ok (.ireturn, 1) := by decide +kernel
theorem dL_undo_14 : decode cL_undo 14 = .ok (.iconst 0, 1) := by decide +kernel
theorem dL_undo_15 : decode cL_undo 15 = .ok (.ireturn, 1) := by decide +kernel
theorem hs_L_undo : yL_undo.cls ≠ "java/lang/invoke/MethodHandle" ∧ yL_undo.cls ≠ "java/lang/invoke/VarHandle" ∧ (parseMethodDescriptor yL_undo.desc).map (fun d => d.parameters.length) = some 2 := by decide +kernel
set_option maxHeartbeats 4000000 in
set_option maxRecDepth 100000 in
theorem k_L_undo (l : Launch) (hls : l.stackTraces = false) (E : Ev) (K : Kd) (z : Nat) (a_0 : Option Nat) (a_1 : Option Nat) (w : Wd) {r : Int32} {w' : Wd} (hf : f_L_undo K a_0 a_1 w = some (r, w')) : Met l yL_undo (Cond.codeWith yL_undo cL_undo 3 (Option.some Jvm.ClassFile.FieldType.int) [(0, 8, 11, 58)] :: bt) ({ frames := 7, cells := 1, slots := 6, locals := 123 } : Room) (va_Pc [rv E a_0, rv E a_1] (HB E K w z)) (QW E K w' r) 1 6 (hA E) := by
  refine MetH_ofW (cc := cL_undo) (maxL := 3) (ret := (Option.some Jvm.ClassFile.FieldType.int)) (hh := [(0, 8, 11, 58)]) (by decide) rfl ?_
  intro p e s m args below meth c s₁ B hml htab hv
  obtain ⟨rfl, hz, hP, hKs, hT, hb0⟩ := hv
  have C : CX p l e s m _ meth c cL_undo 3 RL (Option.some Jvm.ClassFile.FieldType.int) E := ⟨B.exec, B.bytes, hml, findClass_of_methodNamed B.named, fun w h => atoms_spec (ws := Cond.codeWith yL_undo cL_undo 3 (Option.some Jvm.ClassFile.FieldType.int) [(0, 8, 11, 58)] :: bt) B.pre w (List.mem_cons_of_mem _ h), hKs, hT, by rw [hz]; exact hb0, B.notSynchronized, B.returns⟩
  have hH : HQ E K z w s s.heap [] := ⟨hP, va_S.rf, hz⟩
  obtain ⟨hx, hb, hml, hown, hts, hKs, hT, hb0, hlocks, hret⟩ := id C
  have hl := lv_entry [rv E a_0, rv E a_1] (n := 3) (by simp [lg_len_nil, lg_len_i, lg_len_j, lg_len_q, lg_len_f, lg_len_d, lg_len_r])
  rw [lg_entry_eq]
  generalize (lg_sl [rv E a_0, rv E a_1] ++ List.replicate (3 - (lg_sl [rv E a_0, rv E a_1]).length) Slot.unset).toArray = ls at hl ⊢
  replace hl : lv_has ls 3 [(0, rv E a_0), (1, rv E a_1)] := by simpa only [lv_args, cat_q, cat_i, cat_j, reduceIte, Nat.reduceEqDiff, Nat.reduceAdd, Nat.zero_add] using hl
  generalize s.heap = H at hH ⊢
  unfold f_L_undo at hf
  refine hl_aload_n hx hb dL_undo_0 rfl (lv_at hl 1 rfl) ?_
  refine lv_iconst (v := 0) hx hb dL_undo_1 (by decide) ?_
  refine hl_aload_n hx hb dL_undo_2 rfl (lv_at hl 0 rfl) ?_
  obtain ⟨a1, ha1, hf⟩ := bnd hf
  replace ha1 := chk_some ha1
  obtain ⟨q2, hq2, hf⟩ := bnd hf
  refine hxC_i hx hb hml hown hts hKs hT hb0 hH (As := []) (rest := [.int 0, rv E a_1]) (k_X12_undo l hls E K H.size a1 w ha1.2 hq2) (gV m6_120 m6_121 m6_122 m1_1 m6_123) hd_X12_undo ⟨Nat.le_of_ble_eq_true rfl, Nat.le_of_ble_eq_true rfl, rfl, rfl⟩ ha1.1 ha1.2 rfl rfl rfl hl.1 rfl (rcI (rcV rc0)) rfl dL_undo_3 ⟨Nat.le_of_ble_eq_true rfl, Nat.le_of_ble_eq_true rfl⟩ (fun c4 hc4 H locs q9 ce9 hH hc9 hv9 hf9 => ?_) (fun v3 hv3 H locs hH => ?_)
  · replace hf := (xh_inr hc4).symm.trans hf
    by_cases h5 : c4 = 3
    · subst h5
      replace hf := (if_pos rfl).symm.trans hf
      refine vx_catch (name := "java/lang/IllegalStateException") hown [] ⟨0, 8, 11, 58⟩ [] htab pass0 (by decide) (by decide) (hts _ m5_181) (va_Nw.use rfl (hKs.2.1 _ m5_196)) hc9 hv9 hf9 ?_
      refine lv_astore_n (i := 2) (lv' := [(2, .ref q9), (0, rv E a_0), (1, rv E a_1)]) hx hb dL_undo_11 rfl hl (by decide) (by simp [List.filter_cons, cat_q, cat_i, cat_j, imax, imin]) (fun ls hl => ?_)
      refine lv_iconst (v := 1) hx hb dL_undo_12 (by decide) ?_
      exact hw_wret hx hb (Nat.le_of_ble_eq_true rfl) (Nat.le_of_ble_eq_true rfl) hret hf hH hlocks dL_undo_13
    replace hf := (if_neg h5).symm.trans hf
    cases hf
  · replace hf := (xh_inl hv3).symm.trans hf
    refine lv_i2l (v := (v3.toInt64)) hx hb dL_undo_6 rfl ?_
    obtain ⟨a6, ha6, hf⟩ := bnd hf
    replace ha6 := cha_some ha6
    obtain ⟨j7, hj7, hf⟩ := bnd hf
    obtain ⟨w8, hw8, hf⟩ := bnd hf
    replace hw8 := Option.some.inj hw8
    refine hw_last (x := (v3.toInt64)) hx hb hKs hH ha6.1 ha6.2 hj7 dL_undo_7 (fun H locs hH => ?_)
    rw [hw8] at hH
    refine lv_goto (tgt := 14) hx hb dL_undo_8 (by decide) ?_
    refine lv_iconst (v := 0) hx hb dL_undo_14 (by decide) ?_
    exact hw_wret hx hb (Nat.le_of_ble_eq_true rfl) (Nat.le_of_ble_eq_true rfl) hret hf hH hlocks dL_undo_15

theorem dL_lapsesIn_0 : decode cL_lapsesIn 0 = .ok (.aload_n 2, 1) := by decide +kernel
theorem dL_lapsesIn_1 : decode cL_lapsesIn 1 = .ok (.iconst 0, 1) := by decide +kernel
theorem dL_lapsesIn_2 : decode cL_lapsesIn 2 = .ok (.aload_n 0, 1) := by decide +kernel
theorem dL_lapsesIn_3 : decode cL_lapsesIn 3 = .ok (.iload_n 1, 1) := by decide +kernel
theorem dL_lapsesIn_4 : decode cL_lapsesIn 4 = .ok (.invokevirtual 106, 3) := by decide +kernel
theorem dL_lapsesIn_7 : decode cL_lapsesIn 7 = .ok (.i2l, 1) := by decide +kernel
theorem dL_lapsesIn_8 : decode cL_lapsesIn 8 = .ok (.lastore, 1) := by decide +kernel
theorem dL_lapsesIn_9 : decode cL_lapsesIn 9 = .ok (.goto 6, 3) := by decide +kernel
theorem dL_lapsesIn_12 : decode cL_lapsesIn 12 = .ok (.astore_n 3, 1) := by decide +kernel
theorem dL_lapsesIn_13 : decode cL_lapsesIn 13 = .ok (.iconst 1, 1) := by decide +kernel
theorem dL_lapsesIn_14 : decode cL_lapsesIn 14 = .ok (.ireturn, 1) := by decide +kernel
theorem dL_lapsesIn_15 : decode cL_lapsesIn 15 = .ok (.iconst 0, 1) := by decide +kernel
theorem dL_lapsesIn_16 : decode cL_lapsesIn 16 = .ok (.ireturn, 1) := by decide +kernel
theorem hs_L_lapsesIn : yL_lapsesIn.cls ≠ "java/lang/invoke/MethodHandle" ∧ yL_lapsesIn.cls ≠ "java/lang/invoke/VarHandle" ∧ (parseMethodDescriptor yL_lapsesIn.desc).map (fun d => d.parameters.length) = some 3 := by decide +kernel
set_option maxHeartbeats 4000000 in
set_option maxRecDepth 100000 in
theorem k_L_lapsesIn (l : Launch) (hls : l.stackTraces = false) (E : Ev) (K : Kd) (z : Nat) (a_0 : Option Nat) (a_1 : Int32) (a_2 : Option Nat) (w : Wd) {r : Int32} {w' : Wd} (hf : f_L_lapsesIn K a_0 a_1 a_2 w = some (r, w')) : Met l yL_lapsesIn (Cond.codeWith yL_lapsesIn cL_lapsesIn 4 (Option.some Jvm.ClassFile.FieldType.int) [(0, 9, 12, 13)] :: bt) ({ frames := 8, cells := 1, slots := 6, locals := 133 } : Room) (va_Pc [rv E a_0, .int a_1, rv E a_2] (HB E K w z)) (QW E K w' r) 1 6 (hA E) := by
  refine MetH_ofW (cc := cL_lapsesIn) (maxL := 4) (ret := (Option.some Jvm.ClassFile.FieldType.int)) (hh := [(0, 9, 12, 13)]) (by decide) rfl ?_
  intro p e s m args below meth c s₁ B hml htab hv
  obtain ⟨rfl, hz, hP, hKs, hT, hb0⟩ := hv
  have C : CX p l e s m _ meth c cL_lapsesIn 4 RL (Option.some Jvm.ClassFile.FieldType.int) E := ⟨B.exec, B.bytes, hml, findClass_of_methodNamed B.named, fun w h => atoms_spec (ws := Cond.codeWith yL_lapsesIn cL_lapsesIn 4 (Option.some Jvm.ClassFile.FieldType.int) [(0, 9, 12, 13)] :: bt) B.pre w (List.mem_cons_of_mem _ h), hKs, hT, by rw [hz]; exact hb0, B.notSynchronized, B.returns⟩
  have hH : HQ E K z w s s.heap [] := ⟨hP, va_S.rf, hz⟩
  obtain ⟨hx, hb, hml, hown, hts, hKs, hT, hb0, hlocks, hret⟩ := id C
  have hl := lv_entry [rv E a_0, .int a_1, rv E a_2] (n := 4) (by simp [lg_len_nil, lg_len_i, lg_len_j, lg_len_q, lg_len_f, lg_len_d, lg_len_r])
  rw [lg_entry_eq]
  generalize (lg_sl [rv E a_0, .int a_1, rv E a_2] ++ List.replicate (4 - (lg_sl [rv E a_0, .int a_1, rv E a_2]).length) Slot.unset).toArray = ls at hl ⊢
  replace hl : lv_has ls 4 [(0, rv E a_0), (1, .int a_1), (2, rv E a_2)] := by simpa only [lv_args, cat_q, cat_i, cat_j, reduceIte, Nat.reduceEqDiff, Nat.reduceAdd, Nat.zero_add] using hl
  generalize s.heap = H at hH ⊢
  unfold f_L_lapsesIn at hf
  refine hl_aload_n hx hb dL_lapsesIn_0 rfl (lv_at hl 2 rfl) ?_
  refine lv_iconst (v := 0) hx hb dL_lapsesIn_1 (by decide) ?_
  refine hl_aload_n hx hb dL_lapsesIn_2 rfl (lv_at hl 0 rfl) ?_
  refine lv_iload_n hx hb dL_lapsesIn_3 rfl (lv_at hl 1 rfl) ?_
  obtain ⟨a1, ha1, hf⟩ := bnd hf
  replace ha1 := chk_some ha1
  obtain ⟨q2, hq2, hf⟩ := bnd hf
  refine hxC_i hx hb hml hown hts hKs hT hb0 hH (As := [.int a_1]) (rest := [.int 0, rv E a_2]) (k_X12_lapsesIn l hls E K H.size a1 a_1 w ha1.2 hq2) (gV m6_127 m6_128 m6_129 m1_1 m6_130) hd_X12_lapsesIn ⟨Nat.le_of_ble_eq_true rfl, Nat.le_of_ble_eq_true rfl, rfl, rfl⟩ ha1.1 ha1.2 rfl rfl rfl hl.1 rfl (rcI (rcV rc0)) rfl dL_lapsesIn_4 ⟨Nat.le_of_ble_eq_true rfl, Nat.le_of_ble_eq_true rfl⟩ (fun c4 hc4 H locs q9 ce9 hH hc9 hv9 hf9 => ?_) (fun v3 hv3 H locs hH => ?_)
  · replace hf := (xh_inr hc4).symm.trans hf
    by_cases h5 : c4 = 2
    · subst h5
      replace hf := (if_pos rfl).symm.trans hf
      refine vx_catch (name := "java/lang/IllegalArgumentException") hown [] ⟨0, 9, 12, 13⟩ [] htab pass0 (by decide) (by decide) (hts _ m4_212) (va_Nw.use rfl (hKs.2.1 _ m4_219)) hc9 hv9 hf9 ?_
      refine lv_astore_n (i := 3) (lv' := [(3, .ref q9), (0, rv E a_0), (1, .int a_1), (2, rv E a_2)]) hx hb dL_lapsesIn_12 rfl hl (by decide) (by simp [List.filter_cons, cat_q, cat_i, cat_j, imax, imin]) (fun ls hl => ?_)
      refine lv_iconst (v := 1) hx hb dL_lapsesIn_13 (by decide) ?_
      exact hw_wret hx hb (Nat.le_of_ble_eq_true rfl) (Nat.le_of_ble_eq_true rfl) hret hf hH hlocks dL_lapsesIn_14
    replace hf := (if_neg h5).symm.trans hf
    cases hf
  · replace hf := (xh_inl hv3).symm.trans hf
    refine lv_i2l (v := (v3.toInt64)) hx hb dL_lapsesIn_7 rfl ?_
    obtain ⟨a6, ha6, hf⟩ := bnd hf
    replace ha6 := cha_some ha6
    obtain ⟨j7, hj7, hf⟩ := bnd hf
    obtain ⟨w8, hw8, hf⟩ := bnd hf
    replace hw8 := Option.some.inj hw8
    refine hw_last (x := (v3.toInt64)) hx hb hKs hH ha6.1 ha6.2 hj7 dL_lapsesIn_8 (fun H locs hH => ?_)
    rw [hw8] at hH
    refine lv_goto (tgt := 15) hx hb dL_lapsesIn_9 (by decide) ?_
    refine lv_iconst (v := 0) hx hb dL_lapsesIn_15 (by decide) ?_
    exact hw_wret hx hb (Nat.le_of_ble_eq_true rfl) (Nat.le_of_ble_eq_true rfl) hret hf hH hlocks dL_lapsesIn_16

theorem dL_restoreState_0 : decode cL_restoreState 0 = .ok (.aload_n 1, 1) := by decide +kernel
theorem dL_restoreState_1 : decode cL_restoreState 1 = .ok (.iconst 0, 1) := by decide +kernel
theorem dL_restoreState_2 : decode cL_restoreState 2 = .ok (.aload_n 0, 1) := by decide +kernel
theorem dL_restoreState_3 : decode cL_restoreState 3 = .ok (.invokevirtual 112, 3) := by decide +kernel
theorem dL_restoreState_6 : decode cL_restoreState 6 = .ok (.i2l, 1) := by decide +kernel
theorem dL_restoreState_7 : decode cL_restoreState 7 = .ok (.lastore, 1) := by decide +kernel
theorem dL_restoreState_8 : decode cL_restoreState 8 = .ok (.goto 6, 3) := by decide +kernel
theorem dL_restoreState_11 : decode cL_restoreState 11 = .ok (.astore_n 2, 1) := by decide +kernel
theorem dL_restoreState_12 : decode cL_restoreState 12 = .ok (.iconst 1, 1) := by decide +kernel
theorem dL_restoreState_13 : decode cL_restoreState 13 = .ok (.ireturn, 1) := by decide +kernel
theorem dL_restoreState_14 : decode cL_restoreState 14 = .ok (.iconst 0, 1) := by decide +kernel
theorem dL_restoreState_15 : decode cL_restoreState 15 = .ok (.ireturn, 1) := by decide +kernel
theorem hs_L_restoreState : yL_restoreState.cls ≠ "java/lang/invoke/MethodHandle" ∧ yL_restoreState.cls ≠ "java/lang/invoke/VarHandle" ∧ (parseMethodDescriptor yL_restoreState.desc).map (fun d => d.parameters.length) = some 2 := by decide +kernel
set_option maxHeartbeats 4000000 in
set_option maxRecDepth 100000 in
theorem k_L_restoreState (l : Launch) (hls : l.stackTraces = false) (E : Ev) (K : Kd) (z : Nat) (a_0 : Option Nat) (a_1 : Option Nat) (w : Wd) {r : Int32} {w' : Wd} (hf : f_L_restoreState K a_0 a_1 w = some (r, w')) : Met l yL_restoreState (Cond.codeWith yL_restoreState cL_restoreState 3 (Option.some Jvm.ClassFile.FieldType.int) [(0, 8, 11, 58)] :: bt) ({ frames := 7, cells := 1, slots := 6, locals := 123 } : Room) (va_Pc [rv E a_0, rv E a_1] (HB E K w z)) (QW E K w' r) 1 6 (hA E) := by
  refine MetH_ofW (cc := cL_restoreState) (maxL := 3) (ret := (Option.some Jvm.ClassFile.FieldType.int)) (hh := [(0, 8, 11, 58)]) (by decide) rfl ?_
  intro p e s m args below meth c s₁ B hml htab hv
  obtain ⟨rfl, hz, hP, hKs, hT, hb0⟩ := hv
  have C : CX p l e s m _ meth c cL_restoreState 3 RL (Option.some Jvm.ClassFile.FieldType.int) E := ⟨B.exec, B.bytes, hml, findClass_of_methodNamed B.named, fun w h => atoms_spec (ws := Cond.codeWith yL_restoreState cL_restoreState 3 (Option.some Jvm.ClassFile.FieldType.int) [(0, 8, 11, 58)] :: bt) B.pre w (List.mem_cons_of_mem _ h), hKs, hT, by rw [hz]; exact hb0, B.notSynchronized, B.returns⟩
  have hH : HQ E K z w s s.heap [] := ⟨hP, va_S.rf, hz⟩
  obtain ⟨hx, hb, hml, hown, hts, hKs, hT, hb0, hlocks, hret⟩ := id C
  have hl := lv_entry [rv E a_0, rv E a_1] (n := 3) (by simp [lg_len_nil, lg_len_i, lg_len_j, lg_len_q, lg_len_f, lg_len_d, lg_len_r])
  rw [lg_entry_eq]
  generalize (lg_sl [rv E a_0, rv E a_1] ++ List.replicate (3 - (lg_sl [rv E a_0, rv E a_1]).length) Slot.unset).toArray = ls at hl ⊢
  replace hl : lv_has ls 3 [(0, rv E a_0), (1, rv E a_1)] := by simpa only [lv_args, cat_q, cat_i, cat_j, reduceIte, Nat.reduceEqDiff, Nat.reduceAdd, Nat.zero_add] using hl
  generalize s.heap = H at hH ⊢
  unfold f_L_restoreState at hf
  refine hl_aload_n hx hb dL_restoreState_0 rfl (lv_at hl 1 rfl) ?_
  refine lv_iconst (v := 0) hx hb dL_restoreState_1 (by decide) ?_
  refine hl_aload_n hx hb dL_restoreState_2 rfl (lv_at hl 0 rfl) ?_
  obtain ⟨a1, ha1, hf⟩ := bnd hf
  replace ha1 := chk_some ha1
  obtain ⟨q2, hq2, hf⟩ := bnd hf
  refine hxC_i hx hb hml hown hts hKs hT hb0 hH (As := []) (rest := [.int 0, rv E a_1]) (k_X12_restoreState l hls E K H.size a1 w ha1.2 hq2) (gV m6_157 m6_158 m6_159 m1_1 m6_160) hd_X12_restoreState ⟨Nat.le_of_ble_eq_true rfl, Nat.le_of_ble_eq_true rfl, rfl, rfl⟩ ha1.1 ha1.2 rfl rfl rfl hl.1 rfl (rcI (rcV rc0)) rfl dL_restoreState_3 ⟨Nat.le_of_ble_eq_true rfl, Nat.le_of_ble_eq_true rfl⟩ (fun c4 hc4 H locs q9 ce9 hH hc9 hv9 hf9 => ?_) (fun v3 hv3 H locs hH => ?_)
  · replace hf := (xh_inr hc4).symm.trans hf
    by_cases h5 : c4 = 3
    · subst h5
      replace hf := (if_pos rfl).symm.trans hf
      refine vx_catch (name := "java/lang/IllegalStateException") hown [] ⟨0, 8, 11, 58⟩ [] htab pass0 (by decide) (by decide) (hts _ m5_181) (va_Nw.use rfl (hKs.2.1 _ m5_196)) hc9 hv9 hf9 ?_
      refine lv_astore_n (i := 2) (lv' := [(2, .ref q9), (0, rv E a_0), (1, rv E a_1)]) hx hb dL_restoreState_11 rfl hl (by decide) (by simp [List.filter_cons, cat_q, cat_i, cat_j, imax, imin]) (fun ls hl => ?_)
      refine lv_iconst (v := 1) hx hb dL_restoreState_12 (by decide) ?_
      exact hw_wret hx hb (Nat.le_of_ble_eq_true rfl) (Nat.le_of_ble_eq_true rfl) hret hf hH hlocks dL_restoreState_13
    replace hf := (if_neg h5).symm.trans hf
    cases hf
  · replace hf := (xh_inl hv3).symm.trans hf
    refine lv_i2l (v := (v3.toInt64)) hx hb dL_restoreState_6 rfl ?_
    obtain ⟨a6, ha6, hf⟩ := bnd hf
    replace ha6 := cha_some ha6
    obtain ⟨j7, hj7, hf⟩ := bnd hf
    obtain ⟨w8, hw8, hf⟩ := bnd hf
    replace hw8 := Option.some.inj hw8
    refine hw_last (x := (v3.toInt64)) hx hb hKs hH ha6.1 ha6.2 hj7 dL_restoreState_7 (fun H locs hH => ?_)
    rw [hw8] at hH
    refine lv_goto (tgt := 14) hx hb dL_restoreState_8 (by decide) ?_
    refine lv_iconst (v := 0) hx hb dL_restoreState_14 (by decide) ?_
    exact hw_wret hx hb (Nat.le_of_ble_eq_true rfl) (Nat.le_of_ble_eq_true rfl) hret hf hH hlocks dL_restoreState_15

theorem dJ0_checkIndex_df160_0 : decode cJ0_checkIndex_df160 0 = .ok (.iload_n 0, 1) := by decide +kernel
theorem dJ0_checkIndex_df160_1 : decode cJ0_checkIndex_df160 1 = .ok (.iload_n 1, 1) := by decide +kernel
theorem dJ0_checkIndex_df160_2 : decode cJ0_checkIndex_df160 2 = .ok (.getstatic 1053, 3) := by decide +kernel
theorem dJ0_checkIndex_df160_5 : decode cJ0_checkIndex_df160 5 = .ok (.invokestatic 1059, 3) := by decide +kernel
theorem dJ0_checkIndex_df160_8 : decode cJ0_checkIndex_df160 8 = .ok (.pop, 1) := by decide +kernel
theorem dJ0_checkIndex_df160_9 : decode cJ0_checkIndex_df160 9 = .ok (.return_, 1) := by decide +kernel
theorem hs_J0_checkIndex_df160 : yJ0_checkIndex_df160.cls ≠ "java/lang/invoke/MethodHandle" ∧ yJ0_checkIndex_df160.cls ≠ "java/lang/invoke/VarHandle" ∧ (parseMethodDescriptor yJ0_checkIndex_df160.desc).map (fun d => d.parameters.length) = some 2 := by decide +kernel
set_option maxHeartbeats 4000000 in
set_option maxRecDepth 100000 in
theorem k_J0_checkIndex_df160 (l : Launch) (E : Ev) (K : Kd) (z : Nat) (a_0 : Int32) (a_1 : Int32) (w : Wd) {w' : Wd} (hf : f_J0_checkIndex_df160 K a_0 a_1 w = some w') : Met l yJ0_checkIndex_df160 (Cond.code yJ0_checkIndex_df160 cJ0_checkIndex_df160 2 (Option.none : Option Jvm.ClassFile.FieldType) :: bt) ({ frames := 1, cells := 0, slots := 0, locals := 22 } : Room) (va_Pc [.int a_0, .int a_1] (HB E K w z)) (QV E K z w') 0 0 (hA E) := by
  refine Met.ofW (cc := cJ0_checkIndex_df160) (maxL := 2) (ret := (Option.none : Option Jvm.ClassFile.FieldType)) (by decide) rfl ?_
  intro p e s m args below meth c s₁ B hml hv
  obtain ⟨rfl, hz, hP, hKs, hT, hb0⟩ := hv
  have C : CX p l e s m _ meth c cJ0_checkIndex_df160 2 RJ0 (Option.none : Option Jvm.ClassFile.FieldType) E := ⟨B.exec, B.bytes, hml, findClass_of_methodNamed B.named, fun w h => atoms_spec (ws := Cond.code yJ0_checkIndex_df160 cJ0_checkIndex_df160 2 (Option.none : Option Jvm.ClassFile.FieldType) :: bt) B.pre w (List.mem_cons_of_mem _ h), hKs, hT, by rw [hz]; exact hb0, B.notSynchronized, B.returns⟩
  have hH : HQ E K z w s s.heap [] := ⟨hP, va_S.rf, hz⟩
  obtain ⟨hx, hb, hml, hown, hts, hKs, hT, hb0, hlocks, hret⟩ := id C
  have hl := lv_entry [.int a_0, .int a_1] (n := 2) (by simp [lg_len_nil, lg_len_i, lg_len_j, lg_len_q, lg_len_f, lg_len_d, lg_len_r])
  rw [lg_entry_eq]
  generalize (lg_sl [.int a_0, .int a_1] ++ List.replicate (2 - (lg_sl [.int a_0, .int a_1]).length) Slot.unset).toArray = ls at hl ⊢
  replace hl : lv_has ls 2 [(0, .int a_0), (1, .int a_1)] := by simpa only [lv_args, cat_q, cat_i, cat_j, reduceIte, Nat.reduceEqDiff, Nat.reduceAdd, Nat.zero_add] using hl
  generalize s.heap = H at hH ⊢
  unfold f_J0_checkIndex_df160 at hf
  refine lv_iload_n hx hb dJ0_checkIndex_df160_0 rfl (lv_at hl 0 rfl) ?_
  refine lv_iload_n hx hb dJ0_checkIndex_df160_1 rfl (lv_at hl 1 rfl) ?_
  refine hw_fmt hx hb hts hown hT hH m9_20 dJ0_checkIndex_df160_2 (fun x1 => ?_)
  obtain ⟨q2, hq2, hf⟩ := bnd hf
  refine hcS_i hx hb hml hown hts hKs hT hb0 hH (As := [.int a_0, .int a_1, va_rf x1]) (rest := []) (k_J3_checkIndex_8e157 l E K H.size a_0 a_1 w x1 hq2) (gS m9_22 m9_23 m1_21 m9_24) hs_J3_checkIndex_8e157 ⟨Nat.le_of_ble_eq_true rfl, Nat.le_of_ble_eq_true rfl, rfl, rfl⟩ hl.1 rfl rc0 rfl dJ0_checkIndex_df160_5 ⟨Nat.zero_le _, Nat.zero_le _⟩ (fun H locs hH => ?_)
  refine lv_pop hx hb dJ0_checkIndex_df160_8 rfl ?_
  exact hw_vret hx hb hret hf hH hlocks dJ0_checkIndex_df160_9

theorem dJ1_charAt_3b067_0 : decode cJ1_charAt_3b067 0 = .ok (.iload_n 1, 1) := by decide +kernel
theorem dJ1_charAt_3b067_1 : decode cJ1_charAt_3b067 1 = .ok (.aload_n 0, 1) := by decide +kernel
theorem dJ1_charAt_3b067_2 : decode cJ1_charAt_3b067 2 = .ok (.arraylength, 1) := by decide +kernel
theorem dJ1_charAt_3b067_3 : decode cJ1_charAt_3b067 3 = .ok (.invokestatic 9, 3) := by decide +kernel
theorem dJ1_charAt_3b067_6 : decode cJ1_charAt_3b067 6 = .ok (.aload_n 0, 1) := by decide +kernel
theorem dJ1_charAt_3b067_7 : decode cJ1_charAt_3b067 7 = .ok (.iload_n 1, 1) := by decide +kernel
theorem dJ1_charAt_3b067_8 : decode cJ1_charAt_3b067 8 = .ok (.baload, 1) := by decide +kernel
theorem dJ1_charAt_3b067_9 : decode cJ1_charAt_3b067 9 = .ok (.sipush 255, 3) := by decide +kernel
theorem dJ1_charAt_3b067_12 : decode cJ1_charAt_3b067 12 = .ok (.iand, 1) := by decide +kernel
theorem dJ1_charAt_3b067_13 : decode cJ1_charAt_3b067 13 = .ok (.i2c, 1) := by decide +kernel
theorem dJ1_charAt_3b067_14 : decode cJ1_charAt_3b067 14 = .ok (.ireturn, 1) := by decide +kernel
theorem hs_J1_charAt_3b067 : yJ1_charAt_3b067.cls ≠ "java/lang/invoke/MethodHandle" ∧ yJ1_charAt_3b067.cls ≠ "java/lang/invoke/VarHandle" ∧ (parseMethodDescriptor yJ1_charAt_3b067.desc).map (fun d => d.parameters.length) = some 2 := by decide +kernel
set_option maxHeartbeats 4000000 in
set_option maxRecDepth 100000 in
theorem k_J1_charAt_3b067 (l : Launch) (E : Ev) (K : Kd) (z : Nat) (a_1 : Int32) (w : Wd) {r : Int32} {w' : Wd} (hf : f_J1_charAt_3b067 K a_1 w = some (r, w')) : Met l yJ1_charAt_3b067 (Cond.code yJ1_charAt_3b067 cJ1_charAt_3b067 2 (Option.some Jvm.ClassFile.FieldType.char) :: bt) ({ frames := 2, cells := 0, slots := 0, locals := 43 } : Room) (va_Pc [.ref (E.2.2.2 202), .int a_1] (HB E K w z)) (QI E K z w' r) 0 0 (hA E) := by
  refine Met.ofW (cc := cJ1_charAt_3b067) (maxL := 2) (ret := (Option.some Jvm.ClassFile.FieldType.char)) (by decide) rfl ?_
  intro p e s m args below meth c s₁ B hml hv
  obtain ⟨rfl, hz, hP, hKs, hT, hb0⟩ := hv
  have C : CX p l e s m _ meth c cJ1_charAt_3b067 2 RJ1 (Option.some Jvm.ClassFile.FieldType.char) E := ⟨B.exec, B.bytes, hml, findClass_of_methodNamed B.named, fun w h => atoms_spec (ws := Cond.code yJ1_charAt_3b067 cJ1_charAt_3b067 2 (Option.some Jvm.ClassFile.FieldType.char) :: bt) B.pre w (List.mem_cons_of_mem _ h), hKs, hT, by rw [hz]; exact hb0, B.notSynchronized, B.returns⟩
  have hH : HQ E K z w s s.heap [] := ⟨hP, va_S.rf, hz⟩
  obtain ⟨hx, hb, hml, hown, hts, hKs, hT, hb0, hlocks, hret⟩ := id C
  have hl := lv_entry [.ref (E.2.2.2 202), .int a_1] (n := 2) (by simp [lg_len_nil, lg_len_i, lg_len_j, lg_len_q, lg_len_f, lg_len_d, lg_len_r])
  rw [lg_entry_eq]
  generalize (lg_sl [.ref (E.2.2.2 202), .int a_1] ++ List.replicate (2 - (lg_sl [.ref (E.2.2.2 202), .int a_1]).length) Slot.unset).toArray = ls at hl ⊢
  replace hl : lv_has ls 2 [(0, .ref (E.2.2.2 202)), (1, .int a_1)] := by simpa only [lv_args, cat_q, cat_i, cat_j, (show ∀ x : Nat, (Value.ref x).category = 1 from fun _ => rfl), reduceIte, Nat.reduceEqDiff, Nat.reduceAdd, Nat.zero_add] using hl
  generalize s.heap = H at hH ⊢
  unfold f_J1_charAt_3b067 at hf
  refine lv_iload_n hx hb dJ1_charAt_3b067_0 rfl (lv_at hl 1 rfl) ?_
  refine lv_aload_n hx hb dJ1_charAt_3b067_1 rfl (lv_at hl 0 rfl) ?_
  refine hw_blen hx hb hT hH dJ1_charAt_3b067_2 ?_
  obtain ⟨q1, hq1, hf⟩ := bnd hf
  refine hcS_v hx hb hml hown hts hKs hT hb0 hH (As := [.int a_1, .int ((101 : Int32))]) (rest := []) (k_J0_checkIndex_df160 l E K H.size a_1 (101 : Int32) w hq1) (gS m9_17 m9_18 m1_19 m9_19) hs_J0_checkIndex_df160 ⟨Nat.le_of_ble_eq_true rfl, Nat.le_of_ble_eq_true rfl, rfl, rfl⟩ hl.1 rfl rc0 rfl dJ1_charAt_3b067_3 ⟨Nat.zero_le _, Nat.zero_le _⟩ (fun H locs hH => ?_)
  refine lv_aload_n hx hb dJ1_charAt_3b067_6 rfl (lv_at hl 0 rfl) ?_
  refine lv_iload_n hx hb dJ1_charAt_3b067_7 rfl (lv_at hl 1 rfl) ?_
  obtain ⟨j2, hj2, hf⟩ := bnd hf
  refine hw_bat hx hb hT hH hj2 dJ1_charAt_3b067_8 ?_
  refine lv_sipush (v := 255) hx hb dJ1_charAt_3b067_9 (by decide) ?_
  refine lv_iand hx hb dJ1_charAt_3b067_12 ?_
  refine lv_i2c (v := (i2cI ((wordsB.getD j2 0) &&& 255))) hx hb dJ1_charAt_3b067_13 rfl ?_
  exact hw_nret hx hb hret (pk_nc _) hf hH hlocks dJ1_charAt_3b067_14

theorem dX12_count_0 : decode cX12_count 0 = .ok (.iload_n 1, 1) := by decide +kernel
theorem dX12_count_1 : decode cX12_count 1 = .ok (.tableswitch 209 0 13 #[71, 83, 95, 107, 119, 130, 138, 149, 157, 168, 173, 182, 191, 200], 71) := by decide +kernel
theorem dX12_count_72 : decode cX12_count 72 = .ok (.aload_n 0, 1) := by decide +kernel
theorem dX12_count_73 : decode cX12_count 73 = .ok (.getfield 35, 3) := by decide +kernel
theorem dX12_count_76 : decode cX12_count 76 = .ok (.getfield 87, 3) := by decide +kernel
theorem dX12_count_79 : decode cX12_count 79 = .ok (.iconst 0, 1) := by decide +kernel
theorem dX12_count_80 : decode cX12_count 80 = .ok (.invokevirtual 105, 3) := by decide +kernel
theorem dX12_count_83 : decode cX12_count 83 = .ok (.ireturn, 1) := by decide +kernel
theorem dX12_count_84 : decode cX12_count 84 = .ok (.aload_n 0, 1) := by decide +kernel
theorem dX12_count_85 : decode cX12_count 85 = .ok (.getfield 35, 3) := by decide +kernel
theorem dX12_count_88 : decode cX12_count 88 = .ok (.getfield 87, 3) := by decide +kernel
theorem dX12_count_91 : decode cX12_count 91 = .ok (.iconst 1, 1) := by decide +kernel
theorem dX12_count_92 : decode cX12_count 92 = .ok (.invokevirtual 105, 3) := by decide +kernel
theorem dX12_count_95 : decode cX12_count 95 = .ok (.ireturn, 1) := by decide +kernel
theorem dX12_count_96 : decode cX12_count 96 = .ok (.aload_n 0, 1) := by decide +kernel
theorem dX12_count_97 : decode cX12_count 97 = .ok (.getfield 35, 3) := by decide +kernel
theorem dX12_count_100 : decode cX12_count 100 = .ok (.getfield 87, 3) := by decide +kernel
theorem dX12_count_103 : decode cX12_count 103 = .ok (.iconst 2, 1) := by decide +kernel
theorem dX12_count_104 : decode cX12_count 104 = .ok (.invokevirtual 105, 3) := by decide +kernel
theorem dX12_count_107 : decode cX12_count 107 = .ok (.ireturn, 1) := by decide +kernel
theorem dX12_count_108 : decode cX12_count 108 = .ok (.aload_n 0, 1) := by decide +kernel
theorem dX12_count_109 : decode cX12_count 109 = .ok (.getfield 35, 3) := by decide +kernel
theorem dX12_count_112 : decode cX12_count 112 = .ok (.getfield 87, 3) := by decide +kernel
theorem dX12_count_115 : decode cX12_count 115 = .ok (.iconst 3, 1) := by decide +kernel
theorem dX12_count_116 : decode cX12_count 116 = .ok (.invokevirtual 105, 3) := by decide +kernel
theorem dX12_count_119 : decode cX12_count 119 = .ok (.ireturn, 1) := by decide +kernel
theorem dX12_count_120 : decode cX12_count 120 = .ok (.aload_n 0, 1) := by decide +kernel
theorem dX12_count_121 : decode cX12_count 121 = .ok (.getfield 35, 3) := by decide +kernel
theorem dX12_count_124 : decode cX12_count 124 = .ok (.getfield 109, 3) := by decide +kernel
theorem dX12_count_127 : decode cX12_count 127 = .ok (.getfield 113, 3) := by decide +kernel
theorem dX12_count_130 : decode cX12_count 130 = .ok (.ireturn, 1) := by decide +kernel
theorem dX12_count_131 : decode cX12_count 131 = .ok (.aload_n 0, 1) := by decide +kernel
theorem dX12_count_132 : decode cX12_count 132 = .ok (.getfield 35, 3) := by decide +kernel
theorem dX12_count_135 : decode cX12_count 135 = .ok (.invokevirtual 117, 3) := by decide +kernel
theorem dX12_count_138 : decode cX12_count 138 = .ok (.ireturn, 1) := by decide +kernel
theorem dX12_count_139 : decode cX12_count 139 = .ok (.aload_n 0, 1) := by decide +kernel
theorem dX12_count_140 : decode cX12_count 140 = .ok (.getfield 35, 3) := by decide +kernel
theorem dX12_count_143 : decode cX12_count 143 = .ok (.getfield 87, 3) := by decide +kernel
theorem dX12_count_146 : decode cX12_count 146 = .ok (.invokevirtual 121, 3) := by decide +kernel
theorem dX12_count_149 : decode cX12_count 149 = .ok (.ireturn, 1) := by decide +kernel
theorem dX12_count_150 : decode cX12_count 150 = .ok (.aload_n 0, 1) := by decide +kernel
theorem dX12_count_151 : decode cX12_count 151 = .ok (.getfield 35, 3) := by decide +kernel
theorem dX12_count_154 : decode cX12_count 154 = .ok (.getfield 124, 3) := by decide +kernel
theorem dX12_count_157 : decode cX12_count 157 = .ok (.ireturn, 1) := by decide +kernel
theorem dX12_count_158 : decode cX12_count 158 = .ok (.aload_n 0, 1) := by decide +kernel
theorem dX12_count_159 : decode cX12_count 159 = .ok (.getfield 35, 3) := by decide +kernel
theorem dX12_count_162 : decode cX12_count 162 = .ok (.getfield 87, 3) := by decide +kernel
theorem dX12_count_165 : decode cX12_count 165 = .ok (.getfield 127, 3) := by decide +kernel
theorem dX12_count_168 : decode cX12_count 168 = .ok (.ireturn, 1) := by decide +kernel
theorem dX12_count_169 : decode cX12_count 169 = .ok (.aload_n 0, 1) := by decide +kernel
theorem dX12_count_170 : decode cX12_count 170 = .ok (.getfield 102, 3) := by decide +kernel
theorem dX12_count_173 : decode cX12_count 173 = .ok (.ireturn, 1) := by decide +kernel
theorem dX12_count_174 : decode cX12_count 174 = .ok (.aload_n 0, 1) := by decide +kernel
theorem dX12_count_175 : decode cX12_count 175 = .ok (.getfield 35, 3) := by decide +kernel
theorem dX12_count_178 : decode cX12_count 178 = .ok (.iconst 0, 1) := by decide +kernel
theorem dX12_count_179 : decode cX12_count 179 = .ok (.invokevirtual 130, 3) := by decide +kernel
theorem dX12_count_182 : decode cX12_count 182 = .ok (.ireturn, 1) := by decide +kernel
theorem dX12_count_183 : decode cX12_count 183 = .ok (.aload_n 0, 1) := by decide +kernel
theorem dX12_count_184 : decode cX12_count 184 = .ok (.getfield 35, 3) := by decide +kernel
theorem dX12_count_187 : decode cX12_count 187 = .ok (.iconst 1, 1) := by decide +kernel
theorem dX12_count_188 : decode cX12_count 188 = .ok (.invokevirtual 130, 3) := by decide +kernel
theorem dX12_count_191 : decode cX12_count 191 = .ok (.ireturn, 1) := by decide +kernel
theorem dX12_count_192 : decode cX12_count 192 = .ok (.aload_n 0, 1) := by decide +kernel
theorem dX12_count_193 : decode cX12_count 193 = .ok (.getfield 35, 3) := by decide +kernel
theorem dX12_count_196 : decode cX12_count 196 = .ok (.iconst 2, 1) := by decide +kernel
theorem dX12_count_197 : decode cX12_count 197 = .ok (.invokevirtual 130, 3) := by decide +kernel
theorem dX12_count_200 : decode cX12_count 200 = .ok (.ireturn, 1) := by decide +kernel
theorem dX12_count_201 : decode cX12_count 201 = .ok (.aload_n 0, 1) := by decide +kernel
theorem dX12_count_202 : decode cX12_count 202 = .ok (.getfield 35, 3) := by decide +kernel
theorem dX12_count_205 : decode cX12_count 205 = .ok (.iconst 3, 1) := by decide +kernel
theorem dX12_count_206 : decode cX12_count 206 = .ok (.invokevirtual 130, 3) := by decide +kernel
theorem dX12_count_209 : decode cX12_count 209 = .ok (.ireturn, 1) := by decide +kernel
theorem dX12_count_210 : decode cX12_count 210 = .ok (.iconst (-1), 1) := by decide +kernel
theorem dX12_count_211 : decode cX12_count 211 = .ok (.ireturn, 1) := by decide +kernel
theorem hd_X12_count : yX12_count.cls = RX12 ∧ yX12_count.cls ≠ "java/lang/invoke/MethodHandle" ∧ yX12_count.cls ≠ "java/lang/invoke/VarHandle" ∧ (parseMethodDescriptor yX12_count.desc).map (fun d => d.parameters.length) = some 1 := by decide +kernel
theorem hs_X12_count : yX12_count.cls ≠ "java/lang/invoke/MethodHandle" ∧ yX12_count.cls ≠ "java/lang/invoke/VarHandle" ∧ (parseMethodDescriptor yX12_count.desc).map (fun d => d.parameters.length) = some 1 := by decide +kernel
set_option maxHeartbeats 4000000 in
set_option maxRecDepth 100000 in
theorem k_X12_count (l : Launch) (E : Ev) (K : Kd) (z : Nat) (o : Nat) (a_1 : Int32) (w : Wd) (ho : K o = some (10, 0)) {r : Int32} {w' : Wd} (hf : f_X12_count K o a_1 w = some (r, w')) : Met l yX12_count (Cond.code yX12_count cX12_count 2 (Option.some Jvm.ClassFile.FieldType.int) :: bt) ({ frames := 2, cells := 0, slots := 0, locals := 44 } : Room) (va_Pc [rv E (some o), .int a_1] (HB E K w z)) (QI E K z w' r) 0 0 (hA E) := by
  refine Met.ofW (cc := cX12_count) (maxL := 2) (ret := (Option.some Jvm.ClassFile.FieldType.int)) (by decide) rfl ?_
  intro p e s m args below meth c s₁ B hml hv
  obtain ⟨rfl, hz, hP, hKs, hT, hb0⟩ := hv
  have C : CX p l e s m _ meth c cX12_count 2 RX12 (Option.some Jvm.ClassFile.FieldType.int) E := ⟨B.exec, B.bytes, hml, findClass_of_methodNamed B.named, fun w h => atoms_spec (ws := Cond.code yX12_count cX12_count 2 (Option.some Jvm.ClassFile.FieldType.int) :: bt) B.pre w (List.mem_cons_of_mem _ h), hKs, hT, by rw [hz]; exact hb0, B.notSynchronized, B.returns⟩
  have hH : HQ E K z w s s.heap [] := ⟨hP, va_S.rf, hz⟩
  obtain ⟨hx, hb, hml, hown, hts, hKs, hT, hb0, hlocks, hret⟩ := id C
  have hl := lv_entry [rv E (some o), .int a_1] (n := 2) (by simp [lg_len_nil, lg_len_i, lg_len_j, lg_len_q, lg_len_f, lg_len_d, lg_len_r])
  rw [lg_entry_eq]
  generalize (lg_sl [rv E (some o), .int a_1] ++ List.replicate (2 - (lg_sl [rv E (some o), .int a_1]).length) Slot.unset).toArray = ls at hl ⊢
  replace hl : lv_has ls 2 [(0, rv E (some o)), (1, .int a_1)] := by simpa only [lv_args, cat_q, cat_i, cat_j, reduceIte, Nat.reduceEqDiff, Nat.reduceAdd, Nat.zero_add] using hl
  generalize s.heap = H at hH ⊢
  unfold f_X12_count at hf
  refine lv_iload_n hx hb dX12_count_0 rfl (lv_at hl 1 rfl) ?_
  by_cases c1 : (a_1 < 0 ∨ 13 < a_1)
  · replace hf := (if_pos c1).symm.trans hf
    refine hl_tabOut (tgt := 210) hx hb dX12_count_1 c1 (by decide) (by decide) (by decide) ?_
    refine lv_iconst (v := (-1)) hx hb dX12_count_210 (by decide) ?_
    exact hw_iret hx hb hret hf hH hlocks dX12_count_211
  replace hf := (if_neg c1).symm.trans hf
  by_cases c2 : a_1 = 0
  · replace hf := (if_pos c2).symm.trans hf
    refine hl_tabIn (tgt := 72) hx hb dX12_count_1 c2 (by decide) (by decide) rfl (by decide) ?_
    refine hl_aload_n hx hb dX12_count_72 rfl (lv_at hl 0 rfl) ?_
    refine g12_5 hx hb hts hown hKs hH rfl ho m2_224 dX12_count_73 ?_
    obtain ⟨a3, ha3, hf⟩ := bnd hf
    replace ha3 := chk_some ha3
    refine gn10_0 hx hb hts hown hKs hH ha3.1 ha3.2 m2_122 dX12_count_76 ?_
    refine lv_iconst (v := 0) hx hb dX12_count_79 (by decide) ?_
    obtain ⟨a4, ha4, hf⟩ := bnd hf
    replace ha4 := chk_some ha4
    obtain ⟨q5, hq5, hf⟩ := bnd hf
    refine hcV_i hx hb hml hown hts hKs hT hb0 hH (As := [.int 0]) (rest := []) (k_X9_size l E K H.size a4 0 w ha4.2 hq5) (gV m3_229 m3_151 m3_152 m1_2 m3_153) hd_X9_size ⟨Nat.le_of_ble_eq_true rfl, Nat.le_of_ble_eq_true rfl, rfl, rfl⟩ ha4.1 ha4.2 rfl rfl rfl hl.1 rfl rc0 rfl dX12_count_80 ⟨Nat.zero_le _, Nat.zero_le _⟩ (fun H locs hH => ?_)
    exact hw_iret hx hb hret hf hH hlocks dX12_count_83
  replace hf := (if_neg c2).symm.trans hf
  by_cases c6 : a_1 = 1
  · replace hf := (if_pos c6).symm.trans hf
    refine hl_tabIn (tgt := 84) hx hb dX12_count_1 c6 (by decide) (by decide) rfl (by decide) ?_
    refine hl_aload_n hx hb dX12_count_84 rfl (lv_at hl 0 rfl) ?_
    refine g12_5 hx hb hts hown hKs hH rfl ho m2_224 dX12_count_85 ?_
    obtain ⟨a7, ha7, hf⟩ := bnd hf
    replace ha7 := chk_some ha7
    refine gn10_0 hx hb hts hown hKs hH ha7.1 ha7.2 m2_122 dX12_count_88 ?_
    refine lv_iconst (v := 1) hx hb dX12_count_91 (by decide) ?_
    obtain ⟨a8, ha8, hf⟩ := bnd hf
    replace ha8 := chk_some ha8
    obtain ⟨q9, hq9, hf⟩ := bnd hf
    refine hcV_i hx hb hml hown hts hKs hT hb0 hH (As := [.int 1]) (rest := []) (k_X9_size l E K H.size a8 1 w ha8.2 hq9) (gV m3_229 m3_151 m3_152 m1_2 m3_153) hd_X9_size ⟨Nat.le_of_ble_eq_true rfl, Nat.le_of_ble_eq_true rfl, rfl, rfl⟩ ha8.1 ha8.2 rfl rfl rfl hl.1 rfl rc0 rfl dX12_count_92 ⟨Nat.zero_le _, Nat.zero_le _⟩ (fun H locs hH => ?_)
    exact hw_iret hx hb hret hf hH hlocks dX12_count_95
  replace hf := (if_neg c6).symm.trans hf
  by_cases c10 : a_1 = 2
  · replace hf := (if_pos c10).symm.trans hf
    refine hl_tabIn (tgt := 96) hx hb dX12_count_1 c10 (by decide) (by decide) rfl (by decide) ?_
    refine hl_aload_n hx hb dX12_count_96 rfl (lv_at hl 0 rfl) ?_
    refine g12_5 hx hb hts hown hKs hH rfl ho m2_224 dX12_count_97 ?_
    obtain ⟨a11, ha11, hf⟩ := bnd hf
    replace ha11 := chk_some ha11
    refine gn10_0 hx hb hts hown hKs hH ha11.1 ha11.2 m2_122 dX12_count_100 ?_
    refine lv_iconst (v := 2) hx hb dX12_count_103 (by decide) ?_
    obtain ⟨a12, ha12, hf⟩ := bnd hf
    replace ha12 := chk_some ha12
    obtain ⟨q13, hq13, hf⟩ := bnd hf
    refine hcV_i hx hb hml hown hts hKs hT hb0 hH (As := [.int 2]) (rest := []) (k_X9_size l E K H.size a12 2 w ha12.2 hq13) (gV m3_229 m3_151 m3_152 m1_2 m3_153) hd_X9_size ⟨Nat.le_of_ble_eq_true rfl, Nat.le_of_ble_eq_true rfl, rfl, rfl⟩ ha12.1 ha12.2 rfl rfl rfl hl.1 rfl rc0 rfl dX12_count_104 ⟨Nat.zero_le _, Nat.zero_le _⟩ (fun H locs hH => ?_)
    exact hw_iret hx hb hret hf hH hlocks dX12_count_107
  replace hf := (if_neg c10).symm.trans hf
  by_cases c14 : a_1 = 3
  · replace hf := (if_pos c14).symm.trans hf
    refine hl_tabIn (tgt := 108) hx hb dX12_count_1 c14 (by decide) (by decide) rfl (by decide) ?_
    refine hl_aload_n hx hb dX12_count_108 rfl (lv_at hl 0 rfl) ?_
    refine g12_5 hx hb hts hown hKs hH rfl ho m2_224 dX12_count_109 ?_
    obtain ⟨a15, ha15, hf⟩ := bnd hf
    replace ha15 := chk_some ha15
    refine gn10_0 hx hb hts hown hKs hH ha15.1 ha15.2 m2_122 dX12_count_112 ?_
    refine lv_iconst (v := 3) hx hb dX12_count_115 (by decide) ?_
    obtain ⟨a16, ha16, hf⟩ := bnd hf
    replace ha16 := chk_some ha16
    obtain ⟨q17, hq17, hf⟩ := bnd hf
    refine hcV_i hx hb hml hown hts hKs hT hb0 hH (As := [.int 3]) (rest := []) (k_X9_size l E K H.size a16 3 w ha16.2 hq17) (gV m3_229 m3_151 m3_152 m1_2 m3_153) hd_X9_size ⟨Nat.le_of_ble_eq_true rfl, Nat.le_of_ble_eq_true rfl, rfl, rfl⟩ ha16.1 ha16.2 rfl rfl rfl hl.1 rfl rc0 rfl dX12_count_116 ⟨Nat.zero_le _, Nat.zero_le _⟩ (fun H locs hH => ?_)
    exact hw_iret hx hb hret hf hH hlocks dX12_count_119
  replace hf := (if_neg c14).symm.trans hf
  by_cases c18 : a_1 = 4
  · replace hf := (if_pos c18).symm.trans hf
    refine hl_tabIn (tgt := 120) hx hb dX12_count_1 c18 (by decide) (by decide) rfl (by decide) ?_
    refine hl_aload_n hx hb dX12_count_120 rfl (lv_at hl 0 rfl) ?_
    refine g12_5 hx hb hts hown hKs hH rfl ho m2_224 dX12_count_121 ?_
    obtain ⟨a19, ha19, hf⟩ := bnd hf
    replace ha19 := chk_some ha19
    refine gn10_2 hx hb hts hown hKs hH ha19.1 ha19.2 m2_127 dX12_count_124 ?_
    obtain ⟨a20, ha20, hf⟩ := bnd hf
    replace ha20 := chk_some ha20
    refine gn2_1 hx hb hts hown hKs hH ha20.1 ha20.2 m1_58 dX12_count_127 ?_
    exact hw_iret hx hb hret hf hH hlocks dX12_count_130
  replace hf := (if_neg c18).symm.trans hf
  by_cases c21 : a_1 = 5
  · replace hf := (if_pos c21).symm.trans hf
    refine hl_tabIn (tgt := 131) hx hb dX12_count_1 c21 (by decide) (by decide) rfl (by decide) ?_
    refine hl_aload_n hx hb dX12_count_131 rfl (lv_at hl 0 rfl) ?_
    refine g12_5 hx hb hts hown hKs hH rfl ho m2_224 dX12_count_132 ?_
    obtain ⟨a22, ha22, hf⟩ := bnd hf
    replace ha22 := chk_some ha22
    obtain ⟨q23, hq23, hf⟩ := bnd hf
    refine hcV_i hx hb hml hown hts hKs hT hb0 hH (As := []) (rest := []) (k_X10_countBars l E K H.size a22 w ha22.2 hq23) (gV m4_2 m4_3 m4_4 m1_12 m4_5) hd_X10_countBars ⟨Nat.le_of_ble_eq_true rfl, Nat.le_of_ble_eq_true rfl, rfl, rfl⟩ ha22.1 ha22.2 rfl rfl rfl hl.1 rfl rc0 rfl dX12_count_135 ⟨Nat.zero_le _, Nat.zero_le _⟩ (fun H locs hH => ?_)
    exact hw_iret hx hb hret hf hH hlocks dX12_count_138
  replace hf := (if_neg c21).symm.trans hf
  by_cases c24 : a_1 = 6
  · replace hf := (if_pos c24).symm.trans hf
    refine hl_tabIn (tgt := 139) hx hb dX12_count_1 c24 (by decide) (by decide) rfl (by decide) ?_
    refine hl_aload_n hx hb dX12_count_139 rfl (lv_at hl 0 rfl) ?_
    refine g12_5 hx hb hts hown hKs hH rfl ho m2_224 dX12_count_140 ?_
    obtain ⟨a25, ha25, hf⟩ := bnd hf
    replace ha25 := chk_some ha25
    refine gn10_0 hx hb hts hown hKs hH ha25.1 ha25.2 m2_122 dX12_count_143 ?_
    obtain ⟨a26, ha26, hf⟩ := bnd hf
    replace ha26 := chk_some ha26
    obtain ⟨q27, hq27, hf⟩ := bnd hf
    refine hcV_i hx hb hml hown hts hKs hT hb0 hH (As := []) (rest := []) (k_X9_countConflicts l E K H.size a26 w ha26.2 hq27) (gV m4_13 m4_14 m4_15 m1_2 m4_16) hd_X9_countConflicts ⟨Nat.le_of_ble_eq_true rfl, Nat.le_of_ble_eq_true rfl, rfl, rfl⟩ ha26.1 ha26.2 rfl rfl rfl hl.1 rfl rc0 rfl dX12_count_146 ⟨Nat.zero_le _, Nat.zero_le _⟩ (fun H locs hH => ?_)
    exact hw_iret hx hb hret hf hH hlocks dX12_count_149
  replace hf := (if_neg c24).symm.trans hf
  by_cases c28 : a_1 = 7
  · replace hf := (if_pos c28).symm.trans hf
    refine hl_tabIn (tgt := 150) hx hb dX12_count_1 c28 (by decide) (by decide) rfl (by decide) ?_
    refine hl_aload_n hx hb dX12_count_150 rfl (lv_at hl 0 rfl) ?_
    refine g12_5 hx hb hts hown hKs hH rfl ho m2_224 dX12_count_151 ?_
    obtain ⟨a29, ha29, hf⟩ := bnd hf
    replace ha29 := chk_some ha29
    refine gn10_1 hx hb hts hown hKs hH ha29.1 ha29.2 m2_125 dX12_count_154 ?_
    exact hw_iret hx hb hret hf hH hlocks dX12_count_157
  replace hf := (if_neg c28).symm.trans hf
  by_cases c30 : a_1 = 8
  · replace hf := (if_pos c30).symm.trans hf
    refine hl_tabIn (tgt := 158) hx hb dX12_count_1 c30 (by decide) (by decide) rfl (by decide) ?_
    refine hl_aload_n hx hb dX12_count_158 rfl (lv_at hl 0 rfl) ?_
    refine g12_5 hx hb hts hown hKs hH rfl ho m2_224 dX12_count_159 ?_
    obtain ⟨a31, ha31, hf⟩ := bnd hf
    replace ha31 := chk_some ha31
    refine gn10_0 hx hb hts hown hKs hH ha31.1 ha31.2 m2_122 dX12_count_162 ?_
    obtain ⟨a32, ha32, hf⟩ := bnd hf
    replace ha32 := chk_some ha32
    refine gn9_13 hx hb hts hown hKs hH ha32.1 ha32.2 m1_191 dX12_count_165 ?_
    exact hw_iret hx hb hret hf hH hlocks dX12_count_168
  replace hf := (if_neg c30).symm.trans hf
  by_cases c33 : a_1 = 9
  · replace hf := (if_pos c33).symm.trans hf
    refine hl_tabIn (tgt := 169) hx hb dX12_count_1 c33 (by decide) (by decide) rfl (by decide) ?_
    refine hl_aload_n hx hb dX12_count_169 rfl (lv_at hl 0 rfl) ?_
    refine g12_10 hx hb hts hown hKs hH rfl ho m2_229 dX12_count_170 ?_
    exact hw_iret hx hb hret hf hH hlocks dX12_count_173
  replace hf := (if_neg c33).symm.trans hf
  by_cases c34 : a_1 = 10
  · replace hf := (if_pos c34).symm.trans hf
    refine hl_tabIn (tgt := 174) hx hb dX12_count_1 c34 (by decide) (by decide) rfl (by decide) ?_
    refine hl_aload_n hx hb dX12_count_174 rfl (lv_at hl 0 rfl) ?_
    refine g12_5 hx hb hts hown hKs hH rfl ho m2_224 dX12_count_175 ?_
    refine lv_iconst (v := 0) hx hb dX12_count_178 (by decide) ?_
    obtain ⟨a35, ha35, hf⟩ := bnd hf
    replace ha35 := chk_some ha35
    obtain ⟨q36, hq36, hf⟩ := bnd hf
    refine hcV_i hx hb hml hown hts hKs hT hb0 hH (As := [.int 0]) (rest := []) (k_X10_countPhase l E K H.size a35 0 w ha35.2 hq36) (gV m4_19 m4_20 m4_21 m1_12 m4_22) hd_X10_countPhase ⟨Nat.le_of_ble_eq_true rfl, Nat.le_of_ble_eq_true rfl, rfl, rfl⟩ ha35.1 ha35.2 rfl rfl rfl hl.1 rfl rc0 rfl dX12_count_179 ⟨Nat.zero_le _, Nat.zero_le _⟩ (fun H locs hH => ?_)
    exact hw_iret hx hb hret hf hH hlocks dX12_count_182
  replace hf := (if_neg c34).symm.trans hf
  by_cases c37 : a_1 = 11
  · replace hf := (if_pos c37).symm.trans hf
    refine hl_tabIn (tgt := 183) hx hb dX12_count_1 c37 (by decide) (by decide) rfl (by decide) ?_
    refine hl_aload_n hx hb dX12_count_183 rfl (lv_at hl 0 rfl) ?_
    refine g12_5 hx hb hts hown hKs hH rfl ho m2_224 dX12_count_184 ?_
    refine lv_iconst (v := 1) hx hb dX12_count_187 (by decide) ?_
    obtain ⟨a38, ha38, hf⟩ := bnd hf
    replace ha38 := chk_some ha38
    obtain ⟨q39, hq39, hf⟩ := bnd hf
    refine hcV_i hx hb hml hown hts hKs hT hb0 hH (As := [.int 1]) (rest := []) (k_X10_countPhase l E K H.size a38 1 w ha38.2 hq39) (gV m4_19 m4_20 m4_21 m1_12 m4_22) hd_X10_countPhase ⟨Nat.le_of_ble_eq_true rfl, Nat.le_of_ble_eq_true rfl, rfl, rfl⟩ ha38.1 ha38.2 rfl rfl rfl hl.1 rfl rc0 rfl dX12_count_188 ⟨Nat.zero_le _, Nat.zero_le _⟩ (fun H locs hH => ?_)
    exact hw_iret hx hb hret hf hH hlocks dX12_count_191
  replace hf := (if_neg c37).symm.trans hf
  by_cases c40 : a_1 = 12
  · replace hf := (if_pos c40).symm.trans hf
    refine hl_tabIn (tgt := 192) hx hb dX12_count_1 c40 (by decide) (by decide) rfl (by decide) ?_
    refine hl_aload_n hx hb dX12_count_192 rfl (lv_at hl 0 rfl) ?_
    refine g12_5 hx hb hts hown hKs hH rfl ho m2_224 dX12_count_193 ?_
    refine lv_iconst (v := 2) hx hb dX12_count_196 (by decide) ?_
    obtain ⟨a41, ha41, hf⟩ := bnd hf
    replace ha41 := chk_some ha41
    obtain ⟨q42, hq42, hf⟩ := bnd hf
    refine hcV_i hx hb hml hown hts hKs hT hb0 hH (As := [.int 2]) (rest := []) (k_X10_countPhase l E K H.size a41 2 w ha41.2 hq42) (gV m4_19 m4_20 m4_21 m1_12 m4_22) hd_X10_countPhase ⟨Nat.le_of_ble_eq_true rfl, Nat.le_of_ble_eq_true rfl, rfl, rfl⟩ ha41.1 ha41.2 rfl rfl rfl hl.1 rfl rc0 rfl dX12_count_197 ⟨Nat.zero_le _, Nat.zero_le _⟩ (fun H locs hH => ?_)
    exact hw_iret hx hb hret hf hH hlocks dX12_count_200
  replace hf := (if_neg c40).symm.trans hf
  by_cases c43 : a_1 = 13
  · replace hf := (if_pos c43).symm.trans hf
    refine hl_tabIn (tgt := 201) hx hb dX12_count_1 c43 (by decide) (by decide) rfl (by decide) ?_
    refine hl_aload_n hx hb dX12_count_201 rfl (lv_at hl 0 rfl) ?_
    refine g12_5 hx hb hts hown hKs hH rfl ho m2_224 dX12_count_202 ?_
    refine lv_iconst (v := 3) hx hb dX12_count_205 (by decide) ?_
    obtain ⟨a44, ha44, hf⟩ := bnd hf
    replace ha44 := chk_some ha44
    obtain ⟨q45, hq45, hf⟩ := bnd hf
    refine hcV_i hx hb hml hown hts hKs hT hb0 hH (As := [.int 3]) (rest := []) (k_X10_countPhase l E K H.size a44 3 w ha44.2 hq45) (gV m4_19 m4_20 m4_21 m1_12 m4_22) hd_X10_countPhase ⟨Nat.le_of_ble_eq_true rfl, Nat.le_of_ble_eq_true rfl, rfl, rfl⟩ ha44.1 ha44.2 rfl rfl rfl hl.1 rfl rc0 rfl dX12_count_206 ⟨Nat.zero_le _, Nat.zero_le _⟩ (fun H locs hH => ?_)
    exact hw_iret hx hb hret hf hH hlocks dX12_count_209
  replace hf := (if_neg c43).symm.trans hf
  cases hf

theorem dX12_find_0 : decode cX12_find 0 = .ok (.iload_n 1, 1) := by decide +kernel
theorem dX12_find_1 : decode cX12_find 1 = .ok (.ifCond .lt 8, 3) := by decide +kernel
theorem dX12_find_4 : decode cX12_find 4 = .ok (.iload_n 1, 1) := by decide +kernel
theorem dX12_find_5 : decode cX12_find 5 = .ok (.iconst 4, 1) := by decide +kernel
theorem dX12_find_6 : decode cX12_find 6 = .ok (.if_icmp .lt 11, 3) := by decide +kernel
theorem dX12_find_9 : decode cX12_find 9 = .ok (.new 133, 3) := by decide +kernel
theorem dX12_find_12 : decode cX12_find 12 = .ok (.dup, 1) := by decide +kernel
theorem dX12_find_13 : decode cX12_find 13 = .ok (.invokespecial 135, 3) := by decide +kernel
theorem dX12_find_16 : decode cX12_find 16 = .ok (.athrow, 1) := by decide +kernel
theorem dX12_find_17 : decode cX12_find 17 = .ok (.aload_n 0, 1) := by decide +kernel
theorem dX12_find_18 : decode cX12_find 18 = .ok (.invokevirtual 136, 3) := by decide +kernel
theorem dX12_find_21 : decode cX12_find 21 = .ok (.lstore_n 2, 1) := by decide +kernel
theorem dX12_find_22 : decode cX12_find 22 = .ok (.aload_n 0, 1) := by decide +kernel
theorem dX12_find_23 : decode cX12_find 23 = .ok (.iconst 0, 1) := by decide +kernel
theorem dX12_find_24 : decode cX12_find 24 = .ok (.putfield 70, 3) := by decide +kernel
theorem dX12_find_27 : decode cX12_find 27 = .ok (.lload_n 2, 1) := by decide +kernel
theorem dX12_find_28 : decode cX12_find 28 = .ok (.lconst 0, 1) := by decide +kernel
theorem dX12_find_29 : decode cX12_find 29 = .ok (.lcmp, 1) := by decide +kernel
theorem dX12_find_30 : decode cX12_find 30 = .ok (.ifCond .ne 7, 3) := by decide +kernel
theorem dX12_find_33 : decode cX12_find 33 = .ok (.iconst (-1), 1) := by decide +kernel
theorem dX12_find_34 : decode cX12_find 34 = .ok (.goto 19, 3) := by decide +kernel
theorem dX12_find_37 : decode cX12_find 37 = .ok (.aload_n 0, 1) := by decide +kernel
theorem dX12_find_38 : decode cX12_find 38 = .ok (.getfield 35, 3) := by decide +kernel
theorem dX12_find_41 : decode cX12_find 41 = .ok (.getfield 87, 3) := by decide +kernel
theorem dX12_find_44 : decode cX12_find 44 = .ok (.getfield 140, 3) := by decide +kernel
theorem dX12_find_47 : decode cX12_find 47 = .ok (.iload_n 1, 1) := by decide +kernel
theorem dX12_find_48 : decode cX12_find 48 = .ok (.aaload, 1) := by decide +kernel
theorem dX12_find_49 : decode cX12_find 49 = .ok (.lload_n 2, 1) := by decide +kernel
theorem dX12_find_50 : decode cX12_find 50 = .ok (.invokevirtual 144, 3) := by decide +kernel
theorem dX12_find_53 : decode cX12_find 53 = .ok (.ireturn, 1) := by decide +kernel
theorem hd_X12_find : yX12_find.cls = RX12 ∧ yX12_find.cls ≠ "java/lang/invoke/MethodHandle" ∧ yX12_find.cls ≠ "java/lang/invoke/VarHandle" ∧ (parseMethodDescriptor yX12_find.desc).map (fun d => d.parameters.length) = some 1 := by decide +kernel
theorem hs_X12_find : yX12_find.cls ≠ "java/lang/invoke/MethodHandle" ∧ yX12_find.cls ≠ "java/lang/invoke/VarHandle" ∧ (parseMethodDescriptor yX12_find.desc).map (fun d => d.parameters.length) = some 1 := by decide +kernel
set_option maxHeartbeats 4000000 in
set_option maxRecDepth 100000 in
theorem k_X12_find (l : Launch) (hls : l.stackTraces = false) (E : Ev) (K : Kd) (z : Nat) (o : Nat) (a_1 : Int32) (w : Wd) (ho : K o = some (10, 0)) {r : Int32 ⊕ Nat} {w' : Wd} (hf : f_X12_find K o a_1 w = some (r, w')) : vx_Met l yX12_find (Cond.code yX12_find cX12_find 4 (Option.some Jvm.ClassFile.FieldType.int) :: bt) ({ frames := 6, cells := 1, slots := 6, locals := 90 } : Room) (va_Pc [rv E (some o), .int a_1] (HB E K w z)) (XI E K z w' r) (XX E K w' r) 1 6 (hA E) := by
  refine vx_ofW (cc := cX12_find) (maxL := 4) (ret := (Option.some Jvm.ClassFile.FieldType.int)) (by decide) rfl ?_
  intro p e s m args below meth c s₁ B hml hout hv
  obtain ⟨rfl, hz, hP, hKs, hT, hb0⟩ := hv
  have C : CX p l e s m _ meth c cX12_find 4 RX12 (Option.some Jvm.ClassFile.FieldType.int) E := ⟨B.exec, B.bytes, hml, findClass_of_methodNamed B.named, fun w h => atoms_spec (ws := Cond.code yX12_find cX12_find 4 (Option.some Jvm.ClassFile.FieldType.int) :: bt) B.pre w (List.mem_cons_of_mem _ h), hKs, hT, by rw [hz]; exact hb0, B.notSynchronized, B.returns⟩
  have hH : HQ E K z w s s.heap [] := ⟨hP, va_S.rf, hz⟩
  obtain ⟨hx, hb, hml, hown, hts, hKs, hT, hb0, hlocks, hret⟩ := id C
  have hl := lv_entry [rv E (some o), .int a_1] (n := 4) (by simp [lg_len_nil, lg_len_i, lg_len_j, lg_len_q, lg_len_f, lg_len_d, lg_len_r])
  rw [lg_entry_eq]
  generalize (lg_sl [rv E (some o), .int a_1] ++ List.replicate (4 - (lg_sl [rv E (some o), .int a_1]).length) Slot.unset).toArray = ls at hl ⊢
  replace hl : lv_has ls 4 [(0, rv E (some o)), (1, .int a_1)] := by simpa only [lv_args, cat_q, cat_i, cat_j, reduceIte, Nat.reduceEqDiff, Nat.reduceAdd, Nat.zero_add] using hl
  generalize s.heap = H at hH ⊢
  unfold f_X12_find at hf
  refine lv_iload_n hx hb dX12_find_0 rfl (lv_at hl 1 rfl) ?_
  refine lv_if_lt (tgt := 9) hx hb dX12_find_1 (by decide) (fun c1 => ?_) (fun c1 => ?_)
  · replace hf := (if_pos c1).symm.trans hf
    exact hx_throw hx hb hls (code := 2) hml hl.1 hown hts hKs hT hb0 hH (by decide) rfl m4_217 m1_27 hat_RX12_135 dX12_find_9 dX12_find_12 dX12_find_13 dX12_find_16 hout (Nat.le_of_ble_eq_true rfl) rc0 (Nat.le_of_ble_eq_true rfl) (Nat.le_of_ble_eq_true rfl) (Nat.le_of_ble_eq_true rfl) hlocks hf (Nat.le_of_ble_eq_true rfl) (Nat.le_of_ble_eq_true rfl)
  · replace hf := (if_neg c1).symm.trans hf
    refine lv_iload_n hx hb dX12_find_4 rfl (lv_at hl 1 rfl) ?_
    refine lv_iconst (v := 4) hx hb dX12_find_5 (by decide) ?_
    refine lv_icmp_lt (tgt := 17) hx hb dX12_find_6 (by decide) (fun c2 => ?_) (fun c2 => ?_)
    · replace hf := (if_pos c2).symm.trans hf
      refine hl_aload_n hx hb dX12_find_17 rfl (lv_at hl 0 rfl) ?_
      obtain ⟨q3, hq3, hf⟩ := bnd hf
      refine hcV_l hx hb hml hown hts hKs hT hb0 hH (As := []) (rest := []) (k_X12_bufferedName l E K H.size o w ho hq3) (gV m5_41 m5_43 ms_32 m1_1 m5_44) hd_X12_bufferedName ⟨Nat.le_of_ble_eq_true rfl, Nat.le_of_ble_eq_true rfl, rfl, rfl⟩ rfl ho rfl rfl rfl hl.1 rfl rc0 rfl dX12_find_18 ⟨Nat.le_of_ble_eq_true rfl, Nat.le_of_ble_eq_true rfl⟩ (fun H locs hH => ?_)
      refine lv_lstore_n (i := 2) (lv' := [(2, .long q3.1), (0, rv E (some o)), (1, .int a_1)]) hx hb dX12_find_21 rfl hl (by decide) rfl (fun ls hl => ?_)
      refine hl_aload_n hx hb dX12_find_22 rfl (lv_at hl 1 rfl) ?_
      refine lv_iconst (v := 0) hx hb dX12_find_23 (by decide) ?_
      obtain ⟨w4, hw4, hf⟩ := bnd hf
      replace hw4 := Option.some.inj hw4
      refine p12_1 (v := 0) hx hb hts hown hKs hH rfl ho m2_220 dX12_find_24 (fun H locs hH => ?_)
      rw [hw4] at hH
      refine lv_lload_n hx hb dX12_find_27 rfl (lv_at hl 0 rfl) ?_
      refine lv_lconst (v := 0) hx hb dX12_find_28 rfl ?_
      refine W.lcmp hx hb dX12_find_29 ?_
      refine lv_if_ne (tgt := 37) hx hb dX12_find_30 (by decide) (fun c5 => ?_) (fun c5 => ?_)
      · replace hf := (if_neg c5).symm.trans hf
        refine hl_aload_n hx hb dX12_find_37 rfl (lv_at hl 1 rfl) ?_
        refine g12_5 hx hb hts hown hKs hH rfl ho m2_224 dX12_find_38 ?_
        obtain ⟨a6, ha6, hf⟩ := bnd hf
        replace ha6 := chk_some ha6
        refine gn10_0 hx hb hts hown hKs hH ha6.1 ha6.2 m2_122 dX12_find_41 ?_
        obtain ⟨a7, ha7, hf⟩ := bnd hf
        replace ha7 := chk_some ha7
        refine gn9_0 hx hb hts hown hKs hH ha7.1 ha7.2 m1_151 dX12_find_44 ?_
        refine lv_iload_n hx hb dX12_find_47 rfl (lv_at hl 2 rfl) ?_
        obtain ⟨a8, ha8, hf⟩ := bnd hf
        replace ha8 := cha_some ha8
        obtain ⟨j9, hj9, hf⟩ := bnd hf
        refine hw_aald26 hx hb hKs hH ha8.1 ha8.2 hj9 dX12_find_48 ?_
        refine lv_lload_n hx hb dX12_find_49 rfl (lv_at hl 0 rfl) ?_
        obtain ⟨a10, ha10, hf⟩ := bnd hf
        replace ha10 := chk_some ha10
        obtain ⟨q11, hq11, hf⟩ := bnd hf
        refine hcV_i hx hb hml hown hts hKs hT hb0 hH (As := [.long q3.1]) (rest := []) (k_X4_indexOf l E K H.size a10 q3.1 w4 ha10.2 hq11) (gV m5_46 m3_129 m3_130 m1_4 m3_131) hd_X4_indexOf ⟨Nat.le_of_ble_eq_true rfl, Nat.le_of_ble_eq_true rfl, rfl, rfl⟩ ha10.1 ha10.2 rfl rfl rfl hl.1 rfl rc0 rfl dX12_find_50 ⟨Nat.le_of_ble_eq_true rfl, Nat.le_of_ble_eq_true rfl⟩ (fun H locs hH => ?_)
        exact hx_iret hx hb (Nat.le_of_ble_eq_true rfl) (Nat.le_of_ble_eq_true rfl) hret hf hH hlocks dX12_find_53
      · replace hf := (if_pos c5).symm.trans hf
        refine lv_iconst (v := (-1)) hx hb dX12_find_33 (by decide) ?_
        refine lv_goto (tgt := 53) hx hb dX12_find_34 (by decide) ?_
        exact hx_iret hx hb (Nat.le_of_ble_eq_true rfl) (Nat.le_of_ble_eq_true rfl) hret hf hH hlocks dX12_find_53
    · replace hf := (if_neg c2).symm.trans hf
      exact hx_throw hx hb hls (code := 2) hml hl.1 hown hts hKs hT hb0 hH (by decide) rfl m4_217 m1_27 hat_RX12_135 dX12_find_9 dX12_find_12 dX12_find_13 dX12_find_16 hout (Nat.le_of_ble_eq_true rfl) rc0 (Nat.le_of_ble_eq_true rfl) (Nat.le_of_ble_eq_true rfl) (Nat.le_of_ble_eq_true rfl) hlocks hf (Nat.le_of_ble_eq_true rfl) (Nat.le_of_ble_eq_true rfl)

theorem dX12_witness_0 : decode cX12_witness 0 = .ok (.aload_n 0, 1) := by decide +kernel
theorem dX12_witness_1 : decode cX12_witness 1 = .ok (.iconst 2, 1) := by decide +kernel
theorem dX12_witness_2 : decode cX12_witness 2 = .ok (.iload_n 1, 1) := by decide +kernel
theorem dX12_witness_3 : decode cX12_witness 3 = .ok (.invokevirtual 175, 3) := by decide +kernel
theorem dX12_witness_6 : decode cX12_witness 6 = .ok (.iload_n 2, 1) := by decide +kernel
theorem dX12_witness_7 : decode cX12_witness 7 = .ok (.tableswitch 91 0 4 #[33, 46, 56, 69, 82], 33) := by decide +kernel
theorem dX12_witness_40 : decode cX12_witness 40 = .ok (.aload_n 0, 1) := by decide +kernel
theorem dX12_witness_41 : decode cX12_witness 41 = .ok (.getfield 35, 3) := by decide +kernel
theorem dX12_witness_44 : decode cX12_witness 44 = .ok (.getfield 87, 3) := by decide +kernel
theorem dX12_witness_47 : decode cX12_witness 47 = .ok (.getfield 178, 3) := by decide +kernel
theorem dX12_witness_50 : decode cX12_witness 50 = .ok (.iload_n 1, 1) := by decide +kernel
theorem dX12_witness_51 : decode cX12_witness 51 = .ok (.iaload, 1) := by decide +kernel
theorem dX12_witness_52 : decode cX12_witness 52 = .ok (.ireturn, 1) := by decide +kernel
theorem dX12_witness_53 : decode cX12_witness 53 = .ok (.aload_n 0, 1) := by decide +kernel
theorem dX12_witness_54 : decode cX12_witness 54 = .ok (.getfield 35, 3) := by decide +kernel
theorem dX12_witness_57 : decode cX12_witness 57 = .ok (.getfield 181, 3) := by decide +kernel
theorem dX12_witness_60 : decode cX12_witness 60 = .ok (.iload_n 1, 1) := by decide +kernel
theorem dX12_witness_61 : decode cX12_witness 61 = .ok (.iaload, 1) := by decide +kernel
theorem dX12_witness_62 : decode cX12_witness 62 = .ok (.ireturn, 1) := by decide +kernel
theorem dX12_witness_63 : decode cX12_witness 63 = .ok (.aload_n 0, 1) := by decide +kernel
theorem dX12_witness_64 : decode cX12_witness 64 = .ok (.getfield 35, 3) := by decide +kernel
theorem dX12_witness_67 : decode cX12_witness 67 = .ok (.getfield 87, 3) := by decide +kernel
theorem dX12_witness_70 : decode cX12_witness 70 = .ok (.getfield 184, 3) := by decide +kernel
theorem dX12_witness_73 : decode cX12_witness 73 = .ok (.iload_n 1, 1) := by decide +kernel
theorem dX12_witness_74 : decode cX12_witness 74 = .ok (.iaload, 1) := by decide +kernel
theorem dX12_witness_75 : decode cX12_witness 75 = .ok (.ireturn, 1) := by decide +kernel
theorem dX12_witness_76 : decode cX12_witness 76 = .ok (.aload_n 0, 1) := by decide +kernel
theorem dX12_witness_77 : decode cX12_witness 77 = .ok (.getfield 35, 3) := by decide +kernel
theorem dX12_witness_80 : decode cX12_witness 80 = .ok (.getfield 87, 3) := by decide +kernel
theorem dX12_witness_83 : decode cX12_witness 83 = .ok (.getfield 187, 3) := by decide +kernel
theorem dX12_witness_86 : decode cX12_witness 86 = .ok (.iload_n 1, 1) := by decide +kernel
theorem dX12_witness_87 : decode cX12_witness 87 = .ok (.iaload, 1) := by decide +kernel
theorem dX12_witness_88 : decode cX12_witness 88 = .ok (.ireturn, 1) := by decide +kernel
theorem dX12_witness_89 : decode cX12_witness 89 = .ok (.aload_n 0, 1) := by decide +kernel
theorem dX12_witness_90 : decode cX12_witness 90 = .ok (.getfield 35, 3) := by decide +kernel
theorem dX12_witness_93 : decode cX12_witness 93 = .ok (.iload_n 1, 1) := by decide +kernel
theorem dX12_witness_94 : decode cX12_witness 94 = .ok (.invokevirtual 190, 3) := by decide +kernel
theorem dX12_witness_97 : decode cX12_witness 97 = .ok (.ireturn, 1) := by decide +kernel
theorem dX12_witness_98 : decode cX12_witness 98 = .ok (.new 193, 3) := by decide +kernel
theorem dX12_witness_101 : decode cX12_witness 101 = .ok (.dup, 1) := by decide +kernel
theorem dX12_witness_102 : decode cX12_witness 102 = .ok (.invokespecial 195, 3) := by decide +kernel
theorem dX12_witness_105 : decode cX12_witness 105 = .ok (.athrow, 1) := by decide +kernel
theorem hd_X12_witness : yX12_witness.cls = RX12 ∧ yX12_witness.cls ≠ "java/lang/invoke/MethodHandle" ∧ yX12_witness.cls ≠ "java/lang/invoke/VarHandle" ∧ (parseMethodDescriptor yX12_witness.desc).map (fun d => d.parameters.length) = some 2 := by decide +kernel
theorem hs_X12_witness : yX12_witness.cls ≠ "java/lang/invoke/MethodHandle" ∧ yX12_witness.cls ≠ "java/lang/invoke/VarHandle" ∧ (parseMethodDescriptor yX12_witness.desc).map (fun d => d.parameters.length) = some 2 := by decide +kernel
set_option maxHeartbeats 4000000 in
set_option maxRecDepth 100000 in
theorem k_X12_witness (l : Launch) (hls : l.stackTraces = false) (E : Ev) (K : Kd) (z : Nat) (o : Nat) (a_1 : Int32) (a_2 : Int32) (w : Wd) (ho : K o = some (10, 0)) {r : Int32 ⊕ Nat} {w' : Wd} (hf : f_X12_witness K o a_1 a_2 w = some (r, w')) : vx_Met l yX12_witness (Cond.code yX12_witness cX12_witness 3 (Option.some Jvm.ClassFile.FieldType.int) :: bt) ({ frames := 7, cells := 2, slots := 12, locals := 112 } : Room) (va_Pc [rv E (some o), .int a_1, .int a_2] (HB E K w z)) (XI E K z w' r) (XX E K w' r) 2 12 (hA E) := by
  refine vx_ofW (cc := cX12_witness) (maxL := 3) (ret := (Option.some Jvm.ClassFile.FieldType.int)) (by decide) rfl ?_
  intro p e s m args below meth c s₁ B hml hout hv
  obtain ⟨rfl, hz, hP, hKs, hT, hb0⟩ := hv
  have C : CX p l e s m _ meth c cX12_witness 3 RX12 (Option.some Jvm.ClassFile.FieldType.int) E := ⟨B.exec, B.bytes, hml, findClass_of_methodNamed B.named, fun w h => atoms_spec (ws := Cond.code yX12_witness cX12_witness 3 (Option.some Jvm.ClassFile.FieldType.int) :: bt) B.pre w (List.mem_cons_of_mem _ h), hKs, hT, by rw [hz]; exact hb0, B.notSynchronized, B.returns⟩
  have hH : HQ E K z w s s.heap [] := ⟨hP, va_S.rf, hz⟩
  obtain ⟨hx, hb, hml, hown, hts, hKs, hT, hb0, hlocks, hret⟩ := id C
  have hl := lv_entry [rv E (some o), .int a_1, .int a_2] (n := 3) (by simp [lg_len_nil, lg_len_i, lg_len_j, lg_len_q, lg_len_f, lg_len_d, lg_len_r])
  rw [lg_entry_eq]
  generalize (lg_sl [rv E (some o), .int a_1, .int a_2] ++ List.replicate (3 - (lg_sl [rv E (some o), .int a_1, .int a_2]).length) Slot.unset).toArray = ls at hl ⊢
  replace hl : lv_has ls 3 [(0, rv E (some o)), (1, .int a_1), (2, .int a_2)] := by simpa only [lv_args, cat_q, cat_i, cat_j, reduceIte, Nat.reduceEqDiff, Nat.reduceAdd, Nat.zero_add] using hl
  generalize s.heap = H at hH ⊢
  unfold f_X12_witness at hf
  refine hl_aload_n hx hb dX12_witness_0 rfl (lv_at hl 0 rfl) ?_
  refine lv_iconst (v := 2) hx hb dX12_witness_1 (by decide) ?_
  refine lv_iload_n hx hb dX12_witness_2 rfl (lv_at hl 1 rfl) ?_
  obtain ⟨q1, hq1, hf⟩ := bnd hf
  refine hxV_v hx hb hml hown hts hKs hT hb0 hH (As := [.int 2, .int a_1]) (rest := []) (k_X12_requireExisting l hls E K H.size o 2 a_1 w ho hq1) (gV m5_90 m5_92 ms_36 m1_1 m5_93) hd_X12_requireExisting ⟨Nat.le_of_ble_eq_true rfl, Nat.le_of_ble_eq_true rfl, rfl, rfl⟩ rfl ho rfl rfl rfl hl.1 rfl rc0 rfl dX12_witness_3 ⟨Nat.le_of_ble_eq_true rfl, Nat.le_of_ble_eq_true rfl⟩ ⟨Nat.le_of_ble_eq_true rfl, Nat.le_of_ble_eq_true rfl⟩ hout hlocks (fun x hx9 => (fun h9 => ⟨(congrArg Prod.fst h9).symm, (congrArg Prod.snd h9).symm⟩) (Option.some.inj ((xk_inr hx9).symm.trans hf))) (fun v2 hv2 H locs hH => ?_)
  replace hf := (xk_inl hv2).symm.trans hf
  refine lv_iload_n hx hb dX12_witness_6 rfl (lv_at hl 2 rfl) ?_
  by_cases c3 : (a_2 < 0 ∨ 4 < a_2)
  · replace hf := (if_pos c3).symm.trans hf
    refine hl_tabOut (tgt := 98) hx hb dX12_witness_7 c3 (by decide) (by decide) (by decide) ?_
    exact hx_throw hx hb hls (code := 1) hml hl.1 hown hts hKs hT hb0 hH (by decide) rfl m5_94 m1_28 hat_RX12_195 dX12_witness_98 dX12_witness_101 dX12_witness_102 dX12_witness_105 hout (Nat.le_of_ble_eq_true rfl) rc0 (Nat.le_of_ble_eq_true rfl) (Nat.le_of_ble_eq_true rfl) (Nat.le_of_ble_eq_true rfl) hlocks hf (Nat.le_of_ble_eq_true rfl) (Nat.le_of_ble_eq_true rfl)
  replace hf := (if_neg c3).symm.trans hf
  by_cases c4 : a_2 = 0
  · replace hf := (if_pos c4).symm.trans hf
    refine hl_tabIn (tgt := 40) hx hb dX12_witness_7 c4 (by decide) (by decide) rfl (by decide) ?_
    refine hl_aload_n hx hb dX12_witness_40 rfl (lv_at hl 0 rfl) ?_
    refine g12_5 hx hb hts hown hKs hH rfl ho m2_224 dX12_witness_41 ?_
    obtain ⟨a5, ha5, hf⟩ := bnd hf
    replace ha5 := chk_some ha5
    refine gn10_0 hx hb hts hown hKs hH ha5.1 ha5.2 m2_122 dX12_witness_44 ?_
    obtain ⟨a6, ha6, hf⟩ := bnd hf
    replace ha6 := chk_some ha6
    refine gn9_5 hx hb hts hown hKs hH ha6.1 ha6.2 m1_162 dX12_witness_47 ?_
    refine lv_iload_n hx hb dX12_witness_50 rfl (lv_at hl 1 rfl) ?_
    obtain ⟨a7, ha7, hf⟩ := bnd hf
    replace ha7 := cha_some ha7
    obtain ⟨j8, hj8, hf⟩ := bnd hf
    refine hw_iald hx hb hKs hH ha7.1 ha7.2 hj8 dX12_witness_51 ?_
    exact hx_iret hx hb (Nat.le_of_ble_eq_true rfl) (Nat.le_of_ble_eq_true rfl) hret hf hH hlocks dX12_witness_52
  replace hf := (if_neg c4).symm.trans hf
  by_cases c9 : a_2 = 1
  · replace hf := (if_pos c9).symm.trans hf
    refine hl_tabIn (tgt := 53) hx hb dX12_witness_7 c9 (by decide) (by decide) rfl (by decide) ?_
    refine hl_aload_n hx hb dX12_witness_53 rfl (lv_at hl 0 rfl) ?_
    refine g12_5 hx hb hts hown hKs hH rfl ho m2_224 dX12_witness_54 ?_
    obtain ⟨a10, ha10, hf⟩ := bnd hf
    replace ha10 := chk_some ha10
    refine gn10_3 hx hb hts hown hKs hH ha10.1 ha10.2 m2_129 dX12_witness_57 ?_
    refine lv_iload_n hx hb dX12_witness_60 rfl (lv_at hl 1 rfl) ?_
    obtain ⟨a11, ha11, hf⟩ := bnd hf
    replace ha11 := cha_some ha11
    obtain ⟨j12, hj12, hf⟩ := bnd hf
    refine hw_iald hx hb hKs hH ha11.1 ha11.2 hj12 dX12_witness_61 ?_
    exact hx_iret hx hb (Nat.le_of_ble_eq_true rfl) (Nat.le_of_ble_eq_true rfl) hret hf hH hlocks dX12_witness_62
  replace hf := (if_neg c9).symm.trans hf
  by_cases c13 : a_2 = 2
  · replace hf := (if_pos c13).symm.trans hf
    refine hl_tabIn (tgt := 63) hx hb dX12_witness_7 c13 (by decide) (by decide) rfl (by decide) ?_
    refine hl_aload_n hx hb dX12_witness_63 rfl (lv_at hl 0 rfl) ?_
    refine g12_5 hx hb hts hown hKs hH rfl ho m2_224 dX12_witness_64 ?_
    obtain ⟨a14, ha14, hf⟩ := bnd hf
    replace ha14 := chk_some ha14
    refine gn10_0 hx hb hts hown hKs hH ha14.1 ha14.2 m2_122 dX12_witness_67 ?_
    obtain ⟨a15, ha15, hf⟩ := bnd hf
    replace ha15 := chk_some ha15
    refine gn9_7 hx hb hts hown hKs hH ha15.1 ha15.2 m1_169 dX12_witness_70 ?_
    refine lv_iload_n hx hb dX12_witness_73 rfl (lv_at hl 1 rfl) ?_
    obtain ⟨a16, ha16, hf⟩ := bnd hf
    replace ha16 := cha_some ha16
    obtain ⟨j17, hj17, hf⟩ := bnd hf
    refine hw_iald hx hb hKs hH ha16.1 ha16.2 hj17 dX12_witness_74 ?_
    exact hx_iret hx hb (Nat.le_of_ble_eq_true rfl) (Nat.le_of_ble_eq_true rfl) hret hf hH hlocks dX12_witness_75
  replace hf := (if_neg c13).symm.trans hf
  by_cases c18 : a_2 = 3
  · replace hf := (if_pos c18).symm.trans hf
    refine hl_tabIn (tgt := 76) hx hb dX12_witness_7 c18 (by decide) (by decide) rfl (by decide) ?_
    refine hl_aload_n hx hb dX12_witness_76 rfl (lv_at hl 0 rfl) ?_
    refine g12_5 hx hb hts hown hKs hH rfl ho m2_224 dX12_witness_77 ?_
    obtain ⟨a19, ha19, hf⟩ := bnd hf
    replace ha19 := chk_some ha19
    refine gn10_0 hx hb hts hown hKs hH ha19.1 ha19.2 m2_122 dX12_witness_80 ?_
    obtain ⟨a20, ha20, hf⟩ := bnd hf
    replace ha20 := chk_some ha20
    refine gn9_8 hx hb hts hown hKs hH ha20.1 ha20.2 m1_173 dX12_witness_83 ?_
    refine lv_iload_n hx hb dX12_witness_86 rfl (lv_at hl 1 rfl) ?_
    obtain ⟨a21, ha21, hf⟩ := bnd hf
    replace ha21 := cha_some ha21
    obtain ⟨j22, hj22, hf⟩ := bnd hf
    refine hw_iald hx hb hKs hH ha21.1 ha21.2 hj22 dX12_witness_87 ?_
    exact hx_iret hx hb (Nat.le_of_ble_eq_true rfl) (Nat.le_of_ble_eq_true rfl) hret hf hH hlocks dX12_witness_88
  replace hf := (if_neg c18).symm.trans hf
  by_cases c23 : a_2 = 4
  · replace hf := (if_pos c23).symm.trans hf
    refine hl_tabIn (tgt := 89) hx hb dX12_witness_7 c23 (by decide) (by decide) rfl (by decide) ?_
    refine hl_aload_n hx hb dX12_witness_89 rfl (lv_at hl 0 rfl) ?_
    refine g12_5 hx hb hts hown hKs hH rfl ho m2_224 dX12_witness_90 ?_
    refine lv_iload_n hx hb dX12_witness_93 rfl (lv_at hl 1 rfl) ?_
    obtain ⟨a24, ha24, hf⟩ := bnd hf
    replace ha24 := chk_some ha24
    obtain ⟨q25, hq25, hf⟩ := bnd hf
    refine hcV_i hx hb hml hown hts hKs hT hb0 hH (As := [.int a_1]) (rest := []) (k_X10_countNeeding l E K H.size a24 a_1 q1.2 ha24.2 hq25) (gV m5_109 m5_110 m5_111 m1_12 m5_112) hd_X10_countNeeding ⟨Nat.le_of_ble_eq_true rfl, Nat.le_of_ble_eq_true rfl, rfl, rfl⟩ ha24.1 ha24.2 rfl rfl rfl hl.1 rfl rc0 rfl dX12_witness_94 ⟨Nat.le_of_ble_eq_true rfl, Nat.le_of_ble_eq_true rfl⟩ (fun H locs hH => ?_)
    exact hx_iret hx hb (Nat.le_of_ble_eq_true rfl) (Nat.le_of_ble_eq_true rfl) hret hf hH hlocks dX12_witness_97
  replace hf := (if_neg c23).symm.trans hf
  cases hf

theorem dX12_isOff_0 : decode cX12_isOff 0 = .ok (.aload_n 0, 1) := by decide +kernel
theorem dX12_isOff_1 : decode cX12_isOff 1 = .ok (.iconst 1, 1) := by decide +kernel
theorem dX12_isOff_2 : decode cX12_isOff 2 = .ok (.iload_n 1, 1) := by decide +kernel
theorem dX12_isOff_3 : decode cX12_isOff 3 = .ok (.invokevirtual 175, 3) := by decide +kernel
theorem dX12_isOff_6 : decode cX12_isOff 6 = .ok (.aload_n 0, 1) := by decide +kernel
theorem dX12_isOff_7 : decode cX12_isOff 7 = .ok (.iload_n 2, 1) := by decide +kernel
theorem dX12_isOff_8 : decode cX12_isOff 8 = .ok (.invokevirtual 154, 3) := by decide +kernel
theorem dX12_isOff_11 : decode cX12_isOff 11 = .ok (.aload_n 0, 1) := by decide +kernel
theorem dX12_isOff_12 : decode cX12_isOff 12 = .ok (.getfield 35, 3) := by decide +kernel
theorem dX12_isOff_15 : decode cX12_isOff 15 = .ok (.getfield 87, 3) := by decide +kernel
theorem dX12_isOff_18 : decode cX12_isOff 18 = .ok (.iload_n 1, 1) := by decide +kernel
theorem dX12_isOff_19 : decode cX12_isOff 19 = .ok (.iload_n 2, 1) := by decide +kernel
theorem dX12_isOff_20 : decode cX12_isOff 20 = .ok (.invokevirtual 196, 3) := by decide +kernel
theorem dX12_isOff_23 : decode cX12_isOff 23 = .ok (.ireturn, 1) := by decide +kernel
theorem hd_X12_isOff : yX12_isOff.cls = RX12 ∧ yX12_isOff.cls ≠ "java/lang/invoke/MethodHandle" ∧ yX12_isOff.cls ≠ "java/lang/invoke/VarHandle" ∧ (parseMethodDescriptor yX12_isOff.desc).map (fun d => d.parameters.length) = some 2 := by decide +kernel
theorem hs_X12_isOff : yX12_isOff.cls ≠ "java/lang/invoke/MethodHandle" ∧ yX12_isOff.cls ≠ "java/lang/invoke/VarHandle" ∧ (parseMethodDescriptor yX12_isOff.desc).map (fun d => d.parameters.length) = some 2 := by decide +kernel
set_option maxHeartbeats 4000000 in
set_option maxRecDepth 100000 in
theorem k_X12_isOff (l : Launch) (hls : l.stackTraces = false) (E : Ev) (K : Kd) (z : Nat) (o : Nat) (a_1 : Int32) (a_2 : Int32) (w : Wd) (ho : K o = some (10, 0)) {r : Bool ⊕ Nat} {w' : Wd} (hf : f_X12_isOff K o a_1 a_2 w = some (r, w')) : vx_Met l yX12_isOff (Cond.code yX12_isOff cX12_isOff 3 (Option.some Jvm.ClassFile.FieldType.boolean) :: bt) ({ frames := 7, cells := 2, slots := 12, locals := 112 } : Room) (va_Pc [rv E (some o), .int a_1, .int a_2] (HB E K w z)) (XZ E K z w' r) (XX E K w' r) 2 12 (hA E) := by
  refine vx_ofW (cc := cX12_isOff) (maxL := 3) (ret := (Option.some Jvm.ClassFile.FieldType.boolean)) (by decide) rfl ?_
  intro p e s m args below meth c s₁ B hml hout hv
  obtain ⟨rfl, hz, hP, hKs, hT, hb0⟩ := hv
  have C : CX p l e s m _ meth c cX12_isOff 3 RX12 (Option.some Jvm.ClassFile.FieldType.boolean) E := ⟨B.exec, B.bytes, hml, findClass_of_methodNamed B.named, fun w h => atoms_spec (ws := Cond.code yX12_isOff cX12_isOff 3 (Option.some Jvm.ClassFile.FieldType.boolean) :: bt) B.pre w (List.mem_cons_of_mem _ h), hKs, hT, by rw [hz]; exact hb0, B.notSynchronized, B.returns⟩
  have hH : HQ E K z w s s.heap [] := ⟨hP, va_S.rf, hz⟩
  obtain ⟨hx, hb, hml, hown, hts, hKs, hT, hb0, hlocks, hret⟩ := id C
  have hl := lv_entry [rv E (some o), .int a_1, .int a_2] (n := 3) (by simp [lg_len_nil, lg_len_i, lg_len_j, lg_len_q, lg_len_f, lg_len_d, lg_len_r])
  rw [lg_entry_eq]
  generalize (lg_sl [rv E (some o), .int a_1, .int a_2] ++ List.replicate (3 - (lg_sl [rv E (some o), .int a_1, .int a_2]).length) Slot.unset).toArray = ls at hl ⊢
  replace hl : lv_has ls 3 [(0, rv E (some o)), (1, .int a_1), (2, .int a_2)] := by simpa only [lv_args, cat_q, cat_i, cat_j, reduceIte, Nat.reduceEqDiff, Nat.reduceAdd, Nat.zero_add] using hl
  generalize s.heap = H at hH ⊢
  unfold f_X12_isOff at hf
  refine hl_aload_n hx hb dX12_isOff_0 rfl (lv_at hl 0 rfl) ?_
  refine lv_iconst (v := 1) hx hb dX12_isOff_1 (by decide) ?_
  refine lv_iload_n hx hb dX12_isOff_2 rfl (lv_at hl 1 rfl) ?_
  obtain ⟨q1, hq1, hf⟩ := bnd hf
  refine hxV_v hx hb hml hown hts hKs hT hb0 hH (As := [.int 1, .int a_1]) (rest := []) (k_X12_requireExisting l hls E K H.size o 1 a_1 w ho hq1) (gV m5_90 m5_92 ms_36 m1_1 m5_93) hd_X12_requireExisting ⟨Nat.le_of_ble_eq_true rfl, Nat.le_of_ble_eq_true rfl, rfl, rfl⟩ rfl ho rfl rfl rfl hl.1 rfl rc0 rfl dX12_isOff_3 ⟨Nat.le_of_ble_eq_true rfl, Nat.le_of_ble_eq_true rfl⟩ ⟨Nat.le_of_ble_eq_true rfl, Nat.le_of_ble_eq_true rfl⟩ hout hlocks (fun x hx9 => (fun h9 => ⟨(congrArg Prod.fst h9).symm, (congrArg Prod.snd h9).symm⟩) (Option.some.inj ((xk_inr hx9).symm.trans hf))) (fun v2 hv2 H locs hH => ?_)
  replace hf := (xk_inl hv2).symm.trans hf
  refine hl_aload_n hx hb dX12_isOff_6 rfl (lv_at hl 0 rfl) ?_
  refine lv_iload_n hx hb dX12_isOff_7 rfl (lv_at hl 2 rfl) ?_
  obtain ⟨q3, hq3, hf⟩ := bnd hf
  refine hxV_v hx hb hml hown hts hKs hT hb0 hH (As := [.int a_2]) (rest := []) (k_X12_requireDay l hls E K H.size o a_2 q1.2 ho hq3) (gV m5_54 m5_56 ms_33 m1_1 m5_57) hd_X12_requireDay ⟨Nat.le_of_ble_eq_true rfl, Nat.le_of_ble_eq_true rfl, rfl, rfl⟩ rfl ho rfl rfl rfl hl.1 rfl rc0 rfl dX12_isOff_8 ⟨Nat.le_of_ble_eq_true rfl, Nat.le_of_ble_eq_true rfl⟩ ⟨Nat.le_of_ble_eq_true rfl, Nat.le_of_ble_eq_true rfl⟩ hout hlocks (fun x hx9 => (fun h9 => ⟨(congrArg Prod.fst h9).symm, (congrArg Prod.snd h9).symm⟩) (Option.some.inj ((xk_inr hx9).symm.trans hf))) (fun v4 hv4 H locs hH => ?_)
  replace hf := (xk_inl hv4).symm.trans hf
  refine hl_aload_n hx hb dX12_isOff_11 rfl (lv_at hl 0 rfl) ?_
  refine g12_5 hx hb hts hown hKs hH rfl ho m2_224 dX12_isOff_12 ?_
  obtain ⟨a5, ha5, hf⟩ := bnd hf
  replace ha5 := chk_some ha5
  refine gn10_0 hx hb hts hown hKs hH ha5.1 ha5.2 m2_122 dX12_isOff_15 ?_
  refine lv_iload_n hx hb dX12_isOff_18 rfl (lv_at hl 1 rfl) ?_
  refine lv_iload_n hx hb dX12_isOff_19 rfl (lv_at hl 2 rfl) ?_
  obtain ⟨a6, ha6, hf⟩ := bnd hf
  replace ha6 := chk_some ha6
  obtain ⟨q7, hq7, hf⟩ := bnd hf
  refine hcV_i hx hb hml hown hts hKs hT hb0 hH (As := [.int a_1, .int a_2]) (rest := []) (k_X9_isAway l E K H.size a6 a_1 a_2 q3.2 ha6.2 hq7) (gV m5_120 m4_152 m4_153 m1_2 m4_154) hd_X9_isAway ⟨Nat.le_of_ble_eq_true rfl, Nat.le_of_ble_eq_true rfl, rfl, rfl⟩ ha6.1 ha6.2 rfl rfl rfl hl.1 rfl rc0 rfl dX12_isOff_20 ⟨Nat.le_of_ble_eq_true rfl, Nat.le_of_ble_eq_true rfl⟩ (fun H locs hH => ?_)
  exact hx_zret hx hb (Nat.le_of_ble_eq_true rfl) (Nat.le_of_ble_eq_true rfl) hret rfl hf hH hlocks dX12_isOff_23
end
