section
variable {p : Program} {l : Launch} {e : Env} {s : State} {m : MethodId} {args : Array Value} {below : List Frame} {meth : Method} {c : Code} {E : Ev} {K : Kd} {z : Nat}

theorem dX13_readsOfficer_0 : decode cX13_readsOfficer 0 = .ok (.aload_n 0, 1) := by decide +kernel
theorem dX13_readsOfficer_1 : decode cX13_readsOfficer 1 = .ok (.getfield 13, 3) := by decide +kernel
theorem dX13_readsOfficer_4 : decode cX13_readsOfficer 4 = .ok (.iconst 1, 1) := by decide +kernel
theorem dX13_readsOfficer_5 : decode cX13_readsOfficer 5 = .ok (.iaload, 1) := by decide +kernel
theorem dX13_readsOfficer_6 : decode cX13_readsOfficer 6 = .ok (.istore_n 1, 1) := by decide +kernel
theorem dX13_readsOfficer_7 : decode cX13_readsOfficer 7 = .ok (.aload_n 0, 1) := by decide +kernel
theorem dX13_readsOfficer_8 : decode cX13_readsOfficer 8 = .ok (.iload_n 1, 1) := by decide +kernel
theorem dX13_readsOfficer_9 : decode cX13_readsOfficer 9 = .ok (.bipush 6, 2) := by decide +kernel
theorem dX13_readsOfficer_11 : decode cX13_readsOfficer 11 = .ok (.invokevirtual 423, 3) := by decide +kernel
theorem dX13_readsOfficer_14 : decode cX13_readsOfficer 14 = .ok (.ifCond .ne 4, 3) := by decide +kernel
theorem dX13_readsOfficer_17 : decode cX13_readsOfficer 17 = .ok (.return_, 1) := by decide +kernel
theorem dX13_readsOfficer_18 : decode cX13_readsOfficer 18 = .ok (.aload_n 0, 1) := by decide +kernel
theorem dX13_readsOfficer_19 : decode cX13_readsOfficer 19 = .ok (.aload_n 0, 1) := by decide +kernel
theorem dX13_readsOfficer_20 : decode cX13_readsOfficer 20 = .ok (.getfield 71, 3) := by decide +kernel
theorem dX13_readsOfficer_23 : decode cX13_readsOfficer 23 = .ok (.iload_n 1, 1) := by decide +kernel
theorem dX13_readsOfficer_24 : decode cX13_readsOfficer 24 = .ok (.invokevirtual 426, 3) := by decide +kernel
theorem dX13_readsOfficer_27 : decode cX13_readsOfficer 27 = .ok (.aload_n 0, 1) := by decide +kernel
theorem dX13_readsOfficer_28 : decode cX13_readsOfficer 28 = .ok (.bipush 10, 2) := by decide +kernel
theorem dX13_readsOfficer_30 : decode cX13_readsOfficer 30 = .ok (.iload_n 1, 1) := by decide +kernel
theorem dX13_readsOfficer_31 : decode cX13_readsOfficer 31 = .ok (.iadd, 1) := by decide +kernel
theorem dX13_readsOfficer_32 : decode cX13_readsOfficer 32 = .ok (.iconst 0, 1) := by decide +kernel
theorem dX13_readsOfficer_33 : decode cX13_readsOfficer 33 = .ok (.invokevirtual 434, 3) := by decide +kernel
theorem dX13_readsOfficer_36 : decode cX13_readsOfficer 36 = .ok (.aload_n 0, 1) := by decide +kernel
theorem dX13_readsOfficer_37 : decode cX13_readsOfficer 37 = .ok (.iconst 4, 1) := by decide +kernel
theorem dX13_readsOfficer_38 : decode cX13_readsOfficer 38 = .ok (.invokevirtual 386, 3) := by decide +kernel
theorem dX13_readsOfficer_41 : decode cX13_readsOfficer 41 = .ok (.ifCond .eq 87, 3) := by decide +kernel
theorem dX13_readsOfficer_44 : decode cX13_readsOfficer 44 = .ok (.aload_n 0, 1) := by decide +kernel
theorem dX13_readsOfficer_45 : decode cX13_readsOfficer 45 = .ok (.getfield 13, 3) := by decide +kernel
theorem dX13_readsOfficer_48 : decode cX13_readsOfficer 48 = .ok (.bipush 10, 2) := by decide +kernel
theorem dX13_readsOfficer_50 : decode cX13_readsOfficer 50 = .ok (.iload_n 1, 1) := by decide +kernel
theorem dX13_readsOfficer_51 : decode cX13_readsOfficer 51 = .ok (.iadd, 1) := by decide +kernel
theorem dX13_readsOfficer_52 : decode cX13_readsOfficer 52 = .ok (.iaload, 1) := by decide +kernel
theorem dX13_readsOfficer_53 : decode cX13_readsOfficer 53 = .ok (.istore_n 2, 1) := by decide +kernel
theorem dX13_readsOfficer_54 : decode cX13_readsOfficer 54 = .ok (.aload_n 0, 1) := by decide +kernel
theorem dX13_readsOfficer_55 : decode cX13_readsOfficer 55 = .ok (.iload_n 2, 1) := by decide +kernel
theorem dX13_readsOfficer_56 : decode cX13_readsOfficer 56 = .ok (.iconst 3, 1) := by decide +kernel
theorem dX13_readsOfficer_57 : decode cX13_readsOfficer 57 = .ok (.invokevirtual 423, 3) := by decide +kernel
theorem dX13_readsOfficer_60 : decode cX13_readsOfficer 60 = .ok (.ifCond .ne 4, 3) := by decide +kernel
theorem dX13_readsOfficer_63 : decode cX13_readsOfficer 63 = .ok (.return_, 1) := by decide +kernel
theorem dX13_readsOfficer_64 : decode cX13_readsOfficer 64 = .ok (.aload_n 0, 1) := by decide +kernel
theorem dX13_readsOfficer_65 : decode cX13_readsOfficer 65 = .ok (.iconst 0, 1) := by decide +kernel
theorem dX13_readsOfficer_66 : decode cX13_readsOfficer 66 = .ok (.sipush 599, 3) := by decide +kernel
theorem dX13_readsOfficer_69 : decode cX13_readsOfficer 69 = .ok (.invokevirtual 405, 3) := by decide +kernel
theorem dX13_readsOfficer_72 : decode cX13_readsOfficer 72 = .ok (.istore_n 3, 1) := by decide +kernel
theorem dX13_readsOfficer_73 : decode cX13_readsOfficer 73 = .ok (.aload_n 0, 1) := by decide +kernel
theorem dX13_readsOfficer_74 : decode cX13_readsOfficer 74 = .ok (.bipush 16, 2) := by decide +kernel
theorem dX13_readsOfficer_76 : decode cX13_readsOfficer 76 = .ok (.bipush 6, 2) := by decide +kernel
theorem dX13_readsOfficer_78 : decode cX13_readsOfficer 78 = .ok (.iload_n 1, 1) := by decide +kernel
theorem dX13_readsOfficer_79 : decode cX13_readsOfficer 79 = .ok (.imul, 1) := by decide +kernel
theorem dX13_readsOfficer_80 : decode cX13_readsOfficer 80 = .ok (.iadd, 1) := by decide +kernel
theorem dX13_readsOfficer_81 : decode cX13_readsOfficer 81 = .ok (.iconst 2, 1) := by decide +kernel
theorem dX13_readsOfficer_82 : decode cX13_readsOfficer 82 = .ok (.iload_n 2, 1) := by decide +kernel
theorem dX13_readsOfficer_83 : decode cX13_readsOfficer 83 = .ok (.imul, 1) := by decide +kernel
theorem dX13_readsOfficer_84 : decode cX13_readsOfficer 84 = .ok (.iadd, 1) := by decide +kernel
theorem dX13_readsOfficer_85 : decode cX13_readsOfficer 85 = .ok (.iload_n 3, 1) := by decide +kernel
theorem dX13_readsOfficer_86 : decode cX13_readsOfficer 86 = .ok (.invokevirtual 434, 3) := by decide +kernel
theorem dX13_readsOfficer_89 : decode cX13_readsOfficer 89 = .ok (.aload_n 0, 1) := by decide +kernel
theorem dX13_readsOfficer_90 : decode cX13_readsOfficer 90 = .ok (.bipush 16, 2) := by decide +kernel
theorem dX13_readsOfficer_92 : decode cX13_readsOfficer 92 = .ok (.bipush 6, 2) := by decide +kernel
theorem dX13_readsOfficer_94 : decode cX13_readsOfficer 94 = .ok (.iload_n 1, 1) := by decide +kernel
theorem dX13_readsOfficer_95 : decode cX13_readsOfficer 95 = .ok (.imul, 1) := by decide +kernel
theorem dX13_readsOfficer_96 : decode cX13_readsOfficer 96 = .ok (.iadd, 1) := by decide +kernel
theorem dX13_readsOfficer_97 : decode cX13_readsOfficer 97 = .ok (.iconst 2, 1) := by decide +kernel
theorem dX13_readsOfficer_98 : decode cX13_readsOfficer 98 = .ok (.iload_n 2, 1) := by decide +kernel
theorem dX13_readsOfficer_99 : decode cX13_readsOfficer 99 = .ok (.imul, 1) := by decide +kernel
theorem dX13_readsOfficer_100 : decode cX13_readsOfficer 100 = .ok (.iadd, 1) := by decide +kernel
theorem dX13_readsOfficer_101 : decode cX13_readsOfficer 101 = .ok (.iconst 1, 1) := by decide +kernel
theorem dX13_readsOfficer_102 : decode cX13_readsOfficer 102 = .ok (.iadd, 1) := by decide +kernel
theorem dX13_readsOfficer_103 : decode cX13_readsOfficer 103 = .ok (.aload_n 0, 1) := by decide +kernel
theorem dX13_readsOfficer_104 : decode cX13_readsOfficer 104 = .ok (.iload_n 3, 1) := by decide +kernel
theorem dX13_readsOfficer_105 : decode cX13_readsOfficer 105 = .ok (.sipush 599, 3) := by decide +kernel
theorem dX13_readsOfficer_108 : decode cX13_readsOfficer 108 = .ok (.invokevirtual 405, 3) := by decide +kernel
theorem dX13_readsOfficer_111 : decode cX13_readsOfficer 111 = .ok (.invokevirtual 434, 3) := by decide +kernel
theorem dX13_readsOfficer_114 : decode cX13_readsOfficer 114 = .ok (.aload_n 0, 1) := by decide +kernel
theorem dX13_readsOfficer_115 : decode cX13_readsOfficer 115 = .ok (.bipush 10, 2) := by decide +kernel
theorem dX13_readsOfficer_117 : decode cX13_readsOfficer 117 = .ok (.iload_n 1, 1) := by decide +kernel
theorem dX13_readsOfficer_118 : decode cX13_readsOfficer 118 = .ok (.iadd, 1) := by decide +kernel
theorem dX13_readsOfficer_119 : decode cX13_readsOfficer 119 = .ok (.iload_n 2, 1) := by decide +kernel
theorem dX13_readsOfficer_120 : decode cX13_readsOfficer 120 = .ok (.iconst 1, 1) := by decide +kernel
theorem dX13_readsOfficer_121 : decode cX13_readsOfficer 121 = .ok (.iadd, 1) := by decide +kernel
theorem dX13_readsOfficer_122 : decode cX13_readsOfficer 122 = .ok (.invokevirtual 434, 3) := by decide +kernel
theorem dX13_readsOfficer_125 : decode cX13_readsOfficer 125 = .ok (.goto (-89), 3) := by decide +kernel
theorem dX13_readsOfficer_128 : decode cX13_readsOfficer 128 = .ok (.aload_n 0, 1) := by decide +kernel
theorem dX13_readsOfficer_129 : decode cX13_readsOfficer 129 = .ok (.iconst 1, 1) := by decide +kernel
theorem dX13_readsOfficer_130 : decode cX13_readsOfficer 130 = .ok (.iload_n 1, 1) := by decide +kernel
theorem dX13_readsOfficer_131 : decode cX13_readsOfficer 131 = .ok (.iconst 1, 1) := by decide +kernel
theorem dX13_readsOfficer_132 : decode cX13_readsOfficer 132 = .ok (.iadd, 1) := by decide +kernel
theorem dX13_readsOfficer_133 : decode cX13_readsOfficer 133 = .ok (.invokevirtual 434, 3) := by decide +kernel
theorem dX13_readsOfficer_136 : decode cX13_readsOfficer 136 = .ok (.return_, 1) := by decide +kernel
theorem hd_X13_readsOfficer : yX13_readsOfficer.cls = RX13 ∧ yX13_readsOfficer.cls ≠ "java/lang/invoke/MethodHandle" ∧ yX13_readsOfficer.cls ≠ "java/lang/invoke/VarHandle" ∧ (parseMethodDescriptor yX13_readsOfficer.desc).map (fun d => d.parameters.length) = some 0 := by decide +kernel
theorem hs_X13_readsOfficer : yX13_readsOfficer.cls ≠ "java/lang/invoke/MethodHandle" ∧ yX13_readsOfficer.cls ≠ "java/lang/invoke/VarHandle" ∧ (parseMethodDescriptor yX13_readsOfficer.desc).map (fun d => d.parameters.length) = some 0 := by decide +kernel
set_option maxHeartbeats 4000000 in
set_option maxRecDepth 100000 in
theorem l_X13_readsOfficer_L36 (C : CX p l e s m args meth c cX13_readsOfficer 4 RX13 (Option.none : Option Jvm.ClassFile.FieldType) E) {o : Nat} (ho : K o = some (11, 0)) {w' : Wd} (k : Int32 → Wd → Option Wd) (hk : ∀ (v1_36 : Int32) (w : Wd) (H : Heap) (locs : List Loc) (ls : Array Slot), HQ E K z w s H locs → lv_has ls 4 [(1, .int v1_36), (0, rv E (some o))] → k v1_36 w = some w' → W p l e ({ frames := 8, cells := 0, slots := 0, locals := 172 } : Room) s m args below meth c H locs 0 0 (MQ below (QV E K z w') args s 0 0 (hA E)) (F0 m 128 ls [])) : ∀ (n : Nat) (v1_36 : Int32) (w : Wd) (H : Heap) (locs : List Loc) (ls : Array Slot), HQ E K z w s H locs → lv_has ls 4 [(1, .int v1_36), (0, rv E (some o))] → f_X13_readsOfficer_L36 K o k n v1_36 w = some w' → W p l e ({ frames := 8, cells := 0, slots := 0, locals := 172 } : Room) s m args below meth c H locs 0 0 (MQ below (QV E K z w') args s 0 0 (hA E)) (F0 m 36 ls []) := by
  obtain ⟨hx, hb, hml, hown, hts, hKs, hT, hb0, hlocks, hret⟩ := id C
  intro n
  induction n with
  | zero =>
    intro v1_36 w H locs ls hH hl hf
    cases hf
  | succ n ih =>
    intro v1_36 w H locs ls hH hl hf
    rw [f_X13_readsOfficer_L36] at hf
    refine hl_aload_n hx hb dX13_readsOfficer_36 rfl (lv_at hl 1 rfl) ?_
    refine lv_iconst (v := 4) hx hb dX13_readsOfficer_37 (by decide) ?_
    obtain ⟨q8, hq8, hf⟩ := bnd hf
    refine hcV_i hx hb hml hown hts hKs hT hb0 hH (As := [.int 4]) (rest := []) (k_X13_isWord l E K H.size o 4 w ho hq8) (gV m9_55 m9_57 ms_107 m1_16 m9_58) hd_X13_isWord ⟨Nat.le_of_ble_eq_true rfl, Nat.le_of_ble_eq_true rfl, rfl, rfl⟩ rfl ho rfl rfl rfl hl.1 rfl rc0 rfl dX13_readsOfficer_38 ⟨Nat.zero_le _, Nat.zero_le _⟩ (fun H locs hH => ?_)
    refine lv_if_eq (tgt := 128) hx hb dX13_readsOfficer_41 (by decide) (fun c9 => ?_) (fun c9 => ?_)
    · replace hf := (if_pos c9).symm.trans hf
      exact hk v1_36 _ _ _ _ hH (lv_sub hl [0, 1] rfl) hf
    · replace hf := (if_neg c9).symm.trans hf
      refine hl_aload_n hx hb dX13_readsOfficer_44 rfl (lv_at hl 1 rfl) ?_
      refine g13_2 hx hb hts hown hKs hH rfl ho m6_184 dX13_readsOfficer_45 ?_
      refine lv_bipush (v := 10) hx hb dX13_readsOfficer_48 (by decide) ?_
      refine lv_iload_n hx hb dX13_readsOfficer_50 rfl (lv_at hl 0 rfl) ?_
      refine lv_iadd hx hb dX13_readsOfficer_51 ?_
      obtain ⟨a10, ha10, hf⟩ := bnd hf
      replace ha10 := cha_some ha10
      obtain ⟨j11, hj11, hf⟩ := bnd hf
      refine hw_iald hx hb hKs hH ha10.1 ha10.2 hj11 dX13_readsOfficer_52 ?_
      refine lv_istore_n (lv' := [(2, .int ((aI q8.2 a10.1 j11))), (1, .int v1_36), (0, rv E (some o))]) hx hb dX13_readsOfficer_53 rfl hl (by decide) rfl (fun ls hl => ?_)
      refine hl_aload_n hx hb dX13_readsOfficer_54 rfl (lv_at hl 2 rfl) ?_
      refine lv_iload_n hx hb dX13_readsOfficer_55 rfl (lv_at hl 0 rfl) ?_
      refine lv_iconst (v := 3) hx hb dX13_readsOfficer_56 (by decide) ?_
      obtain ⟨q12, hq12, hf⟩ := bnd hf
      refine hcV_i hx hb hml hown hts hKs hT hb0 hH (As := [.int ((aI q8.2 a10.1 j11)), .int 3]) (rest := []) (k_X13_begins l E K H.size o (aI q8.2 a10.1 j11) 3 q8.2 ho hq12) (gV m9_63 m9_65 ms_109 m1_16 m9_66) hd_X13_begins ⟨Nat.le_of_ble_eq_true rfl, Nat.le_of_ble_eq_true rfl, rfl, rfl⟩ rfl ho rfl rfl rfl hl.1 rfl rc0 rfl dX13_readsOfficer_57 ⟨Nat.zero_le _, Nat.zero_le _⟩ (fun H locs hH => ?_)
      refine lv_if_ne (tgt := 64) hx hb dX13_readsOfficer_60 (by decide) (fun c13 => ?_) (fun c13 => ?_)
      · replace hf := (if_neg c13).symm.trans hf
        refine hl_aload_n hx hb dX13_readsOfficer_64 rfl (lv_at hl 2 rfl) ?_
        refine lv_iconst (v := 0) hx hb dX13_readsOfficer_65 (by decide) ?_
        refine lv_sipush (v := 599) hx hb dX13_readsOfficer_66 (by decide) ?_
        obtain ⟨q14, hq14, hf⟩ := bnd hf
        refine hcV_i hx hb hml hown hts hKs hT hb0 hH (As := [.int 0, .int 599]) (rest := []) (k_X13_number l E K H.size o 0 599 q12.2 ho hq14) (gV m9_112 m9_114 ms_120 m1_16 m9_115) hd_X13_number ⟨Nat.le_of_ble_eq_true rfl, Nat.le_of_ble_eq_true rfl, rfl, rfl⟩ rfl ho rfl rfl rfl hl.1 rfl rc0 rfl dX13_readsOfficer_69 ⟨Nat.zero_le _, Nat.zero_le _⟩ (fun H locs hH => ?_)
        refine lv_istore_n (lv' := [(3, .int (q14.1)), (2, .int ((aI q8.2 a10.1 j11))), (1, .int v1_36), (0, rv E (some o))]) hx hb dX13_readsOfficer_72 rfl hl (by decide) rfl (fun ls hl => ?_)
        refine hl_aload_n hx hb dX13_readsOfficer_73 rfl (lv_at hl 3 rfl) ?_
        refine lv_bipush (v := 16) hx hb dX13_readsOfficer_74 (by decide) ?_
        refine lv_bipush (v := 6) hx hb dX13_readsOfficer_76 (by decide) ?_
        refine lv_iload_n hx hb dX13_readsOfficer_78 rfl (lv_at hl 2 rfl) ?_
        refine lv_imul hx hb dX13_readsOfficer_79 ?_
        refine lv_iadd hx hb dX13_readsOfficer_80 ?_
        refine lv_iconst (v := 2) hx hb dX13_readsOfficer_81 (by decide) ?_
        refine lv_iload_n hx hb dX13_readsOfficer_82 rfl (lv_at hl 1 rfl) ?_
        refine lv_imul hx hb dX13_readsOfficer_83 ?_
        refine lv_iadd hx hb dX13_readsOfficer_84 ?_
        refine lv_iload_n hx hb dX13_readsOfficer_85 rfl (lv_at hl 0 rfl) ?_
        obtain ⟨q15, hq15, hf⟩ := bnd hf
        refine hcV_v hx hb hml hown hts hKs hT hb0 hH (As := [.int (((16 + (6 * v1_36)) + (2 * (aI q8.2 a10.1 j11)))), .int (q14.1)]) (rest := []) (k_X13_laysDraft l E K H.size o ((16 + (6 * v1_36)) + (2 * (aI q8.2 a10.1 j11))) q14.1 q14.2 ho hq15) (gV m9_116 m9_118 ms_121 m1_16 m9_119) hd_X13_laysDraft ⟨Nat.le_of_ble_eq_true rfl, Nat.le_of_ble_eq_true rfl, rfl, rfl⟩ rfl ho rfl rfl rfl hl.1 rfl rc0 rfl dX13_readsOfficer_86 ⟨Nat.zero_le _, Nat.zero_le _⟩ (fun H locs hH => ?_)
        refine hl_aload_n hx hb dX13_readsOfficer_89 rfl (lv_at hl 3 rfl) ?_
        refine lv_bipush (v := 16) hx hb dX13_readsOfficer_90 (by decide) ?_
        refine lv_bipush (v := 6) hx hb dX13_readsOfficer_92 (by decide) ?_
        refine lv_iload_n hx hb dX13_readsOfficer_94 rfl (lv_at hl 2 rfl) ?_
        refine lv_imul hx hb dX13_readsOfficer_95 ?_
        refine lv_iadd hx hb dX13_readsOfficer_96 ?_
        refine lv_iconst (v := 2) hx hb dX13_readsOfficer_97 (by decide) ?_
        refine lv_iload_n hx hb dX13_readsOfficer_98 rfl (lv_at hl 1 rfl) ?_
        refine lv_imul hx hb dX13_readsOfficer_99 ?_
        refine lv_iadd hx hb dX13_readsOfficer_100 ?_
        refine lv_iconst (v := 1) hx hb dX13_readsOfficer_101 (by decide) ?_
        refine lv_iadd hx hb dX13_readsOfficer_102 ?_
        refine hl_aload_n hx hb dX13_readsOfficer_103 rfl (lv_at hl 3 rfl) ?_
        refine lv_iload_n hx hb dX13_readsOfficer_104 rfl (lv_at hl 0 rfl) ?_
        refine lv_sipush (v := 599) hx hb dX13_readsOfficer_105 (by decide) ?_
        obtain ⟨q16, hq16, hf⟩ := bnd hf
        refine hcV_i hx hb hml hown hts hKs hT hb0 hH (As := [.int (q14.1), .int 599]) (rest := [.int ((((16 + (6 * v1_36)) + (2 * (aI q8.2 a10.1 j11))) + 1)), rv E (some o)]) (k_X13_number l E K H.size o q14.1 599 q15 ho hq16) (gV m9_112 m9_114 ms_120 m1_16 m9_115) hd_X13_number ⟨Nat.le_of_ble_eq_true rfl, Nat.le_of_ble_eq_true rfl, rfl, rfl⟩ rfl ho rfl rfl rfl hl.1 rfl (rcI (rcV rc0)) rfl dX13_readsOfficer_108 ⟨Nat.zero_le _, Nat.zero_le _⟩ (fun H locs hH => ?_)
        obtain ⟨q17, hq17, hf⟩ := bnd hf
        refine hcV_v hx hb hml hown hts hKs hT hb0 hH (As := [.int ((((16 + (6 * v1_36)) + (2 * (aI q8.2 a10.1 j11))) + 1)), .int (q16.1)]) (rest := []) (k_X13_laysDraft l E K H.size o (((16 + (6 * v1_36)) + (2 * (aI q8.2 a10.1 j11))) + 1) q16.1 q16.2 ho hq17) (gV m9_116 m9_118 ms_121 m1_16 m9_119) hd_X13_laysDraft ⟨Nat.le_of_ble_eq_true rfl, Nat.le_of_ble_eq_true rfl, rfl, rfl⟩ rfl ho rfl rfl rfl hl.1 rfl rc0 rfl dX13_readsOfficer_111 ⟨Nat.zero_le _, Nat.zero_le _⟩ (fun H locs hH => ?_)
        refine hl_aload_n hx hb dX13_readsOfficer_114 rfl (lv_at hl 3 rfl) ?_
        refine lv_bipush (v := 10) hx hb dX13_readsOfficer_115 (by decide) ?_
        refine lv_iload_n hx hb dX13_readsOfficer_117 rfl (lv_at hl 2 rfl) ?_
        refine lv_iadd hx hb dX13_readsOfficer_118 ?_
        refine lv_iload_n hx hb dX13_readsOfficer_119 rfl (lv_at hl 1 rfl) ?_
        refine lv_iconst (v := 1) hx hb dX13_readsOfficer_120 (by decide) ?_
        refine lv_iadd hx hb dX13_readsOfficer_121 ?_
        obtain ⟨q18, hq18, hf⟩ := bnd hf
        refine hcV_v hx hb hml hown hts hKs hT hb0 hH (As := [.int ((10 + v1_36)), .int (((aI q8.2 a10.1 j11) + 1))]) (rest := []) (k_X13_laysDraft l E K H.size o (10 + v1_36) ((aI q8.2 a10.1 j11) + 1) q17 ho hq18) (gV m9_116 m9_118 ms_121 m1_16 m9_119) hd_X13_laysDraft ⟨Nat.le_of_ble_eq_true rfl, Nat.le_of_ble_eq_true rfl, rfl, rfl⟩ rfl ho rfl rfl rfl hl.1 rfl rc0 rfl dX13_readsOfficer_122 ⟨Nat.zero_le _, Nat.zero_le _⟩ (fun H locs hH => ?_)
        refine lv_goto (tgt := 36) hx hb dX13_readsOfficer_125 (by decide) ?_
        exact ih v1_36 _ _ _ _ hH (lv_sub hl [2, 3] rfl) hf
      · replace hf := (if_pos c13).symm.trans hf
        exact hw_vret hx hb hret hf hH hlocks dX13_readsOfficer_63
set_option maxHeartbeats 4000000 in
set_option maxRecDepth 100000 in
theorem k_X13_readsOfficer (l : Launch) (E : Ev) (K : Kd) (z : Nat) (o : Nat) (w : Wd) (ho : K o = some (11, 0)) {w' : Wd} (hf : f_X13_readsOfficer K o w = some w') : Met l yX13_readsOfficer (Cond.code yX13_readsOfficer cX13_readsOfficer 4 (Option.none : Option Jvm.ClassFile.FieldType) :: bt) ({ frames := 8, cells := 0, slots := 0, locals := 172 } : Room) (va_Pc [rv E (some o)] (HB E K w z)) (QV E K z w') 0 0 (hA E) := by
  refine Met.ofW (cc := cX13_readsOfficer) (maxL := 4) (ret := (Option.none : Option Jvm.ClassFile.FieldType)) (by decide) rfl ?_
  intro p e s m args below meth c s₁ B hml hv
  obtain ⟨rfl, hz, hP, hKs, hT, hb0⟩ := hv
  have C : CX p l e s m _ meth c cX13_readsOfficer 4 RX13 (Option.none : Option Jvm.ClassFile.FieldType) E := ⟨B.exec, B.bytes, hml, findClass_of_methodNamed B.named, fun w h => atoms_spec (ws := Cond.code yX13_readsOfficer cX13_readsOfficer 4 (Option.none : Option Jvm.ClassFile.FieldType) :: bt) B.pre w (List.mem_cons_of_mem _ h), hKs, hT, by rw [hz]; exact hb0, B.notSynchronized, B.returns⟩
  have hH : HQ E K z w s s.heap [] := ⟨hP, va_S.rf, hz⟩
  obtain ⟨hx, hb, hml, hown, hts, hKs, hT, hb0, hlocks, hret⟩ := id C
  have hl := lv_entry [rv E (some o)] (n := 4) (by simp [lg_len_nil, lg_len_i, lg_len_j, lg_len_q, lg_len_f, lg_len_d, lg_len_r])
  rw [lg_entry_eq]
  generalize (lg_sl [rv E (some o)] ++ List.replicate (4 - (lg_sl [rv E (some o)]).length) Slot.unset).toArray = ls at hl ⊢
  replace hl : lv_has ls 4 [(0, rv E (some o))] := by simpa only [lv_args, cat_q, cat_i, cat_j, reduceIte, Nat.reduceEqDiff, Nat.reduceAdd, Nat.zero_add] using hl
  generalize s.heap = H at hH ⊢
  unfold f_X13_readsOfficer at hf
  refine hl_aload_n hx hb dX13_readsOfficer_0 rfl (lv_at hl 0 rfl) ?_
  refine g13_2 hx hb hts hown hKs hH rfl ho m6_184 dX13_readsOfficer_1 ?_
  refine lv_iconst (v := 1) hx hb dX13_readsOfficer_4 (by decide) ?_
  obtain ⟨a1, ha1, hf⟩ := bnd hf
  replace ha1 := cha_some ha1
  obtain ⟨j2, hj2, hf⟩ := bnd hf
  refine hw_iald hx hb hKs hH ha1.1 ha1.2 hj2 dX13_readsOfficer_5 ?_
  refine lv_istore_n (lv' := [(1, .int ((aI w a1.1 j2))), (0, rv E (some o))]) hx hb dX13_readsOfficer_6 rfl hl (by decide) rfl (fun ls hl => ?_)
  refine hl_aload_n hx hb dX13_readsOfficer_7 rfl (lv_at hl 1 rfl) ?_
  refine lv_iload_n hx hb dX13_readsOfficer_8 rfl (lv_at hl 0 rfl) ?_
  refine lv_bipush (v := 6) hx hb dX13_readsOfficer_9 (by decide) ?_
  obtain ⟨q3, hq3, hf⟩ := bnd hf
  refine hcV_i hx hb hml hown hts hKs hT hb0 hH (As := [.int ((aI w a1.1 j2)), .int 6]) (rest := []) (k_X13_begins l E K H.size o (aI w a1.1 j2) 6 w ho hq3) (gV m9_63 m9_65 ms_109 m1_16 m9_66) hd_X13_begins ⟨Nat.le_of_ble_eq_true rfl, Nat.le_of_ble_eq_true rfl, rfl, rfl⟩ rfl ho rfl rfl rfl hl.1 rfl rc0 rfl dX13_readsOfficer_11 ⟨Nat.zero_le _, Nat.zero_le _⟩ (fun H locs hH => ?_)
  refine lv_if_ne (tgt := 18) hx hb dX13_readsOfficer_14 (by decide) (fun c4 => ?_) (fun c4 => ?_)
  · replace hf := (if_neg c4).symm.trans hf
    refine hl_aload_n hx hb dX13_readsOfficer_18 rfl (lv_at hl 1 rfl) ?_
    refine hl_aload_n hx hb dX13_readsOfficer_19 rfl (lv_at hl 1 rfl) ?_
    refine g13_34 hx hb hts hown hKs hH rfl ho m6_216 dX13_readsOfficer_20 ?_
    refine lv_iload_n hx hb dX13_readsOfficer_23 rfl (lv_at hl 0 rfl) ?_
    obtain ⟨q5, hq5, hf⟩ := bnd hf
    refine hcV_v hx hb hml hown hts hKs hT hb0 hH (As := [rv E (wR q3.2 1334 o), .int ((aI w a1.1 j2))]) (rest := []) (k_X13_newName l E K H.size o (wR q3.2 1334 o) (aI w a1.1 j2) q3.2 ho hq5) (gV m9_83 m9_85 ms_114 m1_16 m9_86) hd_X13_newName ⟨Nat.le_of_ble_eq_true rfl, Nat.le_of_ble_eq_true rfl, rfl, rfl⟩ rfl ho rfl rfl rfl hl.1 rfl rc0 rfl dX13_readsOfficer_24 ⟨Nat.zero_le _, Nat.zero_le _⟩ (fun H locs hH => ?_)
    refine hl_aload_n hx hb dX13_readsOfficer_27 rfl (lv_at hl 1 rfl) ?_
    refine lv_bipush (v := 10) hx hb dX13_readsOfficer_28 (by decide) ?_
    refine lv_iload_n hx hb dX13_readsOfficer_30 rfl (lv_at hl 0 rfl) ?_
    refine lv_iadd hx hb dX13_readsOfficer_31 ?_
    refine lv_iconst (v := 0) hx hb dX13_readsOfficer_32 (by decide) ?_
    obtain ⟨q6, hq6, hf⟩ := bnd hf
    refine hcV_v hx hb hml hown hts hKs hT hb0 hH (As := [.int ((10 + (aI w a1.1 j2))), .int 0]) (rest := []) (k_X13_laysDraft l E K H.size o (10 + (aI w a1.1 j2)) 0 q5 ho hq6) (gV m9_116 m9_118 ms_121 m1_16 m9_119) hd_X13_laysDraft ⟨Nat.le_of_ble_eq_true rfl, Nat.le_of_ble_eq_true rfl, rfl, rfl⟩ rfl ho rfl rfl rfl hl.1 rfl rc0 rfl dX13_readsOfficer_33 ⟨Nat.zero_le _, Nat.zero_le _⟩ (fun H locs hH => ?_)
    refine l_X13_readsOfficer_L36  C ho _ (fun v1_36 w7 H locs ls hH hl hf => ?_) fu (aI w a1.1 j2) q6 _ _ _ hH (lv_sub hl [0, 1] rfl) hf
    refine hl_aload_n hx hb dX13_readsOfficer_128 rfl (lv_at hl 1 rfl) ?_
    refine lv_iconst (v := 1) hx hb dX13_readsOfficer_129 (by decide) ?_
    refine lv_iload_n hx hb dX13_readsOfficer_130 rfl (lv_at hl 0 rfl) ?_
    refine lv_iconst (v := 1) hx hb dX13_readsOfficer_131 (by decide) ?_
    refine lv_iadd hx hb dX13_readsOfficer_132 ?_
    obtain ⟨q19, hq19, hf⟩ := bnd hf
    refine hcV_v hx hb hml hown hts hKs hT hb0 hH (As := [.int 1, .int ((v1_36 + 1))]) (rest := []) (k_X13_laysDraft l E K H.size o 1 (v1_36 + 1) w7 ho hq19) (gV m9_116 m9_118 ms_121 m1_16 m9_119) hd_X13_laysDraft ⟨Nat.le_of_ble_eq_true rfl, Nat.le_of_ble_eq_true rfl, rfl, rfl⟩ rfl ho rfl rfl rfl hl.1 rfl rc0 rfl dX13_readsOfficer_133 ⟨Nat.zero_le _, Nat.zero_le _⟩ (fun H locs hH => ?_)
    exact hw_vret hx hb hret hf hH hlocks dX13_readsOfficer_136
  · replace hf := (if_pos c4).symm.trans hf
    exact hw_vret hx hb hret hf hH hlocks dX13_readsOfficer_17

theorem dX13_readsWitness_0 : decode cX13_readsWitness 0 = .ok (.aload_n 0, 1) := by decide +kernel
theorem dX13_readsWitness_1 : decode cX13_readsWitness 1 = .ok (.getfield 13, 3) := by decide +kernel
theorem dX13_readsWitness_4 : decode cX13_readsWitness 4 = .ok (.iconst 2, 1) := by decide +kernel
theorem dX13_readsWitness_5 : decode cX13_readsWitness 5 = .ok (.iaload, 1) := by decide +kernel
theorem dX13_readsWitness_6 : decode cX13_readsWitness 6 = .ok (.istore_n 1, 1) := by decide +kernel
theorem dX13_readsWitness_7 : decode cX13_readsWitness 7 = .ok (.aload_n 0, 1) := by decide +kernel
theorem dX13_readsWitness_8 : decode cX13_readsWitness 8 = .ok (.iload_n 1, 1) := by decide +kernel
theorem dX13_readsWitness_9 : decode cX13_readsWitness 9 = .ok (.bipush 12, 2) := by decide +kernel
theorem dX13_readsWitness_11 : decode cX13_readsWitness 11 = .ok (.invokevirtual 423, 3) := by decide +kernel
theorem dX13_readsWitness_14 : decode cX13_readsWitness 14 = .ok (.ifCond .ne 4, 3) := by decide +kernel
theorem dX13_readsWitness_17 : decode cX13_readsWitness 17 = .ok (.return_, 1) := by decide +kernel
theorem dX13_readsWitness_18 : decode cX13_readsWitness 18 = .ok (.aload_n 0, 1) := by decide +kernel
theorem dX13_readsWitness_19 : decode cX13_readsWitness 19 = .ok (.aload_n 0, 1) := by decide +kernel
theorem dX13_readsWitness_20 : decode cX13_readsWitness 20 = .ok (.getfield 74, 3) := by decide +kernel
theorem dX13_readsWitness_23 : decode cX13_readsWitness 23 = .ok (.iload_n 1, 1) := by decide +kernel
theorem dX13_readsWitness_24 : decode cX13_readsWitness 24 = .ok (.invokevirtual 426, 3) := by decide +kernel
theorem dX13_readsWitness_27 : decode cX13_readsWitness 27 = .ok (.aload_n 0, 1) := by decide +kernel
theorem dX13_readsWitness_28 : decode cX13_readsWitness 28 = .ok (.bipush 6, 2) := by decide +kernel
theorem dX13_readsWitness_30 : decode cX13_readsWitness 30 = .ok (.iconst 0, 1) := by decide +kernel
theorem dX13_readsWitness_31 : decode cX13_readsWitness 31 = .ok (.sipush 599, 3) := by decide +kernel
theorem dX13_readsWitness_34 : decode cX13_readsWitness 34 = .ok (.invokevirtual 430, 3) := by decide +kernel
theorem dX13_readsWitness_37 : decode cX13_readsWitness 37 = .ok (.istore_n 2, 1) := by decide +kernel
theorem dX13_readsWitness_38 : decode cX13_readsWitness 38 = .ok (.aload_n 0, 1) := by decide +kernel
theorem dX13_readsWitness_39 : decode cX13_readsWitness 39 = .ok (.bipush 52, 2) := by decide +kernel
theorem dX13_readsWitness_41 : decode cX13_readsWitness 41 = .ok (.iload_n 1, 1) := by decide +kernel
theorem dX13_readsWitness_42 : decode cX13_readsWitness 42 = .ok (.iadd, 1) := by decide +kernel
theorem dX13_readsWitness_43 : decode cX13_readsWitness 43 = .ok (.iload_n 2, 1) := by decide +kernel
theorem dX13_readsWitness_44 : decode cX13_readsWitness 44 = .ok (.invokevirtual 434, 3) := by decide +kernel
theorem dX13_readsWitness_47 : decode cX13_readsWitness 47 = .ok (.aload_n 0, 1) := by decide +kernel
theorem dX13_readsWitness_48 : decode cX13_readsWitness 48 = .ok (.iload_n 2, 1) := by decide +kernel
theorem dX13_readsWitness_49 : decode cX13_readsWitness 49 = .ok (.sipush 599, 3) := by decide +kernel
theorem dX13_readsWitness_52 : decode cX13_readsWitness 52 = .ok (.invokevirtual 405, 3) := by decide +kernel
theorem dX13_readsWitness_55 : decode cX13_readsWitness 55 = .ok (.istore_n 3, 1) := by decide +kernel
theorem dX13_readsWitness_56 : decode cX13_readsWitness 56 = .ok (.aload_n 0, 1) := by decide +kernel
theorem dX13_readsWitness_57 : decode cX13_readsWitness 57 = .ok (.invokevirtual 379, 3) := by decide +kernel
theorem dX13_readsWitness_60 : decode cX13_readsWitness 60 = .ok (.ifCond .eq 13, 3) := by decide +kernel
theorem dX13_readsWitness_63 : decode cX13_readsWitness 63 = .ok (.aload_n 0, 1) := by decide +kernel
theorem dX13_readsWitness_64 : decode cX13_readsWitness 64 = .ok (.getfield 19, 3) := by decide +kernel
theorem dX13_readsWitness_67 : decode cX13_readsWitness 67 = .ok (.bipush 22, 2) := by decide +kernel
theorem dX13_readsWitness_69 : decode cX13_readsWitness 69 = .ok (.iload_n 1, 1) := by decide +kernel
theorem dX13_readsWitness_70 : decode cX13_readsWitness 70 = .ok (.iadd, 1) := by decide +kernel
theorem dX13_readsWitness_71 : decode cX13_readsWitness 71 = .ok (.iload_n 3, 1) := by decide +kernel
theorem dX13_readsWitness_72 : decode cX13_readsWitness 72 = .ok (.iastore, 1) := by decide +kernel
theorem dX13_readsWitness_73 : decode cX13_readsWitness 73 = .ok (.aload_n 0, 1) := by decide +kernel
theorem dX13_readsWitness_74 : decode cX13_readsWitness 74 = .ok (.bipush 64, 2) := by decide +kernel
theorem dX13_readsWitness_76 : decode cX13_readsWitness 76 = .ok (.iload_n 1, 1) := by decide +kernel
theorem dX13_readsWitness_77 : decode cX13_readsWitness 77 = .ok (.iadd, 1) := by decide +kernel
theorem dX13_readsWitness_78 : decode cX13_readsWitness 78 = .ok (.iconst 0, 1) := by decide +kernel
theorem dX13_readsWitness_79 : decode cX13_readsWitness 79 = .ok (.invokevirtual 434, 3) := by decide +kernel
theorem dX13_readsWitness_82 : decode cX13_readsWitness 82 = .ok (.aload_n 0, 1) := by decide +kernel
theorem dX13_readsWitness_83 : decode cX13_readsWitness 83 = .ok (.bipush 76, 2) := by decide +kernel
theorem dX13_readsWitness_85 : decode cX13_readsWitness 85 = .ok (.iload_n 1, 1) := by decide +kernel
theorem dX13_readsWitness_86 : decode cX13_readsWitness 86 = .ok (.iadd, 1) := by decide +kernel
theorem dX13_readsWitness_87 : decode cX13_readsWitness 87 = .ok (.bipush 7, 2) := by decide +kernel
theorem dX13_readsWitness_89 : decode cX13_readsWitness 89 = .ok (.invokevirtual 434, 3) := by decide +kernel
theorem dX13_readsWitness_92 : decode cX13_readsWitness 92 = .ok (.aload_n 0, 1) := by decide +kernel
theorem dX13_readsWitness_93 : decode cX13_readsWitness 93 = .ok (.iconst 2, 1) := by decide +kernel
theorem dX13_readsWitness_94 : decode cX13_readsWitness 94 = .ok (.invokevirtual 389, 3) := by decide +kernel
theorem dX13_readsWitness_97 : decode cX13_readsWitness 97 = .ok (.ifCond .eq 38, 3) := by decide +kernel
theorem dX13_readsWitness_100 : decode cX13_readsWitness 100 = .ok (.aload_n 0, 1) := by decide +kernel
theorem dX13_readsWitness_101 : decode cX13_readsWitness 101 = .ok (.iconst 0, 1) := by decide +kernel
theorem dX13_readsWitness_102 : decode cX13_readsWitness 102 = .ok (.bipush 7, 2) := by decide +kernel
theorem dX13_readsWitness_104 : decode cX13_readsWitness 104 = .ok (.invokevirtual 405, 3) := by decide +kernel
theorem dX13_readsWitness_107 : decode cX13_readsWitness 107 = .ok (.istore 4, 2) := by decide +kernel
theorem dX13_readsWitness_109 : decode cX13_readsWitness 109 = .ok (.aload_n 0, 1) := by decide +kernel
theorem dX13_readsWitness_110 : decode cX13_readsWitness 110 = .ok (.bipush 64, 2) := by decide +kernel
theorem dX13_readsWitness_112 : decode cX13_readsWitness 112 = .ok (.iload_n 1, 1) := by decide +kernel
theorem dX13_readsWitness_113 : decode cX13_readsWitness 113 = .ok (.iadd, 1) := by decide +kernel
theorem dX13_readsWitness_114 : decode cX13_readsWitness 114 = .ok (.iload 4, 2) := by decide +kernel
theorem dX13_readsWitness_116 : decode cX13_readsWitness 116 = .ok (.invokevirtual 434, 3) := by decide +kernel
theorem dX13_readsWitness_119 : decode cX13_readsWitness 119 = .ok (.aload_n 0, 1) := by decide +kernel
theorem dX13_readsWitness_120 : decode cX13_readsWitness 120 = .ok (.bipush 76, 2) := by decide +kernel
theorem dX13_readsWitness_122 : decode cX13_readsWitness 122 = .ok (.iload_n 1, 1) := by decide +kernel
theorem dX13_readsWitness_123 : decode cX13_readsWitness 123 = .ok (.iadd, 1) := by decide +kernel
theorem dX13_readsWitness_124 : decode cX13_readsWitness 124 = .ok (.aload_n 0, 1) := by decide +kernel
theorem dX13_readsWitness_125 : decode cX13_readsWitness 125 = .ok (.iload 4, 2) := by decide +kernel
theorem dX13_readsWitness_127 : decode cX13_readsWitness 127 = .ok (.bipush 7, 2) := by decide +kernel
theorem dX13_readsWitness_129 : decode cX13_readsWitness 129 = .ok (.invokevirtual 405, 3) := by decide +kernel
theorem dX13_readsWitness_132 : decode cX13_readsWitness 132 = .ok (.invokevirtual 434, 3) := by decide +kernel
theorem dX13_readsWitness_135 : decode cX13_readsWitness 135 = .ok (.aload_n 0, 1) := by decide +kernel
theorem dX13_readsWitness_136 : decode cX13_readsWitness 136 = .ok (.iconst 2, 1) := by decide +kernel
theorem dX13_readsWitness_137 : decode cX13_readsWitness 137 = .ok (.iload_n 1, 1) := by decide +kernel
theorem dX13_readsWitness_138 : decode cX13_readsWitness 138 = .ok (.iconst 1, 1) := by decide +kernel
theorem dX13_readsWitness_139 : decode cX13_readsWitness 139 = .ok (.iadd, 1) := by decide +kernel
theorem dX13_readsWitness_140 : decode cX13_readsWitness 140 = .ok (.invokevirtual 434, 3) := by decide +kernel
theorem dX13_readsWitness_143 : decode cX13_readsWitness 143 = .ok (.return_, 1) := by decide +kernel
theorem hd_X13_readsWitness : yX13_readsWitness.cls = RX13 ∧ yX13_readsWitness.cls ≠ "java/lang/invoke/MethodHandle" ∧ yX13_readsWitness.cls ≠ "java/lang/invoke/VarHandle" ∧ (parseMethodDescriptor yX13_readsWitness.desc).map (fun d => d.parameters.length) = some 0 := by decide +kernel
theorem hs_X13_readsWitness : yX13_readsWitness.cls ≠ "java/lang/invoke/MethodHandle" ∧ yX13_readsWitness.cls ≠ "java/lang/invoke/VarHandle" ∧ (parseMethodDescriptor yX13_readsWitness.desc).map (fun d => d.parameters.length) = some 0 := by decide +kernel
set_option maxHeartbeats 4000000 in
set_option maxRecDepth 100000 in
theorem k_X13_readsWitness (l : Launch) (E : Ev) (K : Kd) (z : Nat) (o : Nat) (w : Wd) (ho : K o = some (11, 0)) {w' : Wd} (hf : f_X13_readsWitness K o w = some w') : Met l yX13_readsWitness (Cond.code yX13_readsWitness cX13_readsWitness 5 (Option.none : Option Jvm.ClassFile.FieldType) :: bt) ({ frames := 9, cells := 0, slots := 0, locals := 195 } : Room) (va_Pc [rv E (some o)] (HB E K w z)) (QV E K z w') 0 0 (hA E) := by
  refine Met.ofW (cc := cX13_readsWitness) (maxL := 5) (ret := (Option.none : Option Jvm.ClassFile.FieldType)) (by decide) rfl ?_
  intro p e s m args below meth c s₁ B hml hv
  obtain ⟨rfl, hz, hP, hKs, hT, hb0⟩ := hv
  have C : CX p l e s m _ meth c cX13_readsWitness 5 RX13 (Option.none : Option Jvm.ClassFile.FieldType) E := ⟨B.exec, B.bytes, hml, findClass_of_methodNamed B.named, fun w h => atoms_spec (ws := Cond.code yX13_readsWitness cX13_readsWitness 5 (Option.none : Option Jvm.ClassFile.FieldType) :: bt) B.pre w (List.mem_cons_of_mem _ h), hKs, hT, by rw [hz]; exact hb0, B.notSynchronized, B.returns⟩
  have hH : HQ E K z w s s.heap [] := ⟨hP, va_S.rf, hz⟩
  obtain ⟨hx, hb, hml, hown, hts, hKs, hT, hb0, hlocks, hret⟩ := id C
  have hl := lv_entry [rv E (some o)] (n := 5) (by simp [lg_len_nil, lg_len_i, lg_len_j, lg_len_q, lg_len_f, lg_len_d, lg_len_r])
  rw [lg_entry_eq]
  generalize (lg_sl [rv E (some o)] ++ List.replicate (5 - (lg_sl [rv E (some o)]).length) Slot.unset).toArray = ls at hl ⊢
  replace hl : lv_has ls 5 [(0, rv E (some o))] := by simpa only [lv_args, cat_q, cat_i, cat_j, reduceIte, Nat.reduceEqDiff, Nat.reduceAdd, Nat.zero_add] using hl
  generalize s.heap = H at hH ⊢
  unfold f_X13_readsWitness at hf
  refine hl_aload_n hx hb dX13_readsWitness_0 rfl (lv_at hl 0 rfl) ?_
  refine g13_2 hx hb hts hown hKs hH rfl ho m6_184 dX13_readsWitness_1 ?_
  refine lv_iconst (v := 2) hx hb dX13_readsWitness_4 (by decide) ?_
  obtain ⟨a1, ha1, hf⟩ := bnd hf
  replace ha1 := cha_some ha1
  obtain ⟨j2, hj2, hf⟩ := bnd hf
  refine hw_iald hx hb hKs hH ha1.1 ha1.2 hj2 dX13_readsWitness_5 ?_
  refine lv_istore_n (lv' := [(1, .int ((aI w a1.1 j2))), (0, rv E (some o))]) hx hb dX13_readsWitness_6 rfl hl (by decide) rfl (fun ls hl => ?_)
  refine hl_aload_n hx hb dX13_readsWitness_7 rfl (lv_at hl 1 rfl) ?_
  refine lv_iload_n hx hb dX13_readsWitness_8 rfl (lv_at hl 0 rfl) ?_
  refine lv_bipush (v := 12) hx hb dX13_readsWitness_9 (by decide) ?_
  obtain ⟨q3, hq3, hf⟩ := bnd hf
  refine hcV_i hx hb hml hown hts hKs hT hb0 hH (As := [.int ((aI w a1.1 j2)), .int 12]) (rest := []) (k_X13_begins l E K H.size o (aI w a1.1 j2) 12 w ho hq3) (gV m9_63 m9_65 ms_109 m1_16 m9_66) hd_X13_begins ⟨Nat.le_of_ble_eq_true rfl, Nat.le_of_ble_eq_true rfl, rfl, rfl⟩ rfl ho rfl rfl rfl hl.1 rfl rc0 rfl dX13_readsWitness_11 ⟨Nat.zero_le _, Nat.zero_le _⟩ (fun H locs hH => ?_)
  refine lv_if_ne (tgt := 18) hx hb dX13_readsWitness_14 (by decide) (fun c4 => ?_) (fun c4 => ?_)
  · replace hf := (if_neg c4).symm.trans hf
    refine hl_aload_n hx hb dX13_readsWitness_18 rfl (lv_at hl 1 rfl) ?_
    refine hl_aload_n hx hb dX13_readsWitness_19 rfl (lv_at hl 1 rfl) ?_
    refine g13_35 hx hb hts hown hKs hH rfl ho m6_217 dX13_readsWitness_20 ?_
    refine lv_iload_n hx hb dX13_readsWitness_23 rfl (lv_at hl 0 rfl) ?_
    obtain ⟨q5, hq5, hf⟩ := bnd hf
    refine hcV_v hx hb hml hown hts hKs hT hb0 hH (As := [rv E (wR q3.2 1335 o), .int ((aI w a1.1 j2))]) (rest := []) (k_X13_newName l E K H.size o (wR q3.2 1335 o) (aI w a1.1 j2) q3.2 ho hq5) (gV m9_83 m9_85 ms_114 m1_16 m9_86) hd_X13_newName ⟨Nat.le_of_ble_eq_true rfl, Nat.le_of_ble_eq_true rfl, rfl, rfl⟩ rfl ho rfl rfl rfl hl.1 rfl rc0 rfl dX13_readsWitness_24 ⟨Nat.zero_le _, Nat.zero_le _⟩ (fun H locs hH => ?_)
    refine hl_aload_n hx hb dX13_readsWitness_27 rfl (lv_at hl 1 rfl) ?_
    refine lv_bipush (v := 6) hx hb dX13_readsWitness_28 (by decide) ?_
    refine lv_iconst (v := 0) hx hb dX13_readsWitness_30 (by decide) ?_
    refine lv_sipush (v := 599) hx hb dX13_readsWitness_31 (by decide) ?_
    obtain ⟨q6, hq6, hf⟩ := bnd hf
    refine hcV_i hx hb hml hown hts hKs hT hb0 hH (As := [.int 6, .int 0, .int 599]) (rest := []) (k_X13_numberBehind l E K H.size o 6 0 599 q5 ho hq6) (gV m9_100 m9_102 ms_117 m1_16 m9_103) hd_X13_numberBehind ⟨Nat.le_of_ble_eq_true rfl, Nat.le_of_ble_eq_true rfl, rfl, rfl⟩ rfl ho rfl rfl rfl hl.1 rfl rc0 rfl dX13_readsWitness_34 ⟨Nat.zero_le _, Nat.zero_le _⟩ (fun H locs hH => ?_)
    refine lv_istore_n (lv' := [(2, .int (q6.1)), (1, .int ((aI w a1.1 j2))), (0, rv E (some o))]) hx hb dX13_readsWitness_37 rfl hl (by decide) rfl (fun ls hl => ?_)
    refine hl_aload_n hx hb dX13_readsWitness_38 rfl (lv_at hl 2 rfl) ?_
    refine lv_bipush (v := 52) hx hb dX13_readsWitness_39 (by decide) ?_
    refine lv_iload_n hx hb dX13_readsWitness_41 rfl (lv_at hl 1 rfl) ?_
    refine lv_iadd hx hb dX13_readsWitness_42 ?_
    refine lv_iload_n hx hb dX13_readsWitness_43 rfl (lv_at hl 0 rfl) ?_
    obtain ⟨q7, hq7, hf⟩ := bnd hf
    refine hcV_v hx hb hml hown hts hKs hT hb0 hH (As := [.int ((52 + (aI w a1.1 j2))), .int (q6.1)]) (rest := []) (k_X13_laysDraft l E K H.size o (52 + (aI w a1.1 j2)) q6.1 q6.2 ho hq7) (gV m9_116 m9_118 ms_121 m1_16 m9_119) hd_X13_laysDraft ⟨Nat.le_of_ble_eq_true rfl, Nat.le_of_ble_eq_true rfl, rfl, rfl⟩ rfl ho rfl rfl rfl hl.1 rfl rc0 rfl dX13_readsWitness_44 ⟨Nat.zero_le _, Nat.zero_le _⟩ (fun H locs hH => ?_)
    refine hl_aload_n hx hb dX13_readsWitness_47 rfl (lv_at hl 2 rfl) ?_
    refine lv_iload_n hx hb dX13_readsWitness_48 rfl (lv_at hl 0 rfl) ?_
    refine lv_sipush (v := 599) hx hb dX13_readsWitness_49 (by decide) ?_
    obtain ⟨q8, hq8, hf⟩ := bnd hf
    refine hcV_i hx hb hml hown hts hKs hT hb0 hH (As := [.int (q6.1), .int 599]) (rest := []) (k_X13_number l E K H.size o q6.1 599 q7 ho hq8) (gV m9_112 m9_114 ms_120 m1_16 m9_115) hd_X13_number ⟨Nat.le_of_ble_eq_true rfl, Nat.le_of_ble_eq_true rfl, rfl, rfl⟩ rfl ho rfl rfl rfl hl.1 rfl rc0 rfl dX13_readsWitness_52 ⟨Nat.zero_le _, Nat.zero_le _⟩ (fun H locs hH => ?_)
    refine lv_istore_n (lv' := [(3, .int (q8.1)), (2, .int (q6.1)), (1, .int ((aI w a1.1 j2))), (0, rv E (some o))]) hx hb dX13_readsWitness_55 rfl hl (by decide) rfl (fun ls hl => ?_)
    refine hl_aload_n hx hb dX13_readsWitness_56 rfl (lv_at hl 3 rfl) ?_
    obtain ⟨q9, hq9, hf⟩ := bnd hf
    refine hcV_i hx hb hml hown hts hKs hT hb0 hH (As := []) (rest := []) (k_X13_fine l E K H.size o q8.2 ho hq9) (gV m9_47 m9_49 ms_105 m1_16 m9_50) hd_X13_fine ⟨Nat.le_of_ble_eq_true rfl, Nat.le_of_ble_eq_true rfl, rfl, rfl⟩ rfl ho rfl rfl rfl hl.1 rfl rc0 rfl dX13_readsWitness_57 ⟨Nat.zero_le _, Nat.zero_le _⟩ (fun H locs hH => ?_)
    refine lv_if_eq (tgt := 73) hx hb dX13_readsWitness_60 (by decide) (fun c10 => ?_) (fun c10 => ?_)
    · replace hf := (if_pos c10).symm.trans hf
      refine hl_aload_n hx hb dX13_readsWitness_73 rfl (lv_at hl 3 rfl) ?_
      refine lv_bipush (v := 64) hx hb dX13_readsWitness_74 (by decide) ?_
      refine lv_iload_n hx hb dX13_readsWitness_76 rfl (lv_at hl 2 rfl) ?_
      refine lv_iadd hx hb dX13_readsWitness_77 ?_
      refine lv_iconst (v := 0) hx hb dX13_readsWitness_78 (by decide) ?_
      obtain ⟨q11, hq11, hf⟩ := bnd hf
      refine hcV_v hx hb hml hown hts hKs hT hb0 hH (As := [.int ((64 + (aI w a1.1 j2))), .int 0]) (rest := []) (k_X13_laysDraft l E K H.size o (64 + (aI w a1.1 j2)) 0 q9.2 ho hq11) (gV m9_116 m9_118 ms_121 m1_16 m9_119) hd_X13_laysDraft ⟨Nat.le_of_ble_eq_true rfl, Nat.le_of_ble_eq_true rfl, rfl, rfl⟩ rfl ho rfl rfl rfl hl.1 rfl rc0 rfl dX13_readsWitness_79 ⟨Nat.zero_le _, Nat.zero_le _⟩ (fun H locs hH => ?_)
      refine hl_aload_n hx hb dX13_readsWitness_82 rfl (lv_at hl 3 rfl) ?_
      refine lv_bipush (v := 76) hx hb dX13_readsWitness_83 (by decide) ?_
      refine lv_iload_n hx hb dX13_readsWitness_85 rfl (lv_at hl 2 rfl) ?_
      refine lv_iadd hx hb dX13_readsWitness_86 ?_
      refine lv_bipush (v := 7) hx hb dX13_readsWitness_87 (by decide) ?_
      obtain ⟨q12, hq12, hf⟩ := bnd hf
      refine hcV_v hx hb hml hown hts hKs hT hb0 hH (As := [.int ((76 + (aI w a1.1 j2))), .int 7]) (rest := []) (k_X13_laysDraft l E K H.size o (76 + (aI w a1.1 j2)) 7 q11 ho hq12) (gV m9_116 m9_118 ms_121 m1_16 m9_119) hd_X13_laysDraft ⟨Nat.le_of_ble_eq_true rfl, Nat.le_of_ble_eq_true rfl, rfl, rfl⟩ rfl ho rfl rfl rfl hl.1 rfl rc0 rfl dX13_readsWitness_89 ⟨Nat.zero_le _, Nat.zero_le _⟩ (fun H locs hH => ?_)
      refine hl_aload_n hx hb dX13_readsWitness_92 rfl (lv_at hl 3 rfl) ?_
      refine lv_iconst (v := 2) hx hb dX13_readsWitness_93 (by decide) ?_
      obtain ⟨q13, hq13, hf⟩ := bnd hf
      refine hcV_i hx hb hml hown hts hKs hT hb0 hH (As := [.int 2]) (rest := []) (k_X13_takes l E K H.size o 2 q12 ho hq13) (gV m9_108 m9_110 ms_119 m1_16 m9_111) hd_X13_takes ⟨Nat.le_of_ble_eq_true rfl, Nat.le_of_ble_eq_true rfl, rfl, rfl⟩ rfl ho rfl rfl rfl hl.1 rfl rc0 rfl dX13_readsWitness_94 ⟨Nat.zero_le _, Nat.zero_le _⟩ (fun H locs hH => ?_)
      refine lv_if_eq (tgt := 135) hx hb dX13_readsWitness_97 (by decide) (fun c14 => ?_) (fun c14 => ?_)
      · replace hf := (if_pos c14).symm.trans hf
        refine hl_aload_n hx hb dX13_readsWitness_135 rfl (lv_at hl 3 rfl) ?_
        refine lv_iconst (v := 2) hx hb dX13_readsWitness_136 (by decide) ?_
        refine lv_iload_n hx hb dX13_readsWitness_137 rfl (lv_at hl 2 rfl) ?_
        refine lv_iconst (v := 1) hx hb dX13_readsWitness_138 (by decide) ?_
        refine lv_iadd hx hb dX13_readsWitness_139 ?_
        obtain ⟨q15, hq15, hf⟩ := bnd hf
        refine hcV_v hx hb hml hown hts hKs hT hb0 hH (As := [.int 2, .int (((aI w a1.1 j2) + 1))]) (rest := []) (k_X13_laysDraft l E K H.size o 2 ((aI w a1.1 j2) + 1) q13.2 ho hq15) (gV m9_116 m9_118 ms_121 m1_16 m9_119) hd_X13_laysDraft ⟨Nat.le_of_ble_eq_true rfl, Nat.le_of_ble_eq_true rfl, rfl, rfl⟩ rfl ho rfl rfl rfl hl.1 rfl rc0 rfl dX13_readsWitness_140 ⟨Nat.zero_le _, Nat.zero_le _⟩ (fun H locs hH => ?_)
        exact hw_vret hx hb hret hf hH hlocks dX13_readsWitness_143
      · replace hf := (if_neg c14).symm.trans hf
        refine hl_aload_n hx hb dX13_readsWitness_100 rfl (lv_at hl 3 rfl) ?_
        refine lv_iconst (v := 0) hx hb dX13_readsWitness_101 (by decide) ?_
        refine lv_bipush (v := 7) hx hb dX13_readsWitness_102 (by decide) ?_
        obtain ⟨q16, hq16, hf⟩ := bnd hf
        refine hcV_i hx hb hml hown hts hKs hT hb0 hH (As := [.int 0, .int 7]) (rest := []) (k_X13_number l E K H.size o 0 7 q13.2 ho hq16) (gV m9_112 m9_114 ms_120 m1_16 m9_115) hd_X13_number ⟨Nat.le_of_ble_eq_true rfl, Nat.le_of_ble_eq_true rfl, rfl, rfl⟩ rfl ho rfl rfl rfl hl.1 rfl rc0 rfl dX13_readsWitness_104 ⟨Nat.zero_le _, Nat.zero_le _⟩ (fun H locs hH => ?_)
        refine lv_istore (lv' := [(4, .int (q16.1)), (3, .int (q8.1)), (2, .int (q6.1)), (1, .int ((aI w a1.1 j2))), (0, rv E (some o))]) hx hb dX13_readsWitness_107 hl (by decide) rfl (fun ls hl => ?_)
        refine hl_aload_n hx hb dX13_readsWitness_109 rfl (lv_at hl 4 rfl) ?_
        refine lv_bipush (v := 64) hx hb dX13_readsWitness_110 (by decide) ?_
        refine lv_iload_n hx hb dX13_readsWitness_112 rfl (lv_at hl 3 rfl) ?_
        refine lv_iadd hx hb dX13_readsWitness_113 ?_
        refine lv_iload hx hb dX13_readsWitness_114 (lv_at hl 0 rfl) ?_
        obtain ⟨q17, hq17, hf⟩ := bnd hf
        refine hcV_v hx hb hml hown hts hKs hT hb0 hH (As := [.int ((64 + (aI w a1.1 j2))), .int (q16.1)]) (rest := []) (k_X13_laysDraft l E K H.size o (64 + (aI w a1.1 j2)) q16.1 q16.2 ho hq17) (gV m9_116 m9_118 ms_121 m1_16 m9_119) hd_X13_laysDraft ⟨Nat.le_of_ble_eq_true rfl, Nat.le_of_ble_eq_true rfl, rfl, rfl⟩ rfl ho rfl rfl rfl hl.1 rfl rc0 rfl dX13_readsWitness_116 ⟨Nat.zero_le _, Nat.zero_le _⟩ (fun H locs hH => ?_)
        refine hl_aload_n hx hb dX13_readsWitness_119 rfl (lv_at hl 4 rfl) ?_
        refine lv_bipush (v := 76) hx hb dX13_readsWitness_120 (by decide) ?_
        refine lv_iload_n hx hb dX13_readsWitness_122 rfl (lv_at hl 3 rfl) ?_
        refine lv_iadd hx hb dX13_readsWitness_123 ?_
        refine hl_aload_n hx hb dX13_readsWitness_124 rfl (lv_at hl 4 rfl) ?_
        refine lv_iload hx hb dX13_readsWitness_125 (lv_at hl 0 rfl) ?_
        refine lv_bipush (v := 7) hx hb dX13_readsWitness_127 (by decide) ?_
        obtain ⟨q18, hq18, hf⟩ := bnd hf
        refine hcV_i hx hb hml hown hts hKs hT hb0 hH (As := [.int (q16.1), .int 7]) (rest := [.int ((76 + (aI w a1.1 j2))), rv E (some o)]) (k_X13_number l E K H.size o q16.1 7 q17 ho hq18) (gV m9_112 m9_114 ms_120 m1_16 m9_115) hd_X13_number ⟨Nat.le_of_ble_eq_true rfl, Nat.le_of_ble_eq_true rfl, rfl, rfl⟩ rfl ho rfl rfl rfl hl.1 rfl (rcI (rcV rc0)) rfl dX13_readsWitness_129 ⟨Nat.zero_le _, Nat.zero_le _⟩ (fun H locs hH => ?_)
        obtain ⟨q19, hq19, hf⟩ := bnd hf
        refine hcV_v hx hb hml hown hts hKs hT hb0 hH (As := [.int ((76 + (aI w a1.1 j2))), .int (q18.1)]) (rest := []) (k_X13_laysDraft l E K H.size o (76 + (aI w a1.1 j2)) q18.1 q18.2 ho hq19) (gV m9_116 m9_118 ms_121 m1_16 m9_119) hd_X13_laysDraft ⟨Nat.le_of_ble_eq_true rfl, Nat.le_of_ble_eq_true rfl, rfl, rfl⟩ rfl ho rfl rfl rfl hl.1 rfl rc0 rfl dX13_readsWitness_132 ⟨Nat.zero_le _, Nat.zero_le _⟩ (fun H locs hH => ?_)
        refine hl_aload_n hx hb dX13_readsWitness_135 rfl (lv_at hl 4 rfl) ?_
        refine lv_iconst (v := 2) hx hb dX13_readsWitness_136 (by decide) ?_
        refine lv_iload_n hx hb dX13_readsWitness_137 rfl (lv_at hl 3 rfl) ?_
        refine lv_iconst (v := 1) hx hb dX13_readsWitness_138 (by decide) ?_
        refine lv_iadd hx hb dX13_readsWitness_139 ?_
        obtain ⟨q20, hq20, hf⟩ := bnd hf
        refine hcV_v hx hb hml hown hts hKs hT hb0 hH (As := [.int 2, .int (((aI w a1.1 j2) + 1))]) (rest := []) (k_X13_laysDraft l E K H.size o 2 ((aI w a1.1 j2) + 1) q19 ho hq20) (gV m9_116 m9_118 ms_121 m1_16 m9_119) hd_X13_laysDraft ⟨Nat.le_of_ble_eq_true rfl, Nat.le_of_ble_eq_true rfl, rfl, rfl⟩ rfl ho rfl rfl rfl hl.1 rfl rc0 rfl dX13_readsWitness_140 ⟨Nat.zero_le _, Nat.zero_le _⟩ (fun H locs hH => ?_)
        exact hw_vret hx hb hret hf hH hlocks dX13_readsWitness_143
    · replace hf := (if_neg c10).symm.trans hf
      refine hl_aload_n hx hb dX13_readsWitness_63 rfl (lv_at hl 3 rfl) ?_
      refine g13_4 hx hb hts hown hKs hH rfl ho m6_186 dX13_readsWitness_64 ?_
      refine lv_bipush (v := 22) hx hb dX13_readsWitness_67 (by decide) ?_
      refine lv_iload_n hx hb dX13_readsWitness_69 rfl (lv_at hl 2 rfl) ?_
      refine lv_iadd hx hb dX13_readsWitness_70 ?_
      refine lv_iload_n hx hb dX13_readsWitness_71 rfl (lv_at hl 0 rfl) ?_
      obtain ⟨a21, ha21, hf⟩ := bnd hf
      replace ha21 := cha_some ha21
      obtain ⟨j22, hj22, hf⟩ := bnd hf
      obtain ⟨w23, hw23, hf⟩ := bnd hf
      replace hw23 := Option.some.inj hw23
      refine hw_iast (x := q8.1) hx hb hKs hH ha21.1 ha21.2 hj22 dX13_readsWitness_72 (fun H locs hH => ?_)
      rw [hw23] at hH
      refine hl_aload_n hx hb dX13_readsWitness_73 rfl (lv_at hl 3 rfl) ?_
      refine lv_bipush (v := 64) hx hb dX13_readsWitness_74 (by decide) ?_
      refine lv_iload_n hx hb dX13_readsWitness_76 rfl (lv_at hl 2 rfl) ?_
      refine lv_iadd hx hb dX13_readsWitness_77 ?_
      refine lv_iconst (v := 0) hx hb dX13_readsWitness_78 (by decide) ?_
      obtain ⟨q24, hq24, hf⟩ := bnd hf
      refine hcV_v hx hb hml hown hts hKs hT hb0 hH (As := [.int ((64 + (aI w a1.1 j2))), .int 0]) (rest := []) (k_X13_laysDraft l E K H.size o (64 + (aI w a1.1 j2)) 0 w23 ho hq24) (gV m9_116 m9_118 ms_121 m1_16 m9_119) hd_X13_laysDraft ⟨Nat.le_of_ble_eq_true rfl, Nat.le_of_ble_eq_true rfl, rfl, rfl⟩ rfl ho rfl rfl rfl hl.1 rfl rc0 rfl dX13_readsWitness_79 ⟨Nat.zero_le _, Nat.zero_le _⟩ (fun H locs hH => ?_)
      refine hl_aload_n hx hb dX13_readsWitness_82 rfl (lv_at hl 3 rfl) ?_
      refine lv_bipush (v := 76) hx hb dX13_readsWitness_83 (by decide) ?_
      refine lv_iload_n hx hb dX13_readsWitness_85 rfl (lv_at hl 2 rfl) ?_
      refine lv_iadd hx hb dX13_readsWitness_86 ?_
      refine lv_bipush (v := 7) hx hb dX13_readsWitness_87 (by decide) ?_
      obtain ⟨q25, hq25, hf⟩ := bnd hf
      refine hcV_v hx hb hml hown hts hKs hT hb0 hH (As := [.int ((76 + (aI w a1.1 j2))), .int 7]) (rest := []) (k_X13_laysDraft l E K H.size o (76 + (aI w a1.1 j2)) 7 q24 ho hq25) (gV m9_116 m9_118 ms_121 m1_16 m9_119) hd_X13_laysDraft ⟨Nat.le_of_ble_eq_true rfl, Nat.le_of_ble_eq_true rfl, rfl, rfl⟩ rfl ho rfl rfl rfl hl.1 rfl rc0 rfl dX13_readsWitness_89 ⟨Nat.zero_le _, Nat.zero_le _⟩ (fun H locs hH => ?_)
      refine hl_aload_n hx hb dX13_readsWitness_92 rfl (lv_at hl 3 rfl) ?_
      refine lv_iconst (v := 2) hx hb dX13_readsWitness_93 (by decide) ?_
      obtain ⟨q26, hq26, hf⟩ := bnd hf
      refine hcV_i hx hb hml hown hts hKs hT hb0 hH (As := [.int 2]) (rest := []) (k_X13_takes l E K H.size o 2 q25 ho hq26) (gV m9_108 m9_110 ms_119 m1_16 m9_111) hd_X13_takes ⟨Nat.le_of_ble_eq_true rfl, Nat.le_of_ble_eq_true rfl, rfl, rfl⟩ rfl ho rfl rfl rfl hl.1 rfl rc0 rfl dX13_readsWitness_94 ⟨Nat.zero_le _, Nat.zero_le _⟩ (fun H locs hH => ?_)
      refine lv_if_eq (tgt := 135) hx hb dX13_readsWitness_97 (by decide) (fun c27 => ?_) (fun c27 => ?_)
      · replace hf := (if_pos c27).symm.trans hf
        refine hl_aload_n hx hb dX13_readsWitness_135 rfl (lv_at hl 3 rfl) ?_
        refine lv_iconst (v := 2) hx hb dX13_readsWitness_136 (by decide) ?_
        refine lv_iload_n hx hb dX13_readsWitness_137 rfl (lv_at hl 2 rfl) ?_
        refine lv_iconst (v := 1) hx hb dX13_readsWitness_138 (by decide) ?_
        refine lv_iadd hx hb dX13_readsWitness_139 ?_
        obtain ⟨q28, hq28, hf⟩ := bnd hf
        refine hcV_v hx hb hml hown hts hKs hT hb0 hH (As := [.int 2, .int (((aI w a1.1 j2) + 1))]) (rest := []) (k_X13_laysDraft l E K H.size o 2 ((aI w a1.1 j2) + 1) q26.2 ho hq28) (gV m9_116 m9_118 ms_121 m1_16 m9_119) hd_X13_laysDraft ⟨Nat.le_of_ble_eq_true rfl, Nat.le_of_ble_eq_true rfl, rfl, rfl⟩ rfl ho rfl rfl rfl hl.1 rfl rc0 rfl dX13_readsWitness_140 ⟨Nat.zero_le _, Nat.zero_le _⟩ (fun H locs hH => ?_)
        exact hw_vret hx hb hret hf hH hlocks dX13_readsWitness_143
      · replace hf := (if_neg c27).symm.trans hf
        refine hl_aload_n hx hb dX13_readsWitness_100 rfl (lv_at hl 3 rfl) ?_
        refine lv_iconst (v := 0) hx hb dX13_readsWitness_101 (by decide) ?_
        refine lv_bipush (v := 7) hx hb dX13_readsWitness_102 (by decide) ?_
        obtain ⟨q29, hq29, hf⟩ := bnd hf
        refine hcV_i hx hb hml hown hts hKs hT hb0 hH (As := [.int 0, .int 7]) (rest := []) (k_X13_number l E K H.size o 0 7 q26.2 ho hq29) (gV m9_112 m9_114 ms_120 m1_16 m9_115) hd_X13_number ⟨Nat.le_of_ble_eq_true rfl, Nat.le_of_ble_eq_true rfl, rfl, rfl⟩ rfl ho rfl rfl rfl hl.1 rfl rc0 rfl dX13_readsWitness_104 ⟨Nat.zero_le _, Nat.zero_le _⟩ (fun H locs hH => ?_)
        refine lv_istore (lv' := [(4, .int (q29.1)), (3, .int (q8.1)), (2, .int (q6.1)), (1, .int ((aI w a1.1 j2))), (0, rv E (some o))]) hx hb dX13_readsWitness_107 hl (by decide) rfl (fun ls hl => ?_)
        refine hl_aload_n hx hb dX13_readsWitness_109 rfl (lv_at hl 4 rfl) ?_
        refine lv_bipush (v := 64) hx hb dX13_readsWitness_110 (by decide) ?_
        refine lv_iload_n hx hb dX13_readsWitness_112 rfl (lv_at hl 3 rfl) ?_
        refine lv_iadd hx hb dX13_readsWitness_113 ?_
        refine lv_iload hx hb dX13_readsWitness_114 (lv_at hl 0 rfl) ?_
        obtain ⟨q30, hq30, hf⟩ := bnd hf
        refine hcV_v hx hb hml hown hts hKs hT hb0 hH (As := [.int ((64 + (aI w a1.1 j2))), .int (q29.1)]) (rest := []) (k_X13_laysDraft l E K H.size o (64 + (aI w a1.1 j2)) q29.1 q29.2 ho hq30) (gV m9_116 m9_118 ms_121 m1_16 m9_119) hd_X13_laysDraft ⟨Nat.le_of_ble_eq_true rfl, Nat.le_of_ble_eq_true rfl, rfl, rfl⟩ rfl ho rfl rfl rfl hl.1 rfl rc0 rfl dX13_readsWitness_116 ⟨Nat.zero_le _, Nat.zero_le _⟩ (fun H locs hH => ?_)
        refine hl_aload_n hx hb dX13_readsWitness_119 rfl (lv_at hl 4 rfl) ?_
        refine lv_bipush (v := 76) hx hb dX13_readsWitness_120 (by decide) ?_
        refine lv_iload_n hx hb dX13_readsWitness_122 rfl (lv_at hl 3 rfl) ?_
        refine lv_iadd hx hb dX13_readsWitness_123 ?_
        refine hl_aload_n hx hb dX13_readsWitness_124 rfl (lv_at hl 4 rfl) ?_
        refine lv_iload hx hb dX13_readsWitness_125 (lv_at hl 0 rfl) ?_
        refine lv_bipush (v := 7) hx hb dX13_readsWitness_127 (by decide) ?_
        obtain ⟨q31, hq31, hf⟩ := bnd hf
        refine hcV_i hx hb hml hown hts hKs hT hb0 hH (As := [.int (q29.1), .int 7]) (rest := [.int ((76 + (aI w a1.1 j2))), rv E (some o)]) (k_X13_number l E K H.size o q29.1 7 q30 ho hq31) (gV m9_112 m9_114 ms_120 m1_16 m9_115) hd_X13_number ⟨Nat.le_of_ble_eq_true rfl, Nat.le_of_ble_eq_true rfl, rfl, rfl⟩ rfl ho rfl rfl rfl hl.1 rfl (rcI (rcV rc0)) rfl dX13_readsWitness_129 ⟨Nat.zero_le _, Nat.zero_le _⟩ (fun H locs hH => ?_)
        obtain ⟨q32, hq32, hf⟩ := bnd hf
        refine hcV_v hx hb hml hown hts hKs hT hb0 hH (As := [.int ((76 + (aI w a1.1 j2))), .int (q31.1)]) (rest := []) (k_X13_laysDraft l E K H.size o (76 + (aI w a1.1 j2)) q31.1 q31.2 ho hq32) (gV m9_116 m9_118 ms_121 m1_16 m9_119) hd_X13_laysDraft ⟨Nat.le_of_ble_eq_true rfl, Nat.le_of_ble_eq_true rfl, rfl, rfl⟩ rfl ho rfl rfl rfl hl.1 rfl rc0 rfl dX13_readsWitness_132 ⟨Nat.zero_le _, Nat.zero_le _⟩ (fun H locs hH => ?_)
        refine hl_aload_n hx hb dX13_readsWitness_135 rfl (lv_at hl 4 rfl) ?_
        refine lv_iconst (v := 2) hx hb dX13_readsWitness_136 (by decide) ?_
        refine lv_iload_n hx hb dX13_readsWitness_137 rfl (lv_at hl 3 rfl) ?_
        refine lv_iconst (v := 1) hx hb dX13_readsWitness_138 (by decide) ?_
        refine lv_iadd hx hb dX13_readsWitness_139 ?_
        obtain ⟨q33, hq33, hf⟩ := bnd hf
        refine hcV_v hx hb hml hown hts hKs hT hb0 hH (As := [.int 2, .int (((aI w a1.1 j2) + 1))]) (rest := []) (k_X13_laysDraft l E K H.size o 2 ((aI w a1.1 j2) + 1) q32 ho hq33) (gV m9_116 m9_118 ms_121 m1_16 m9_119) hd_X13_laysDraft ⟨Nat.le_of_ble_eq_true rfl, Nat.le_of_ble_eq_true rfl, rfl, rfl⟩ rfl ho rfl rfl rfl hl.1 rfl rc0 rfl dX13_readsWitness_140 ⟨Nat.zero_le _, Nat.zero_le _⟩ (fun H locs hH => ?_)
        exact hw_vret hx hb hret hf hH hlocks dX13_readsWitness_143
  · replace hf := (if_pos c4).symm.trans hf
    exact hw_vret hx hb hret hf hH hlocks dX13_readsWitness_17

theorem dX13_readsNeeds_0 : decode cX13_readsNeeds 0 = .ok (.aload_n 0, 1) := by decide +kernel
theorem dX13_readsNeeds_1 : decode cX13_readsNeeds 1 = .ok (.aload_n 0, 1) := by decide +kernel
theorem dX13_readsNeeds_2 : decode cX13_readsNeeds 2 = .ok (.getfield 13, 3) := by decide +kernel
theorem dX13_readsNeeds_5 : decode cX13_readsNeeds 5 = .ok (.sipush 136, 3) := by decide +kernel
theorem dX13_readsNeeds_8 : decode cX13_readsNeeds 8 = .ok (.iload_n 1, 1) := by decide +kernel
theorem dX13_readsNeeds_9 : decode cX13_readsNeeds 9 = .ok (.iadd, 1) := by decide +kernel
theorem dX13_readsNeeds_10 : decode cX13_readsNeeds 10 = .ok (.iaload, 1) := by decide +kernel
theorem dX13_readsNeeds_11 : decode cX13_readsNeeds 11 = .ok (.invokestatic 159, 3) := by decide +kernel
theorem dX13_readsNeeds_14 : decode cX13_readsNeeds 14 = .ok (.iconst 4, 1) := by decide +kernel
theorem dX13_readsNeeds_15 : decode cX13_readsNeeds 15 = .ok (.invokevirtual 423, 3) := by decide +kernel
theorem dX13_readsNeeds_18 : decode cX13_readsNeeds 18 = .ok (.ifCond .ne 4, 3) := by decide +kernel
theorem dX13_readsNeeds_21 : decode cX13_readsNeeds 21 = .ok (.return_, 1) := by decide +kernel
theorem dX13_readsNeeds_22 : decode cX13_readsNeeds 22 = .ok (.aload_n 0, 1) := by decide +kernel
theorem dX13_readsNeeds_23 : decode cX13_readsNeeds 23 = .ok (.aload_n 0, 1) := by decide +kernel
theorem dX13_readsNeeds_24 : decode cX13_readsNeeds 24 = .ok (.getfield 74, 3) := by decide +kernel
theorem dX13_readsNeeds_27 : decode cX13_readsNeeds 27 = .ok (.aload_n 0, 1) := by decide +kernel
theorem dX13_readsNeeds_28 : decode cX13_readsNeeds 28 = .ok (.getfield 13, 3) := by decide +kernel
theorem dX13_readsNeeds_31 : decode cX13_readsNeeds 31 = .ok (.iconst 2, 1) := by decide +kernel
theorem dX13_readsNeeds_32 : decode cX13_readsNeeds 32 = .ok (.iaload, 1) := by decide +kernel
theorem dX13_readsNeeds_33 : decode cX13_readsNeeds 33 = .ok (.invokevirtual 437, 3) := by decide +kernel
theorem dX13_readsNeeds_36 : decode cX13_readsNeeds 36 = .ok (.istore_n 2, 1) := by decide +kernel
theorem dX13_readsNeeds_37 : decode cX13_readsNeeds 37 = .ok (.aload_n 0, 1) := by decide +kernel
theorem dX13_readsNeeds_38 : decode cX13_readsNeeds 38 = .ok (.invokevirtual 379, 3) := by decide +kernel
theorem dX13_readsNeeds_41 : decode cX13_readsNeeds 41 = .ok (.ifCond .eq 30, 3) := by decide +kernel
theorem dX13_readsNeeds_44 : decode cX13_readsNeeds 44 = .ok (.aload_n 0, 1) := by decide +kernel
theorem dX13_readsNeeds_45 : decode cX13_readsNeeds 45 = .ok (.aload_n 0, 1) := by decide +kernel
theorem dX13_readsNeeds_46 : decode cX13_readsNeeds 46 = .ok (.getfield 13, 3) := by decide +kernel
theorem dX13_readsNeeds_49 : decode cX13_readsNeeds 49 = .ok (.sipush 136, 3) := by decide +kernel
theorem dX13_readsNeeds_52 : decode cX13_readsNeeds 52 = .ok (.iload_n 1, 1) := by decide +kernel
theorem dX13_readsNeeds_53 : decode cX13_readsNeeds 53 = .ok (.iadd, 1) := by decide +kernel
theorem dX13_readsNeeds_54 : decode cX13_readsNeeds 54 = .ok (.iaload, 1) := by decide +kernel
theorem dX13_readsNeeds_55 : decode cX13_readsNeeds 55 = .ok (.iload_n 2, 1) := by decide +kernel
theorem dX13_readsNeeds_56 : decode cX13_readsNeeds 56 = .ok (.invokestatic 167, 3) := by decide +kernel
theorem dX13_readsNeeds_59 : decode cX13_readsNeeds 59 = .ok (.ifCond .ne 7, 3) := by decide +kernel
theorem dX13_readsNeeds_62 : decode cX13_readsNeeds 62 = .ok (.iconst 1, 1) := by decide +kernel
theorem dX13_readsNeeds_63 : decode cX13_readsNeeds 63 = .ok (.goto 4, 3) := by decide +kernel
theorem dX13_readsNeeds_66 : decode cX13_readsNeeds 66 = .ok (.iconst 0, 1) := by decide +kernel
theorem dX13_readsNeeds_67 : decode cX13_readsNeeds 67 = .ok (.iconst 3, 1) := by decide +kernel
theorem dX13_readsNeeds_68 : decode cX13_readsNeeds 68 = .ok (.invokevirtual 392, 3) := by decide +kernel
theorem dX13_readsNeeds_71 : decode cX13_readsNeeds 71 = .ok (.aload_n 0, 1) := by decide +kernel
theorem dX13_readsNeeds_72 : decode cX13_readsNeeds 72 = .ok (.invokevirtual 399, 3) := by decide +kernel
theorem dX13_readsNeeds_75 : decode cX13_readsNeeds 75 = .ok (.aload_n 0, 1) := by decide +kernel
theorem dX13_readsNeeds_76 : decode cX13_readsNeeds 76 = .ok (.invokevirtual 379, 3) := by decide +kernel
theorem dX13_readsNeeds_79 : decode cX13_readsNeeds 79 = .ok (.ifCond .eq 27, 3) := by decide +kernel
theorem dX13_readsNeeds_82 : decode cX13_readsNeeds 82 = .ok (.aload_n 0, 1) := by decide +kernel
theorem dX13_readsNeeds_83 : decode cX13_readsNeeds 83 = .ok (.getfield 13, 3) := by decide +kernel
theorem dX13_readsNeeds_86 : decode cX13_readsNeeds 86 = .ok (.sipush 136, 3) := by decide +kernel
theorem dX13_readsNeeds_89 : decode cX13_readsNeeds 89 = .ok (.iload_n 1, 1) := by decide +kernel
theorem dX13_readsNeeds_90 : decode cX13_readsNeeds 90 = .ok (.iadd, 1) := by decide +kernel
theorem dX13_readsNeeds_91 : decode cX13_readsNeeds 91 = .ok (.aload_n 0, 1) := by decide +kernel
theorem dX13_readsNeeds_92 : decode cX13_readsNeeds 92 = .ok (.getfield 13, 3) := by decide +kernel
theorem dX13_readsNeeds_95 : decode cX13_readsNeeds 95 = .ok (.sipush 136, 3) := by decide +kernel
theorem dX13_readsNeeds_98 : decode cX13_readsNeeds 98 = .ok (.iload_n 1, 1) := by decide +kernel
theorem dX13_readsNeeds_99 : decode cX13_readsNeeds 99 = .ok (.iadd, 1) := by decide +kernel
theorem dX13_readsNeeds_100 : decode cX13_readsNeeds 100 = .ok (.iaload, 1) := by decide +kernel
theorem dX13_readsNeeds_101 : decode cX13_readsNeeds 101 = .ok (.iconst 1, 1) := by decide +kernel
theorem dX13_readsNeeds_102 : decode cX13_readsNeeds 102 = .ok (.iload_n 2, 1) := by decide +kernel
theorem dX13_readsNeeds_103 : decode cX13_readsNeeds 103 = .ok (.ishl, 1) := by decide +kernel
theorem dX13_readsNeeds_104 : decode cX13_readsNeeds 104 = .ok (.ior, 1) := by decide +kernel
theorem dX13_readsNeeds_105 : decode cX13_readsNeeds 105 = .ok (.iastore, 1) := by decide +kernel
theorem dX13_readsNeeds_106 : decode cX13_readsNeeds 106 = .ok (.return_, 1) := by decide +kernel
theorem hd_X13_readsNeeds : yX13_readsNeeds.cls = RX13 ∧ yX13_readsNeeds.cls ≠ "java/lang/invoke/MethodHandle" ∧ yX13_readsNeeds.cls ≠ "java/lang/invoke/VarHandle" ∧ (parseMethodDescriptor yX13_readsNeeds.desc).map (fun d => d.parameters.length) = some 1 := by decide +kernel
theorem hs_X13_readsNeeds : yX13_readsNeeds.cls ≠ "java/lang/invoke/MethodHandle" ∧ yX13_readsNeeds.cls ≠ "java/lang/invoke/VarHandle" ∧ (parseMethodDescriptor yX13_readsNeeds.desc).map (fun d => d.parameters.length) = some 1 := by decide +kernel
set_option maxHeartbeats 4000000 in
set_option maxRecDepth 100000 in
theorem k_X13_readsNeeds (l : Launch) (E : Ev) (K : Kd) (z : Nat) (o : Nat) (a_1 : Int32) (w : Wd) (ho : K o = some (11, 0)) {w' : Wd} (hf : f_X13_readsNeeds K o a_1 w = some w') : Met l yX13_readsNeeds (Cond.code yX13_readsNeeds cX13_readsNeeds 3 (Option.none : Option Jvm.ClassFile.FieldType) :: bt) ({ frames := 8, cells := 0, slots := 0, locals := 171 } : Room) (va_Pc [rv E (some o), .int a_1] (HB E K w z)) (QV E K z w') 0 0 (hA E) := by
  refine Met.ofW (cc := cX13_readsNeeds) (maxL := 3) (ret := (Option.none : Option Jvm.ClassFile.FieldType)) (by decide) rfl ?_
  intro p e s m args below meth c s₁ B hml hv
  obtain ⟨rfl, hz, hP, hKs, hT, hb0⟩ := hv
  have C : CX p l e s m _ meth c cX13_readsNeeds 3 RX13 (Option.none : Option Jvm.ClassFile.FieldType) E := ⟨B.exec, B.bytes, hml, findClass_of_methodNamed B.named, fun w h => atoms_spec (ws := Cond.code yX13_readsNeeds cX13_readsNeeds 3 (Option.none : Option Jvm.ClassFile.FieldType) :: bt) B.pre w (List.mem_cons_of_mem _ h), hKs, hT, by rw [hz]; exact hb0, B.notSynchronized, B.returns⟩
  have hH : HQ E K z w s s.heap [] := ⟨hP, va_S.rf, hz⟩
  obtain ⟨hx, hb, hml, hown, hts, hKs, hT, hb0, hlocks, hret⟩ := id C
  have hl := lv_entry [rv E (some o), .int a_1] (n := 3) (by simp [lg_len_nil, lg_len_i, lg_len_j, lg_len_q, lg_len_f, lg_len_d, lg_len_r])
  rw [lg_entry_eq]
  generalize (lg_sl [rv E (some o), .int a_1] ++ List.replicate (3 - (lg_sl [rv E (some o), .int a_1]).length) Slot.unset).toArray = ls at hl ⊢
  replace hl : lv_has ls 3 [(0, rv E (some o)), (1, .int a_1)] := by simpa only [lv_args, cat_q, cat_i, cat_j, reduceIte, Nat.reduceEqDiff, Nat.reduceAdd, Nat.zero_add] using hl
  generalize s.heap = H at hH ⊢
  unfold f_X13_readsNeeds at hf
  refine hl_aload_n hx hb dX13_readsNeeds_0 rfl (lv_at hl 0 rfl) ?_
  refine hl_aload_n hx hb dX13_readsNeeds_1 rfl (lv_at hl 0 rfl) ?_
  refine g13_2 hx hb hts hown hKs hH rfl ho m6_184 dX13_readsNeeds_2 ?_
  refine lv_sipush (v := 136) hx hb dX13_readsNeeds_5 (by decide) ?_
  refine lv_iload_n hx hb dX13_readsNeeds_8 rfl (lv_at hl 1 rfl) ?_
  refine lv_iadd hx hb dX13_readsNeeds_9 ?_
  obtain ⟨a1, ha1, hf⟩ := bnd hf
  replace ha1 := cha_some ha1
  obtain ⟨j2, hj2, hf⟩ := bnd hf
  refine hw_iald hx hb hKs hH ha1.1 ha1.2 hj2 dX13_readsNeeds_10 ?_
  obtain ⟨q3, hq3, hf⟩ := bnd hf
  refine hcS_i hx hb hml hown hts hKs hT hb0 hH (As := [.int ((aI w a1.1 j2))]) (rest := [rv E (some o)]) (k_X13_bits l E K H.size (aI w a1.1 j2) w hq3) (gS m7_148 m7_149 m1_16 m7_150) hs_X13_bits ⟨Nat.le_of_ble_eq_true rfl, Nat.le_of_ble_eq_true rfl, rfl, rfl⟩ hl.1 rfl (rcV rc0) rfl dX13_readsNeeds_11 ⟨Nat.zero_le _, Nat.zero_le _⟩ (fun H locs hH => ?_)
  refine lv_iconst (v := 4) hx hb dX13_readsNeeds_14 (by decide) ?_
  obtain ⟨q4, hq4, hf⟩ := bnd hf
  refine hcV_i hx hb hml hown hts hKs hT hb0 hH (As := [.int (q3.1), .int 4]) (rest := []) (k_X13_begins l E K H.size o q3.1 4 q3.2 ho hq4) (gV m9_63 m9_65 ms_109 m1_16 m9_66) hd_X13_begins ⟨Nat.le_of_ble_eq_true rfl, Nat.le_of_ble_eq_true rfl, rfl, rfl⟩ rfl ho rfl rfl rfl hl.1 rfl rc0 rfl dX13_readsNeeds_15 ⟨Nat.zero_le _, Nat.zero_le _⟩ (fun H locs hH => ?_)
  refine lv_if_ne (tgt := 22) hx hb dX13_readsNeeds_18 (by decide) (fun c5 => ?_) (fun c5 => ?_)
  · replace hf := (if_neg c5).symm.trans hf
    refine hl_aload_n hx hb dX13_readsNeeds_22 rfl (lv_at hl 0 rfl) ?_
    refine hl_aload_n hx hb dX13_readsNeeds_23 rfl (lv_at hl 0 rfl) ?_
    refine g13_35 hx hb hts hown hKs hH rfl ho m6_217 dX13_readsNeeds_24 ?_
    refine hl_aload_n hx hb dX13_readsNeeds_27 rfl (lv_at hl 0 rfl) ?_
    refine g13_2 hx hb hts hown hKs hH rfl ho m6_184 dX13_readsNeeds_28 ?_
    refine lv_iconst (v := 2) hx hb dX13_readsNeeds_31 (by decide) ?_
    obtain ⟨a6, ha6, hf⟩ := bnd hf
    replace ha6 := cha_some ha6
    obtain ⟨j7, hj7, hf⟩ := bnd hf
    refine hw_iald hx hb hKs hH ha6.1 ha6.2 hj7 dX13_readsNeeds_32 ?_
    obtain ⟨q8, hq8, hf⟩ := bnd hf
    refine hcV_i hx hb hml hown hts hKs hT hb0 hH (As := [rv E (wR q4.2 1335 o), .int ((aI q4.2 a6.1 j7))]) (rest := []) (k_X13_known l E K H.size o (wR q4.2 1335 o) (aI q4.2 a6.1 j7) q4.2 ho hq8) (gV m9_136 m9_138 ms_126 m1_16 m9_139) hd_X13_known ⟨Nat.le_of_ble_eq_true rfl, Nat.le_of_ble_eq_true rfl, rfl, rfl⟩ rfl ho rfl rfl rfl hl.1 rfl rc0 rfl dX13_readsNeeds_33 ⟨Nat.zero_le _, Nat.zero_le _⟩ (fun H locs hH => ?_)
    refine lv_istore_n (lv' := [(2, .int (q8.1)), (0, rv E (some o)), (1, .int a_1)]) hx hb dX13_readsNeeds_36 rfl hl (by decide) rfl (fun ls hl => ?_)
    refine hl_aload_n hx hb dX13_readsNeeds_37 rfl (lv_at hl 1 rfl) ?_
    obtain ⟨q9, hq9, hf⟩ := bnd hf
    refine hcV_i hx hb hml hown hts hKs hT hb0 hH (As := []) (rest := []) (k_X13_fine l E K H.size o q8.2 ho hq9) (gV m9_47 m9_49 ms_105 m1_16 m9_50) hd_X13_fine ⟨Nat.le_of_ble_eq_true rfl, Nat.le_of_ble_eq_true rfl, rfl, rfl⟩ rfl ho rfl rfl rfl hl.1 rfl rc0 rfl dX13_readsNeeds_38 ⟨Nat.zero_le _, Nat.zero_le _⟩ (fun H locs hH => ?_)
    refine lv_if_eq (tgt := 71) hx hb dX13_readsNeeds_41 (by decide) (fun c10 => ?_) (fun c10 => ?_)
    · replace hf := (if_pos c10).symm.trans hf
      refine hl_aload_n hx hb dX13_readsNeeds_71 rfl (lv_at hl 1 rfl) ?_
      obtain ⟨q11, hq11, hf⟩ := bnd hf
      refine hcV_v hx hb hml hown hts hKs hT hb0 hH (As := []) (rest := []) (k_X13_goOn l E K H.size o q9.2 ho hq11) (gV m9_71 m9_73 ms_111 m1_16 m9_74) hd_X13_goOn ⟨Nat.le_of_ble_eq_true rfl, Nat.le_of_ble_eq_true rfl, rfl, rfl⟩ rfl ho rfl rfl rfl hl.1 rfl rc0 rfl dX13_readsNeeds_72 ⟨Nat.zero_le _, Nat.zero_le _⟩ (fun H locs hH => ?_)
      refine hl_aload_n hx hb dX13_readsNeeds_75 rfl (lv_at hl 1 rfl) ?_
      obtain ⟨q12, hq12, hf⟩ := bnd hf
      refine hcV_i hx hb hml hown hts hKs hT hb0 hH (As := []) (rest := []) (k_X13_fine l E K H.size o q11 ho hq12) (gV m9_47 m9_49 ms_105 m1_16 m9_50) hd_X13_fine ⟨Nat.le_of_ble_eq_true rfl, Nat.le_of_ble_eq_true rfl, rfl, rfl⟩ rfl ho rfl rfl rfl hl.1 rfl rc0 rfl dX13_readsNeeds_76 ⟨Nat.zero_le _, Nat.zero_le _⟩ (fun H locs hH => ?_)
      refine lv_if_eq (tgt := 106) hx hb dX13_readsNeeds_79 (by decide) (fun c13 => ?_) (fun c13 => ?_)
      · replace hf := (if_pos c13).symm.trans hf
        exact hw_vret hx hb hret hf hH hlocks dX13_readsNeeds_106
      · replace hf := (if_neg c13).symm.trans hf
        refine hl_aload_n hx hb dX13_readsNeeds_82 rfl (lv_at hl 1 rfl) ?_
        refine g13_2 hx hb hts hown hKs hH rfl ho m6_184 dX13_readsNeeds_83 ?_
        refine lv_sipush (v := 136) hx hb dX13_readsNeeds_86 (by decide) ?_
        refine lv_iload_n hx hb dX13_readsNeeds_89 rfl (lv_at hl 2 rfl) ?_
        refine lv_iadd hx hb dX13_readsNeeds_90 ?_
        refine hl_aload_n hx hb dX13_readsNeeds_91 rfl (lv_at hl 1 rfl) ?_
        refine g13_2 hx hb hts hown hKs hH rfl ho m6_184 dX13_readsNeeds_92 ?_
        refine lv_sipush (v := 136) hx hb dX13_readsNeeds_95 (by decide) ?_
        refine lv_iload_n hx hb dX13_readsNeeds_98 rfl (lv_at hl 2 rfl) ?_
        refine lv_iadd hx hb dX13_readsNeeds_99 ?_
        obtain ⟨a14, ha14, hf⟩ := bnd hf
        replace ha14 := cha_some ha14
        obtain ⟨j15, hj15, hf⟩ := bnd hf
        refine hw_iald hx hb hKs hH ha14.1 ha14.2 hj15 dX13_readsNeeds_100 ?_
        refine lv_iconst (v := 1) hx hb dX13_readsNeeds_101 (by decide) ?_
        refine lv_iload_n hx hb dX13_readsNeeds_102 rfl (lv_at hl 0 rfl) ?_
        refine lv_ishl hx hb dX13_readsNeeds_103 ?_
        refine lv_ior hx hb dX13_readsNeeds_104 ?_
        obtain ⟨j16, hj16, hf⟩ := bnd hf
        obtain ⟨w17, hw17, hf⟩ := bnd hf
        replace hw17 := Option.some.inj hw17
        refine hw_iast (x := ((aI q12.2 a14.1 j15) ||| (1 <<< (q8.1 &&& 31)))) hx hb hKs hH ha14.1 ha14.2 hj16 dX13_readsNeeds_105 (fun H locs hH => ?_)
        rw [hw17] at hH
        exact hw_vret hx hb hret hf hH hlocks dX13_readsNeeds_106
    · replace hf := (if_neg c10).symm.trans hf
      refine hl_aload_n hx hb dX13_readsNeeds_44 rfl (lv_at hl 1 rfl) ?_
      refine hl_aload_n hx hb dX13_readsNeeds_45 rfl (lv_at hl 1 rfl) ?_
      refine g13_2 hx hb hts hown hKs hH rfl ho m6_184 dX13_readsNeeds_46 ?_
      refine lv_sipush (v := 136) hx hb dX13_readsNeeds_49 (by decide) ?_
      refine lv_iload_n hx hb dX13_readsNeeds_52 rfl (lv_at hl 2 rfl) ?_
      refine lv_iadd hx hb dX13_readsNeeds_53 ?_
      obtain ⟨a18, ha18, hf⟩ := bnd hf
      replace ha18 := cha_some ha18
      obtain ⟨j19, hj19, hf⟩ := bnd hf
      refine hw_iald hx hb hKs hH ha18.1 ha18.2 hj19 dX13_readsNeeds_54 ?_
      refine lv_iload_n hx hb dX13_readsNeeds_55 rfl (lv_at hl 0 rfl) ?_
      obtain ⟨q20, hq20, hf⟩ := bnd hf
      refine hcS_i hx hb hml hown hts hKs hT hb0 hH (As := [.int ((aI q9.2 a18.1 j19)), .int (q8.1)]) (rest := [rv E (some o)]) (k_X13_has l E K H.size (aI q9.2 a18.1 j19) q8.1 q9.2 hq20) (gS m7_224 m7_225 m1_16 m7_226) hs_X13_has ⟨Nat.le_of_ble_eq_true rfl, Nat.le_of_ble_eq_true rfl, rfl, rfl⟩ hl.1 rfl (rcV rc0) rfl dX13_readsNeeds_56 ⟨Nat.zero_le _, Nat.zero_le _⟩ (fun H locs hH => ?_)
      refine lv_if_ne (tgt := 66) hx hb dX13_readsNeeds_59 (by decide) (fun c21 => ?_) (fun c21 => ?_)
      · replace hf := (if_neg c21).symm.trans hf
        refine lv_iconst (v := 0) hx hb dX13_readsNeeds_66 (by decide) ?_
        refine lv_iconst (v := 3) hx hb dX13_readsNeeds_67 (by decide) ?_
        obtain ⟨q22, hq22, hf⟩ := bnd hf
        refine hcV_v hx hb hml hown hts hKs hT hb0 hH (As := [.int 0, .int 3]) (rest := []) (k_X13_needs l E K H.size o false 3 q20.2 ho hq22) (gV m9_67 m9_69 ms_110 m1_16 m9_70) hd_X13_needs ⟨Nat.le_of_ble_eq_true rfl, Nat.le_of_ble_eq_true rfl, rfl, rfl⟩ rfl ho rfl rfl rfl hl.1 rfl rc0 rfl dX13_readsNeeds_68 ⟨Nat.zero_le _, Nat.zero_le _⟩ (fun H locs hH => ?_)
        refine hl_aload_n hx hb dX13_readsNeeds_71 rfl (lv_at hl 1 rfl) ?_
        obtain ⟨q23, hq23, hf⟩ := bnd hf
        refine hcV_v hx hb hml hown hts hKs hT hb0 hH (As := []) (rest := []) (k_X13_goOn l E K H.size o q22 ho hq23) (gV m9_71 m9_73 ms_111 m1_16 m9_74) hd_X13_goOn ⟨Nat.le_of_ble_eq_true rfl, Nat.le_of_ble_eq_true rfl, rfl, rfl⟩ rfl ho rfl rfl rfl hl.1 rfl rc0 rfl dX13_readsNeeds_72 ⟨Nat.zero_le _, Nat.zero_le _⟩ (fun H locs hH => ?_)
        refine hl_aload_n hx hb dX13_readsNeeds_75 rfl (lv_at hl 1 rfl) ?_
        obtain ⟨q24, hq24, hf⟩ := bnd hf
        refine hcV_i hx hb hml hown hts hKs hT hb0 hH (As := []) (rest := []) (k_X13_fine l E K H.size o q23 ho hq24) (gV m9_47 m9_49 ms_105 m1_16 m9_50) hd_X13_fine ⟨Nat.le_of_ble_eq_true rfl, Nat.le_of_ble_eq_true rfl, rfl, rfl⟩ rfl ho rfl rfl rfl hl.1 rfl rc0 rfl dX13_readsNeeds_76 ⟨Nat.zero_le _, Nat.zero_le _⟩ (fun H locs hH => ?_)
        refine lv_if_eq (tgt := 106) hx hb dX13_readsNeeds_79 (by decide) (fun c25 => ?_) (fun c25 => ?_)
        · replace hf := (if_pos c25).symm.trans hf
          exact hw_vret hx hb hret hf hH hlocks dX13_readsNeeds_106
        · replace hf := (if_neg c25).symm.trans hf
          refine hl_aload_n hx hb dX13_readsNeeds_82 rfl (lv_at hl 1 rfl) ?_
          refine g13_2 hx hb hts hown hKs hH rfl ho m6_184 dX13_readsNeeds_83 ?_
          refine lv_sipush (v := 136) hx hb dX13_readsNeeds_86 (by decide) ?_
          refine lv_iload_n hx hb dX13_readsNeeds_89 rfl (lv_at hl 2 rfl) ?_
          refine lv_iadd hx hb dX13_readsNeeds_90 ?_
          refine hl_aload_n hx hb dX13_readsNeeds_91 rfl (lv_at hl 1 rfl) ?_
          refine g13_2 hx hb hts hown hKs hH rfl ho m6_184 dX13_readsNeeds_92 ?_
          refine lv_sipush (v := 136) hx hb dX13_readsNeeds_95 (by decide) ?_
          refine lv_iload_n hx hb dX13_readsNeeds_98 rfl (lv_at hl 2 rfl) ?_
          refine lv_iadd hx hb dX13_readsNeeds_99 ?_
          obtain ⟨a26, ha26, hf⟩ := bnd hf
          replace ha26 := cha_some ha26
          obtain ⟨j27, hj27, hf⟩ := bnd hf
          refine hw_iald hx hb hKs hH ha26.1 ha26.2 hj27 dX13_readsNeeds_100 ?_
          refine lv_iconst (v := 1) hx hb dX13_readsNeeds_101 (by decide) ?_
          refine lv_iload_n hx hb dX13_readsNeeds_102 rfl (lv_at hl 0 rfl) ?_
          refine lv_ishl hx hb dX13_readsNeeds_103 ?_
          refine lv_ior hx hb dX13_readsNeeds_104 ?_
          obtain ⟨j28, hj28, hf⟩ := bnd hf
          obtain ⟨w29, hw29, hf⟩ := bnd hf
          replace hw29 := Option.some.inj hw29
          refine hw_iast (x := ((aI q24.2 a26.1 j27) ||| (1 <<< (q8.1 &&& 31)))) hx hb hKs hH ha26.1 ha26.2 hj28 dX13_readsNeeds_105 (fun H locs hH => ?_)
          rw [hw29] at hH
          exact hw_vret hx hb hret hf hH hlocks dX13_readsNeeds_106
      · replace hf := (if_pos c21).symm.trans hf
        refine lv_iconst (v := 1) hx hb dX13_readsNeeds_62 (by decide) ?_
        refine lv_goto (tgt := 67) hx hb dX13_readsNeeds_63 (by decide) ?_
        refine lv_iconst (v := 3) hx hb dX13_readsNeeds_67 (by decide) ?_
        obtain ⟨q30, hq30, hf⟩ := bnd hf
        refine hcV_v hx hb hml hown hts hKs hT hb0 hH (As := [.int 1, .int 3]) (rest := []) (k_X13_needs l E K H.size o true 3 q20.2 ho hq30) (gV m9_67 m9_69 ms_110 m1_16 m9_70) hd_X13_needs ⟨Nat.le_of_ble_eq_true rfl, Nat.le_of_ble_eq_true rfl, rfl, rfl⟩ rfl ho rfl rfl rfl hl.1 rfl rc0 rfl dX13_readsNeeds_68 ⟨Nat.zero_le _, Nat.zero_le _⟩ (fun H locs hH => ?_)
        refine hl_aload_n hx hb dX13_readsNeeds_71 rfl (lv_at hl 1 rfl) ?_
        obtain ⟨q31, hq31, hf⟩ := bnd hf
        refine hcV_v hx hb hml hown hts hKs hT hb0 hH (As := []) (rest := []) (k_X13_goOn l E K H.size o q30 ho hq31) (gV m9_71 m9_73 ms_111 m1_16 m9_74) hd_X13_goOn ⟨Nat.le_of_ble_eq_true rfl, Nat.le_of_ble_eq_true rfl, rfl, rfl⟩ rfl ho rfl rfl rfl hl.1 rfl rc0 rfl dX13_readsNeeds_72 ⟨Nat.zero_le _, Nat.zero_le _⟩ (fun H locs hH => ?_)
        refine hl_aload_n hx hb dX13_readsNeeds_75 rfl (lv_at hl 1 rfl) ?_
        obtain ⟨q32, hq32, hf⟩ := bnd hf
        refine hcV_i hx hb hml hown hts hKs hT hb0 hH (As := []) (rest := []) (k_X13_fine l E K H.size o q31 ho hq32) (gV m9_47 m9_49 ms_105 m1_16 m9_50) hd_X13_fine ⟨Nat.le_of_ble_eq_true rfl, Nat.le_of_ble_eq_true rfl, rfl, rfl⟩ rfl ho rfl rfl rfl hl.1 rfl rc0 rfl dX13_readsNeeds_76 ⟨Nat.zero_le _, Nat.zero_le _⟩ (fun H locs hH => ?_)
        refine lv_if_eq (tgt := 106) hx hb dX13_readsNeeds_79 (by decide) (fun c33 => ?_) (fun c33 => ?_)
        · replace hf := (if_pos c33).symm.trans hf
          exact hw_vret hx hb hret hf hH hlocks dX13_readsNeeds_106
        · replace hf := (if_neg c33).symm.trans hf
          refine hl_aload_n hx hb dX13_readsNeeds_82 rfl (lv_at hl 1 rfl) ?_
          refine g13_2 hx hb hts hown hKs hH rfl ho m6_184 dX13_readsNeeds_83 ?_
          refine lv_sipush (v := 136) hx hb dX13_readsNeeds_86 (by decide) ?_
          refine lv_iload_n hx hb dX13_readsNeeds_89 rfl (lv_at hl 2 rfl) ?_
          refine lv_iadd hx hb dX13_readsNeeds_90 ?_
          refine hl_aload_n hx hb dX13_readsNeeds_91 rfl (lv_at hl 1 rfl) ?_
          refine g13_2 hx hb hts hown hKs hH rfl ho m6_184 dX13_readsNeeds_92 ?_
          refine lv_sipush (v := 136) hx hb dX13_readsNeeds_95 (by decide) ?_
          refine lv_iload_n hx hb dX13_readsNeeds_98 rfl (lv_at hl 2 rfl) ?_
          refine lv_iadd hx hb dX13_readsNeeds_99 ?_
          obtain ⟨a34, ha34, hf⟩ := bnd hf
          replace ha34 := cha_some ha34
          obtain ⟨j35, hj35, hf⟩ := bnd hf
          refine hw_iald hx hb hKs hH ha34.1 ha34.2 hj35 dX13_readsNeeds_100 ?_
          refine lv_iconst (v := 1) hx hb dX13_readsNeeds_101 (by decide) ?_
          refine lv_iload_n hx hb dX13_readsNeeds_102 rfl (lv_at hl 0 rfl) ?_
          refine lv_ishl hx hb dX13_readsNeeds_103 ?_
          refine lv_ior hx hb dX13_readsNeeds_104 ?_
          obtain ⟨j36, hj36, hf⟩ := bnd hf
          obtain ⟨w37, hw37, hf⟩ := bnd hf
          replace hw37 := Option.some.inj hw37
          refine hw_iast (x := ((aI q32.2 a34.1 j35) ||| (1 <<< (q8.1 &&& 31)))) hx hb hKs hH ha34.1 ha34.2 hj36 dX13_readsNeeds_105 (fun H locs hH => ?_)
          rw [hw37] at hH
          exact hw_vret hx hb hret hf hH hlocks dX13_readsNeeds_106
  · replace hf := (if_pos c5).symm.trans hf
    exact hw_vret hx hb hret hf hH hlocks dX13_readsNeeds_21

theorem dX13_readsCase_0 : decode cX13_readsCase 0 = .ok (.aload_n 0, 1) := by decide +kernel
theorem dX13_readsCase_1 : decode cX13_readsCase 1 = .ok (.getfield 13, 3) := by decide +kernel
theorem dX13_readsCase_4 : decode cX13_readsCase 4 = .ok (.iconst 3, 1) := by decide +kernel
theorem dX13_readsCase_5 : decode cX13_readsCase 5 = .ok (.iaload, 1) := by decide +kernel
theorem dX13_readsCase_6 : decode cX13_readsCase 6 = .ok (.istore_n 1, 1) := by decide +kernel
theorem dX13_readsCase_7 : decode cX13_readsCase 7 = .ok (.aload_n 0, 1) := by decide +kernel
theorem dX13_readsCase_8 : decode cX13_readsCase 8 = .ok (.iload_n 1, 1) := by decide +kernel
theorem dX13_readsCase_9 : decode cX13_readsCase 9 = .ok (.bipush 12, 2) := by decide +kernel
theorem dX13_readsCase_11 : decode cX13_readsCase 11 = .ok (.invokevirtual 423, 3) := by decide +kernel
theorem dX13_readsCase_14 : decode cX13_readsCase 14 = .ok (.ifCond .ne 4, 3) := by decide +kernel
theorem dX13_readsCase_17 : decode cX13_readsCase 17 = .ok (.return_, 1) := by decide +kernel
theorem dX13_readsCase_18 : decode cX13_readsCase 18 = .ok (.aload_n 0, 1) := by decide +kernel
theorem dX13_readsCase_19 : decode cX13_readsCase 19 = .ok (.aload_n 0, 1) := by decide +kernel
theorem dX13_readsCase_20 : decode cX13_readsCase 20 = .ok (.getfield 77, 3) := by decide +kernel
theorem dX13_readsCase_23 : decode cX13_readsCase 23 = .ok (.iload_n 1, 1) := by decide +kernel
theorem dX13_readsCase_24 : decode cX13_readsCase 24 = .ok (.invokevirtual 426, 3) := by decide +kernel
theorem dX13_readsCase_27 : decode cX13_readsCase 27 = .ok (.aload_n 0, 1) := by decide +kernel
theorem dX13_readsCase_28 : decode cX13_readsCase 28 = .ok (.bipush 88, 2) := by decide +kernel
theorem dX13_readsCase_30 : decode cX13_readsCase 30 = .ok (.iload_n 1, 1) := by decide +kernel
theorem dX13_readsCase_31 : decode cX13_readsCase 31 = .ok (.iadd, 1) := by decide +kernel
theorem dX13_readsCase_32 : decode cX13_readsCase 32 = .ok (.aload_n 0, 1) := by decide +kernel
theorem dX13_readsCase_33 : decode cX13_readsCase 33 = .ok (.bipush 8, 2) := by decide +kernel
theorem dX13_readsCase_35 : decode cX13_readsCase 35 = .ok (.iconst 0, 1) := by decide +kernel
theorem dX13_readsCase_36 : decode cX13_readsCase 36 = .ok (.bipush 99, 2) := by decide +kernel
theorem dX13_readsCase_38 : decode cX13_readsCase 38 = .ok (.invokevirtual 430, 3) := by decide +kernel
theorem dX13_readsCase_41 : decode cX13_readsCase 41 = .ok (.invokevirtual 434, 3) := by decide +kernel
theorem dX13_readsCase_44 : decode cX13_readsCase 44 = .ok (.aload_n 0, 1) := by decide +kernel
theorem dX13_readsCase_45 : decode cX13_readsCase 45 = .ok (.bipush 100, 2) := by decide +kernel
theorem dX13_readsCase_47 : decode cX13_readsCase 47 = .ok (.iload_n 1, 1) := by decide +kernel
theorem dX13_readsCase_48 : decode cX13_readsCase 48 = .ok (.iadd, 1) := by decide +kernel
theorem dX13_readsCase_49 : decode cX13_readsCase 49 = .ok (.aload_n 0, 1) := by decide +kernel
theorem dX13_readsCase_50 : decode cX13_readsCase 50 = .ok (.iconst 2, 1) := by decide +kernel
theorem dX13_readsCase_51 : decode cX13_readsCase 51 = .ok (.iconst 1, 1) := by decide +kernel
theorem dX13_readsCase_52 : decode cX13_readsCase 52 = .ok (.iconst 4, 1) := by decide +kernel
theorem dX13_readsCase_53 : decode cX13_readsCase 53 = .ok (.invokevirtual 430, 3) := by decide +kernel
theorem dX13_readsCase_56 : decode cX13_readsCase 56 = .ok (.invokevirtual 434, 3) := by decide +kernel
theorem dX13_readsCase_59 : decode cX13_readsCase 59 = .ok (.aload_n 0, 1) := by decide +kernel
theorem dX13_readsCase_60 : decode cX13_readsCase 60 = .ok (.bipush 112, 2) := by decide +kernel
theorem dX13_readsCase_62 : decode cX13_readsCase 62 = .ok (.iload_n 1, 1) := by decide +kernel
theorem dX13_readsCase_63 : decode cX13_readsCase 63 = .ok (.iadd, 1) := by decide +kernel
theorem dX13_readsCase_64 : decode cX13_readsCase 64 = .ok (.aload_n 0, 1) := by decide +kernel
theorem dX13_readsCase_65 : decode cX13_readsCase 65 = .ok (.bipush 9, 2) := by decide +kernel
theorem dX13_readsCase_67 : decode cX13_readsCase 67 = .ok (.iconst 1, 1) := by decide +kernel
theorem dX13_readsCase_68 : decode cX13_readsCase 68 = .ok (.bipush 60, 2) := by decide +kernel
theorem dX13_readsCase_70 : decode cX13_readsCase 70 = .ok (.invokevirtual 430, 3) := by decide +kernel
theorem dX13_readsCase_73 : decode cX13_readsCase 73 = .ok (.invokevirtual 434, 3) := by decide +kernel
theorem dX13_readsCase_76 : decode cX13_readsCase 76 = .ok (.aload_n 0, 1) := by decide +kernel
theorem dX13_readsCase_77 : decode cX13_readsCase 77 = .ok (.bipush 124, 2) := by decide +kernel
theorem dX13_readsCase_79 : decode cX13_readsCase 79 = .ok (.iload_n 1, 1) := by decide +kernel
theorem dX13_readsCase_80 : decode cX13_readsCase 80 = .ok (.iadd, 1) := by decide +kernel
theorem dX13_readsCase_81 : decode cX13_readsCase 81 = .ok (.aload_n 0, 1) := by decide +kernel
theorem dX13_readsCase_82 : decode cX13_readsCase 82 = .ok (.bipush 10, 2) := by decide +kernel
theorem dX13_readsCase_84 : decode cX13_readsCase 84 = .ok (.invokevirtual 389, 3) := by decide +kernel
theorem dX13_readsCase_87 : decode cX13_readsCase 87 = .ok (.ifCond .eq 7, 3) := by decide +kernel
theorem dX13_readsCase_90 : decode cX13_readsCase 90 = .ok (.iconst 1, 1) := by decide +kernel
theorem dX13_readsCase_91 : decode cX13_readsCase 91 = .ok (.goto 4, 3) := by decide +kernel
theorem dX13_readsCase_94 : decode cX13_readsCase 94 = .ok (.iconst 0, 1) := by decide +kernel
theorem dX13_readsCase_95 : decode cX13_readsCase 95 = .ok (.invokevirtual 434, 3) := by decide +kernel
theorem dX13_readsCase_98 : decode cX13_readsCase 98 = .ok (.aload_n 0, 1) := by decide +kernel
theorem dX13_readsCase_99 : decode cX13_readsCase 99 = .ok (.sipush 136, 3) := by decide +kernel
theorem dX13_readsCase_102 : decode cX13_readsCase 102 = .ok (.iload_n 1, 1) := by decide +kernel
theorem dX13_readsCase_103 : decode cX13_readsCase 103 = .ok (.iadd, 1) := by decide +kernel
theorem dX13_readsCase_104 : decode cX13_readsCase 104 = .ok (.iconst 0, 1) := by decide +kernel
theorem dX13_readsCase_105 : decode cX13_readsCase 105 = .ok (.invokevirtual 434, 3) := by decide +kernel
theorem dX13_readsCase_108 : decode cX13_readsCase 108 = .ok (.aload_n 0, 1) := by decide +kernel
theorem dX13_readsCase_109 : decode cX13_readsCase 109 = .ok (.bipush 11, 2) := by decide +kernel
theorem dX13_readsCase_111 : decode cX13_readsCase 111 = .ok (.invokevirtual 386, 3) := by decide +kernel
theorem dX13_readsCase_114 : decode cX13_readsCase 114 = .ok (.ifCond .eq 11, 3) := by decide +kernel
theorem dX13_readsCase_117 : decode cX13_readsCase 117 = .ok (.aload_n 0, 1) := by decide +kernel
theorem dX13_readsCase_118 : decode cX13_readsCase 118 = .ok (.iload_n 1, 1) := by decide +kernel
theorem dX13_readsCase_119 : decode cX13_readsCase 119 = .ok (.invokevirtual 441, 3) := by decide +kernel
theorem dX13_readsCase_122 : decode cX13_readsCase 122 = .ok (.goto (-14), 3) := by decide +kernel
theorem dX13_readsCase_125 : decode cX13_readsCase 125 = .ok (.aload_n 0, 1) := by decide +kernel
theorem dX13_readsCase_126 : decode cX13_readsCase 126 = .ok (.iconst 3, 1) := by decide +kernel
theorem dX13_readsCase_127 : decode cX13_readsCase 127 = .ok (.iload_n 1, 1) := by decide +kernel
theorem dX13_readsCase_128 : decode cX13_readsCase 128 = .ok (.iconst 1, 1) := by decide +kernel
theorem dX13_readsCase_129 : decode cX13_readsCase 129 = .ok (.iadd, 1) := by decide +kernel
theorem dX13_readsCase_130 : decode cX13_readsCase 130 = .ok (.invokevirtual 434, 3) := by decide +kernel
theorem dX13_readsCase_133 : decode cX13_readsCase 133 = .ok (.return_, 1) := by decide +kernel
theorem hd_X13_readsCase : yX13_readsCase.cls = RX13 ∧ yX13_readsCase.cls ≠ "java/lang/invoke/MethodHandle" ∧ yX13_readsCase.cls ≠ "java/lang/invoke/VarHandle" ∧ (parseMethodDescriptor yX13_readsCase.desc).map (fun d => d.parameters.length) = some 0 := by decide +kernel
theorem hs_X13_readsCase : yX13_readsCase.cls ≠ "java/lang/invoke/MethodHandle" ∧ yX13_readsCase.cls ≠ "java/lang/invoke/VarHandle" ∧ (parseMethodDescriptor yX13_readsCase.desc).map (fun d => d.parameters.length) = some 0 := by decide +kernel
set_option maxHeartbeats 4000000 in
set_option maxRecDepth 100000 in
theorem l_X13_readsCase_L108 (C : CX p l e s m args meth c cX13_readsCase 2 RX13 (Option.none : Option Jvm.ClassFile.FieldType) E) {o : Nat} (ho : K o = some (11, 0)) {w' : Wd} (k : Int32 → Wd → Option Wd) (hk : ∀ (v1_108 : Int32) (w : Wd) (H : Heap) (locs : List Loc) (ls : Array Slot), HQ E K z w s H locs → lv_has ls 2 [(1, .int v1_108), (0, rv E (some o))] → k v1_108 w = some w' → W p l e ({ frames := 9, cells := 0, slots := 0, locals := 195 } : Room) s m args below meth c H locs 0 0 (MQ below (QV E K z w') args s 0 0 (hA E)) (F0 m 125 ls [])) : ∀ (n : Nat) (v1_108 : Int32) (w : Wd) (H : Heap) (locs : List Loc) (ls : Array Slot), HQ E K z w s H locs → lv_has ls 2 [(1, .int v1_108), (0, rv E (some o))] → f_X13_readsCase_L108 K o k n v1_108 w = some w' → W p l e ({ frames := 9, cells := 0, slots := 0, locals := 195 } : Room) s m args below meth c H locs 0 0 (MQ below (QV E K z w') args s 0 0 (hA E)) (F0 m 108 ls []) := by
  obtain ⟨hx, hb, hml, hown, hts, hKs, hT, hb0, hlocks, hret⟩ := id C
  intro n
  induction n with
  | zero =>
    intro v1_108 w H locs ls hH hl hf
    cases hf
  | succ n ih =>
    intro v1_108 w H locs ls hH hl hf
    rw [f_X13_readsCase_L108] at hf
    refine hl_aload_n hx hb dX13_readsCase_108 rfl (lv_at hl 1 rfl) ?_
    refine lv_bipush (v := 11) hx hb dX13_readsCase_109 (by decide) ?_
    obtain ⟨q17, hq17, hf⟩ := bnd hf
    refine hcV_i hx hb hml hown hts hKs hT hb0 hH (As := [.int 11]) (rest := []) (k_X13_isWord l E K H.size o 11 w ho hq17) (gV m9_55 m9_57 ms_107 m1_16 m9_58) hd_X13_isWord ⟨Nat.le_of_ble_eq_true rfl, Nat.le_of_ble_eq_true rfl, rfl, rfl⟩ rfl ho rfl rfl rfl hl.1 rfl rc0 rfl dX13_readsCase_111 ⟨Nat.zero_le _, Nat.zero_le _⟩ (fun H locs hH => ?_)
    refine lv_if_eq (tgt := 125) hx hb dX13_readsCase_114 (by decide) (fun c18 => ?_) (fun c18 => ?_)
    · replace hf := (if_pos c18).symm.trans hf
      exact hk v1_108 _ _ _ _ hH (lv_sub hl [0, 1] rfl) hf
    · replace hf := (if_neg c18).symm.trans hf
      refine hl_aload_n hx hb dX13_readsCase_117 rfl (lv_at hl 1 rfl) ?_
      refine lv_iload_n hx hb dX13_readsCase_118 rfl (lv_at hl 0 rfl) ?_
      obtain ⟨q19, hq19, hf⟩ := bnd hf
      refine hcV_v hx hb hml hown hts hKs hT hb0 hH (As := [.int v1_108]) (rest := []) (k_X13_readsNeeds l E K H.size o v1_108 q17.2 ho hq19) (gV m9_132 m9_134 ms_125 m1_16 m9_135) hd_X13_readsNeeds ⟨Nat.le_of_ble_eq_true rfl, Nat.le_of_ble_eq_true rfl, rfl, rfl⟩ rfl ho rfl rfl rfl hl.1 rfl rc0 rfl dX13_readsCase_119 ⟨Nat.zero_le _, Nat.zero_le _⟩ (fun H locs hH => ?_)
      refine lv_goto (tgt := 108) hx hb dX13_readsCase_122 (by decide) ?_
      exact ih v1_108 _ _ _ _ hH (lv_sub hl [0, 1] rfl) hf
set_option maxHeartbeats 4000000 in
set_option maxRecDepth 100000 in
theorem k_X13_readsCase (l : Launch) (E : Ev) (K : Kd) (z : Nat) (o : Nat) (w : Wd) (ho : K o = some (11, 0)) {w' : Wd} (hf : f_X13_readsCase K o w = some w') : Met l yX13_readsCase (Cond.code yX13_readsCase cX13_readsCase 2 (Option.none : Option Jvm.ClassFile.FieldType) :: bt) ({ frames := 9, cells := 0, slots := 0, locals := 195 } : Room) (va_Pc [rv E (some o)] (HB E K w z)) (QV E K z w') 0 0 (hA E) := by
  refine Met.ofW (cc := cX13_readsCase) (maxL := 2) (ret := (Option.none : Option Jvm.ClassFile.FieldType)) (by decide) rfl ?_
  intro p e s m args below meth c s₁ B hml hv
  obtain ⟨rfl, hz, hP, hKs, hT, hb0⟩ := hv
  have C : CX p l e s m _ meth c cX13_readsCase 2 RX13 (Option.none : Option Jvm.ClassFile.FieldType) E := ⟨B.exec, B.bytes, hml, findClass_of_methodNamed B.named, fun w h => atoms_spec (ws := Cond.code yX13_readsCase cX13_readsCase 2 (Option.none : Option Jvm.ClassFile.FieldType) :: bt) B.pre w (List.mem_cons_of_mem _ h), hKs, hT, by rw [hz]; exact hb0, B.notSynchronized, B.returns⟩
  have hH : HQ E K z w s s.heap [] := ⟨hP, va_S.rf, hz⟩
  obtain ⟨hx, hb, hml, hown, hts, hKs, hT, hb0, hlocks, hret⟩ := id C
  have hl := lv_entry [rv E (some o)] (n := 2) (by simp [lg_len_nil, lg_len_i, lg_len_j, lg_len_q, lg_len_f, lg_len_d, lg_len_r])
  rw [lg_entry_eq]
  generalize (lg_sl [rv E (some o)] ++ List.replicate (2 - (lg_sl [rv E (some o)]).length) Slot.unset).toArray = ls at hl ⊢
  replace hl : lv_has ls 2 [(0, rv E (some o))] := by simpa only [lv_args, cat_q, cat_i, cat_j, reduceIte, Nat.reduceEqDiff, Nat.reduceAdd, Nat.zero_add] using hl
  generalize s.heap = H at hH ⊢
  unfold f_X13_readsCase at hf
  refine hl_aload_n hx hb dX13_readsCase_0 rfl (lv_at hl 0 rfl) ?_
  refine g13_2 hx hb hts hown hKs hH rfl ho m6_184 dX13_readsCase_1 ?_
  refine lv_iconst (v := 3) hx hb dX13_readsCase_4 (by decide) ?_
  obtain ⟨a1, ha1, hf⟩ := bnd hf
  replace ha1 := cha_some ha1
  obtain ⟨j2, hj2, hf⟩ := bnd hf
  refine hw_iald hx hb hKs hH ha1.1 ha1.2 hj2 dX13_readsCase_5 ?_
  refine lv_istore_n (lv' := [(1, .int ((aI w a1.1 j2))), (0, rv E (some o))]) hx hb dX13_readsCase_6 rfl hl (by decide) rfl (fun ls hl => ?_)
  refine hl_aload_n hx hb dX13_readsCase_7 rfl (lv_at hl 1 rfl) ?_
  refine lv_iload_n hx hb dX13_readsCase_8 rfl (lv_at hl 0 rfl) ?_
  refine lv_bipush (v := 12) hx hb dX13_readsCase_9 (by decide) ?_
  obtain ⟨q3, hq3, hf⟩ := bnd hf
  refine hcV_i hx hb hml hown hts hKs hT hb0 hH (As := [.int ((aI w a1.1 j2)), .int 12]) (rest := []) (k_X13_begins l E K H.size o (aI w a1.1 j2) 12 w ho hq3) (gV m9_63 m9_65 ms_109 m1_16 m9_66) hd_X13_begins ⟨Nat.le_of_ble_eq_true rfl, Nat.le_of_ble_eq_true rfl, rfl, rfl⟩ rfl ho rfl rfl rfl hl.1 rfl rc0 rfl dX13_readsCase_11 ⟨Nat.zero_le _, Nat.zero_le _⟩ (fun H locs hH => ?_)
  refine lv_if_ne (tgt := 18) hx hb dX13_readsCase_14 (by decide) (fun c4 => ?_) (fun c4 => ?_)
  · replace hf := (if_neg c4).symm.trans hf
    refine hl_aload_n hx hb dX13_readsCase_18 rfl (lv_at hl 1 rfl) ?_
    refine hl_aload_n hx hb dX13_readsCase_19 rfl (lv_at hl 1 rfl) ?_
    refine g13_36 hx hb hts hown hKs hH rfl ho m6_218 dX13_readsCase_20 ?_
    refine lv_iload_n hx hb dX13_readsCase_23 rfl (lv_at hl 0 rfl) ?_
    obtain ⟨q5, hq5, hf⟩ := bnd hf
    refine hcV_v hx hb hml hown hts hKs hT hb0 hH (As := [rv E (wR q3.2 1336 o), .int ((aI w a1.1 j2))]) (rest := []) (k_X13_newName l E K H.size o (wR q3.2 1336 o) (aI w a1.1 j2) q3.2 ho hq5) (gV m9_83 m9_85 ms_114 m1_16 m9_86) hd_X13_newName ⟨Nat.le_of_ble_eq_true rfl, Nat.le_of_ble_eq_true rfl, rfl, rfl⟩ rfl ho rfl rfl rfl hl.1 rfl rc0 rfl dX13_readsCase_24 ⟨Nat.zero_le _, Nat.zero_le _⟩ (fun H locs hH => ?_)
    refine hl_aload_n hx hb dX13_readsCase_27 rfl (lv_at hl 1 rfl) ?_
    refine lv_bipush (v := 88) hx hb dX13_readsCase_28 (by decide) ?_
    refine lv_iload_n hx hb dX13_readsCase_30 rfl (lv_at hl 0 rfl) ?_
    refine lv_iadd hx hb dX13_readsCase_31 ?_
    refine hl_aload_n hx hb dX13_readsCase_32 rfl (lv_at hl 1 rfl) ?_
    refine lv_bipush (v := 8) hx hb dX13_readsCase_33 (by decide) ?_
    refine lv_iconst (v := 0) hx hb dX13_readsCase_35 (by decide) ?_
    refine lv_bipush (v := 99) hx hb dX13_readsCase_36 (by decide) ?_
    obtain ⟨q6, hq6, hf⟩ := bnd hf
    refine hcV_i hx hb hml hown hts hKs hT hb0 hH (As := [.int 8, .int 0, .int 99]) (rest := [.int ((88 + (aI w a1.1 j2))), rv E (some o)]) (k_X13_numberBehind l E K H.size o 8 0 99 q5 ho hq6) (gV m9_100 m9_102 ms_117 m1_16 m9_103) hd_X13_numberBehind ⟨Nat.le_of_ble_eq_true rfl, Nat.le_of_ble_eq_true rfl, rfl, rfl⟩ rfl ho rfl rfl rfl hl.1 rfl (rcI (rcV rc0)) rfl dX13_readsCase_38 ⟨Nat.zero_le _, Nat.zero_le _⟩ (fun H locs hH => ?_)
    obtain ⟨q7, hq7, hf⟩ := bnd hf
    refine hcV_v hx hb hml hown hts hKs hT hb0 hH (As := [.int ((88 + (aI w a1.1 j2))), .int (q6.1)]) (rest := []) (k_X13_laysDraft l E K H.size o (88 + (aI w a1.1 j2)) q6.1 q6.2 ho hq7) (gV m9_116 m9_118 ms_121 m1_16 m9_119) hd_X13_laysDraft ⟨Nat.le_of_ble_eq_true rfl, Nat.le_of_ble_eq_true rfl, rfl, rfl⟩ rfl ho rfl rfl rfl hl.1 rfl rc0 rfl dX13_readsCase_41 ⟨Nat.zero_le _, Nat.zero_le _⟩ (fun H locs hH => ?_)
    refine hl_aload_n hx hb dX13_readsCase_44 rfl (lv_at hl 1 rfl) ?_
    refine lv_bipush (v := 100) hx hb dX13_readsCase_45 (by decide) ?_
    refine lv_iload_n hx hb dX13_readsCase_47 rfl (lv_at hl 0 rfl) ?_
    refine lv_iadd hx hb dX13_readsCase_48 ?_
    refine hl_aload_n hx hb dX13_readsCase_49 rfl (lv_at hl 1 rfl) ?_
    refine lv_iconst (v := 2) hx hb dX13_readsCase_50 (by decide) ?_
    refine lv_iconst (v := 1) hx hb dX13_readsCase_51 (by decide) ?_
    refine lv_iconst (v := 4) hx hb dX13_readsCase_52 (by decide) ?_
    obtain ⟨q8, hq8, hf⟩ := bnd hf
    refine hcV_i hx hb hml hown hts hKs hT hb0 hH (As := [.int 2, .int 1, .int 4]) (rest := [.int ((100 + (aI w a1.1 j2))), rv E (some o)]) (k_X13_numberBehind l E K H.size o 2 1 4 q7 ho hq8) (gV m9_100 m9_102 ms_117 m1_16 m9_103) hd_X13_numberBehind ⟨Nat.le_of_ble_eq_true rfl, Nat.le_of_ble_eq_true rfl, rfl, rfl⟩ rfl ho rfl rfl rfl hl.1 rfl (rcI (rcV rc0)) rfl dX13_readsCase_53 ⟨Nat.zero_le _, Nat.zero_le _⟩ (fun H locs hH => ?_)
    obtain ⟨q9, hq9, hf⟩ := bnd hf
    refine hcV_v hx hb hml hown hts hKs hT hb0 hH (As := [.int ((100 + (aI w a1.1 j2))), .int (q8.1)]) (rest := []) (k_X13_laysDraft l E K H.size o (100 + (aI w a1.1 j2)) q8.1 q8.2 ho hq9) (gV m9_116 m9_118 ms_121 m1_16 m9_119) hd_X13_laysDraft ⟨Nat.le_of_ble_eq_true rfl, Nat.le_of_ble_eq_true rfl, rfl, rfl⟩ rfl ho rfl rfl rfl hl.1 rfl rc0 rfl dX13_readsCase_56 ⟨Nat.zero_le _, Nat.zero_le _⟩ (fun H locs hH => ?_)
    refine hl_aload_n hx hb dX13_readsCase_59 rfl (lv_at hl 1 rfl) ?_
    refine lv_bipush (v := 112) hx hb dX13_readsCase_60 (by decide) ?_
    refine lv_iload_n hx hb dX13_readsCase_62 rfl (lv_at hl 0 rfl) ?_
    refine lv_iadd hx hb dX13_readsCase_63 ?_
    refine hl_aload_n hx hb dX13_readsCase_64 rfl (lv_at hl 1 rfl) ?_
    refine lv_bipush (v := 9) hx hb dX13_readsCase_65 (by decide) ?_
    refine lv_iconst (v := 1) hx hb dX13_readsCase_67 (by decide) ?_
    refine lv_bipush (v := 60) hx hb dX13_readsCase_68 (by decide) ?_
    obtain ⟨q10, hq10, hf⟩ := bnd hf
    refine hcV_i hx hb hml hown hts hKs hT hb0 hH (As := [.int 9, .int 1, .int 60]) (rest := [.int ((112 + (aI w a1.1 j2))), rv E (some o)]) (k_X13_numberBehind l E K H.size o 9 1 60 q9 ho hq10) (gV m9_100 m9_102 ms_117 m1_16 m9_103) hd_X13_numberBehind ⟨Nat.le_of_ble_eq_true rfl, Nat.le_of_ble_eq_true rfl, rfl, rfl⟩ rfl ho rfl rfl rfl hl.1 rfl (rcI (rcV rc0)) rfl dX13_readsCase_70 ⟨Nat.zero_le _, Nat.zero_le _⟩ (fun H locs hH => ?_)
    obtain ⟨q11, hq11, hf⟩ := bnd hf
    refine hcV_v hx hb hml hown hts hKs hT hb0 hH (As := [.int ((112 + (aI w a1.1 j2))), .int (q10.1)]) (rest := []) (k_X13_laysDraft l E K H.size o (112 + (aI w a1.1 j2)) q10.1 q10.2 ho hq11) (gV m9_116 m9_118 ms_121 m1_16 m9_119) hd_X13_laysDraft ⟨Nat.le_of_ble_eq_true rfl, Nat.le_of_ble_eq_true rfl, rfl, rfl⟩ rfl ho rfl rfl rfl hl.1 rfl rc0 rfl dX13_readsCase_73 ⟨Nat.zero_le _, Nat.zero_le _⟩ (fun H locs hH => ?_)
    refine hl_aload_n hx hb dX13_readsCase_76 rfl (lv_at hl 1 rfl) ?_
    refine lv_bipush (v := 124) hx hb dX13_readsCase_77 (by decide) ?_
    refine lv_iload_n hx hb dX13_readsCase_79 rfl (lv_at hl 0 rfl) ?_
    refine lv_iadd hx hb dX13_readsCase_80 ?_
    refine hl_aload_n hx hb dX13_readsCase_81 rfl (lv_at hl 1 rfl) ?_
    refine lv_bipush (v := 10) hx hb dX13_readsCase_82 (by decide) ?_
    obtain ⟨q12, hq12, hf⟩ := bnd hf
    refine hcV_i hx hb hml hown hts hKs hT hb0 hH (As := [.int 10]) (rest := [.int ((124 + (aI w a1.1 j2))), rv E (some o)]) (k_X13_takes l E K H.size o 10 q11 ho hq12) (gV m9_108 m9_110 ms_119 m1_16 m9_111) hd_X13_takes ⟨Nat.le_of_ble_eq_true rfl, Nat.le_of_ble_eq_true rfl, rfl, rfl⟩ rfl ho rfl rfl rfl hl.1 rfl (rcI (rcV rc0)) rfl dX13_readsCase_84 ⟨Nat.zero_le _, Nat.zero_le _⟩ (fun H locs hH => ?_)
    refine lv_if_eq (tgt := 94) hx hb dX13_readsCase_87 (by decide) (fun c13 => ?_) (fun c13 => ?_)
    · replace hf := (if_pos c13).symm.trans hf
      refine lv_iconst (v := 0) hx hb dX13_readsCase_94 (by decide) ?_
      obtain ⟨q14, hq14, hf⟩ := bnd hf
      refine hcV_v hx hb hml hown hts hKs hT hb0 hH (As := [.int ((124 + (aI w a1.1 j2))), .int 0]) (rest := []) (k_X13_laysDraft l E K H.size o (124 + (aI w a1.1 j2)) 0 q12.2 ho hq14) (gV m9_116 m9_118 ms_121 m1_16 m9_119) hd_X13_laysDraft ⟨Nat.le_of_ble_eq_true rfl, Nat.le_of_ble_eq_true rfl, rfl, rfl⟩ rfl ho rfl rfl rfl hl.1 rfl rc0 rfl dX13_readsCase_95 ⟨Nat.zero_le _, Nat.zero_le _⟩ (fun H locs hH => ?_)
      refine hl_aload_n hx hb dX13_readsCase_98 rfl (lv_at hl 1 rfl) ?_
      refine lv_sipush (v := 136) hx hb dX13_readsCase_99 (by decide) ?_
      refine lv_iload_n hx hb dX13_readsCase_102 rfl (lv_at hl 0 rfl) ?_
      refine lv_iadd hx hb dX13_readsCase_103 ?_
      refine lv_iconst (v := 0) hx hb dX13_readsCase_104 (by decide) ?_
      obtain ⟨q15, hq15, hf⟩ := bnd hf
      refine hcV_v hx hb hml hown hts hKs hT hb0 hH (As := [.int ((136 + (aI w a1.1 j2))), .int 0]) (rest := []) (k_X13_laysDraft l E K H.size o (136 + (aI w a1.1 j2)) 0 q14 ho hq15) (gV m9_116 m9_118 ms_121 m1_16 m9_119) hd_X13_laysDraft ⟨Nat.le_of_ble_eq_true rfl, Nat.le_of_ble_eq_true rfl, rfl, rfl⟩ rfl ho rfl rfl rfl hl.1 rfl rc0 rfl dX13_readsCase_105 ⟨Nat.zero_le _, Nat.zero_le _⟩ (fun H locs hH => ?_)
      refine l_X13_readsCase_L108  C ho _ (fun v1_108 w16 H locs ls hH hl hf => ?_) fu (aI w a1.1 j2) q15 _ _ _ hH (lv_sub hl [0, 1] rfl) hf
      refine hl_aload_n hx hb dX13_readsCase_125 rfl (lv_at hl 1 rfl) ?_
      refine lv_iconst (v := 3) hx hb dX13_readsCase_126 (by decide) ?_
      refine lv_iload_n hx hb dX13_readsCase_127 rfl (lv_at hl 0 rfl) ?_
      refine lv_iconst (v := 1) hx hb dX13_readsCase_128 (by decide) ?_
      refine lv_iadd hx hb dX13_readsCase_129 ?_
      obtain ⟨q20, hq20, hf⟩ := bnd hf
      refine hcV_v hx hb hml hown hts hKs hT hb0 hH (As := [.int 3, .int ((v1_108 + 1))]) (rest := []) (k_X13_laysDraft l E K H.size o 3 (v1_108 + 1) w16 ho hq20) (gV m9_116 m9_118 ms_121 m1_16 m9_119) hd_X13_laysDraft ⟨Nat.le_of_ble_eq_true rfl, Nat.le_of_ble_eq_true rfl, rfl, rfl⟩ rfl ho rfl rfl rfl hl.1 rfl rc0 rfl dX13_readsCase_130 ⟨Nat.zero_le _, Nat.zero_le _⟩ (fun H locs hH => ?_)
      exact hw_vret hx hb hret hf hH hlocks dX13_readsCase_133
    · replace hf := (if_neg c13).symm.trans hf
      refine lv_iconst (v := 1) hx hb dX13_readsCase_90 (by decide) ?_
      refine lv_goto (tgt := 95) hx hb dX13_readsCase_91 (by decide) ?_
      obtain ⟨q21, hq21, hf⟩ := bnd hf
      refine hcV_v hx hb hml hown hts hKs hT hb0 hH (As := [.int ((124 + (aI w a1.1 j2))), .int 1]) (rest := []) (k_X13_laysDraft l E K H.size o (124 + (aI w a1.1 j2)) 1 q12.2 ho hq21) (gV m9_116 m9_118 ms_121 m1_16 m9_119) hd_X13_laysDraft ⟨Nat.le_of_ble_eq_true rfl, Nat.le_of_ble_eq_true rfl, rfl, rfl⟩ rfl ho rfl rfl rfl hl.1 rfl rc0 rfl dX13_readsCase_95 ⟨Nat.zero_le _, Nat.zero_le _⟩ (fun H locs hH => ?_)
      refine hl_aload_n hx hb dX13_readsCase_98 rfl (lv_at hl 1 rfl) ?_
      refine lv_sipush (v := 136) hx hb dX13_readsCase_99 (by decide) ?_
      refine lv_iload_n hx hb dX13_readsCase_102 rfl (lv_at hl 0 rfl) ?_
      refine lv_iadd hx hb dX13_readsCase_103 ?_
      refine lv_iconst (v := 0) hx hb dX13_readsCase_104 (by decide) ?_
      obtain ⟨q22, hq22, hf⟩ := bnd hf
      refine hcV_v hx hb hml hown hts hKs hT hb0 hH (As := [.int ((136 + (aI w a1.1 j2))), .int 0]) (rest := []) (k_X13_laysDraft l E K H.size o (136 + (aI w a1.1 j2)) 0 q21 ho hq22) (gV m9_116 m9_118 ms_121 m1_16 m9_119) hd_X13_laysDraft ⟨Nat.le_of_ble_eq_true rfl, Nat.le_of_ble_eq_true rfl, rfl, rfl⟩ rfl ho rfl rfl rfl hl.1 rfl rc0 rfl dX13_readsCase_105 ⟨Nat.zero_le _, Nat.zero_le _⟩ (fun H locs hH => ?_)
      refine l_X13_readsCase_L108  C ho _ (fun v1_108 w23 H locs ls hH hl hf => ?_) fu (aI w a1.1 j2) q22 _ _ _ hH (lv_sub hl [0, 1] rfl) hf
      refine hl_aload_n hx hb dX13_readsCase_125 rfl (lv_at hl 1 rfl) ?_
      refine lv_iconst (v := 3) hx hb dX13_readsCase_126 (by decide) ?_
      refine lv_iload_n hx hb dX13_readsCase_127 rfl (lv_at hl 0 rfl) ?_
      refine lv_iconst (v := 1) hx hb dX13_readsCase_128 (by decide) ?_
      refine lv_iadd hx hb dX13_readsCase_129 ?_
      obtain ⟨q24, hq24, hf⟩ := bnd hf
      refine hcV_v hx hb hml hown hts hKs hT hb0 hH (As := [.int 3, .int ((v1_108 + 1))]) (rest := []) (k_X13_laysDraft l E K H.size o 3 (v1_108 + 1) w23 ho hq24) (gV m9_116 m9_118 ms_121 m1_16 m9_119) hd_X13_laysDraft ⟨Nat.le_of_ble_eq_true rfl, Nat.le_of_ble_eq_true rfl, rfl, rfl⟩ rfl ho rfl rfl rfl hl.1 rfl rc0 rfl dX13_readsCase_130 ⟨Nat.zero_le _, Nat.zero_le _⟩ (fun H locs hH => ?_)
      exact hw_vret hx hb hret hf hH hlocks dX13_readsCase_133
  · replace hf := (if_pos c4).symm.trans hf
    exact hw_vret hx hb hret hf hH hlocks dX13_readsCase_17

theorem dX13_readsBar_0 : decode cX13_readsBar 0 = .ok (.aload_n 0, 1) := by decide +kernel
theorem dX13_readsBar_1 : decode cX13_readsBar 1 = .ok (.invokevirtual 399, 3) := by decide +kernel
theorem dX13_readsBar_4 : decode cX13_readsBar 4 = .ok (.aload_n 0, 1) := by decide +kernel
theorem dX13_readsBar_5 : decode cX13_readsBar 5 = .ok (.aload_n 0, 1) := by decide +kernel
theorem dX13_readsBar_6 : decode cX13_readsBar 6 = .ok (.getfield 71, 3) := by decide +kernel
theorem dX13_readsBar_9 : decode cX13_readsBar 9 = .ok (.aload_n 0, 1) := by decide +kernel
theorem dX13_readsBar_10 : decode cX13_readsBar 10 = .ok (.getfield 13, 3) := by decide +kernel
theorem dX13_readsBar_13 : decode cX13_readsBar 13 = .ok (.iconst 1, 1) := by decide +kernel
theorem dX13_readsBar_14 : decode cX13_readsBar 14 = .ok (.iaload, 1) := by decide +kernel
theorem dX13_readsBar_15 : decode cX13_readsBar 15 = .ok (.invokevirtual 437, 3) := by decide +kernel
theorem dX13_readsBar_18 : decode cX13_readsBar 18 = .ok (.istore_n 1, 1) := by decide +kernel
theorem dX13_readsBar_19 : decode cX13_readsBar 19 = .ok (.aload_n 0, 1) := by decide +kernel
theorem dX13_readsBar_20 : decode cX13_readsBar 20 = .ok (.invokevirtual 399, 3) := by decide +kernel
theorem dX13_readsBar_23 : decode cX13_readsBar 23 = .ok (.aload_n 0, 1) := by decide +kernel
theorem dX13_readsBar_24 : decode cX13_readsBar 24 = .ok (.aload_n 0, 1) := by decide +kernel
theorem dX13_readsBar_25 : decode cX13_readsBar 25 = .ok (.getfield 77, 3) := by decide +kernel
theorem dX13_readsBar_28 : decode cX13_readsBar 28 = .ok (.aload_n 0, 1) := by decide +kernel
theorem dX13_readsBar_29 : decode cX13_readsBar 29 = .ok (.getfield 13, 3) := by decide +kernel
theorem dX13_readsBar_32 : decode cX13_readsBar 32 = .ok (.iconst 3, 1) := by decide +kernel
theorem dX13_readsBar_33 : decode cX13_readsBar 33 = .ok (.iaload, 1) := by decide +kernel
theorem dX13_readsBar_34 : decode cX13_readsBar 34 = .ok (.invokevirtual 437, 3) := by decide +kernel
theorem dX13_readsBar_37 : decode cX13_readsBar 37 = .ok (.istore_n 2, 1) := by decide +kernel
theorem dX13_readsBar_38 : decode cX13_readsBar 38 = .ok (.aload_n 0, 1) := by decide +kernel
theorem dX13_readsBar_39 : decode cX13_readsBar 39 = .ok (.invokevirtual 379, 3) := by decide +kernel
theorem dX13_readsBar_42 : decode cX13_readsBar 42 = .ok (.ifCond .eq 29, 3) := by decide +kernel
theorem dX13_readsBar_45 : decode cX13_readsBar 45 = .ok (.aload_n 0, 1) := by decide +kernel
theorem dX13_readsBar_46 : decode cX13_readsBar 46 = .ok (.aload_n 0, 1) := by decide +kernel
theorem dX13_readsBar_47 : decode cX13_readsBar 47 = .ok (.getfield 19, 3) := by decide +kernel
theorem dX13_readsBar_50 : decode cX13_readsBar 50 = .ok (.bipush 34, 2) := by decide +kernel
theorem dX13_readsBar_52 : decode cX13_readsBar 52 = .ok (.iload_n 2, 1) := by decide +kernel
theorem dX13_readsBar_53 : decode cX13_readsBar 53 = .ok (.iadd, 1) := by decide +kernel
theorem dX13_readsBar_54 : decode cX13_readsBar 54 = .ok (.iaload, 1) := by decide +kernel
theorem dX13_readsBar_55 : decode cX13_readsBar 55 = .ok (.iload_n 1, 1) := by decide +kernel
theorem dX13_readsBar_56 : decode cX13_readsBar 56 = .ok (.invokestatic 167, 3) := by decide +kernel
theorem dX13_readsBar_59 : decode cX13_readsBar 59 = .ok (.ifCond .ne 7, 3) := by decide +kernel
theorem dX13_readsBar_62 : decode cX13_readsBar 62 = .ok (.iconst 1, 1) := by decide +kernel
theorem dX13_readsBar_63 : decode cX13_readsBar 63 = .ok (.goto 4, 3) := by decide +kernel
theorem dX13_readsBar_66 : decode cX13_readsBar 66 = .ok (.iconst 0, 1) := by decide +kernel
theorem dX13_readsBar_67 : decode cX13_readsBar 67 = .ok (.iconst 3, 1) := by decide +kernel
theorem dX13_readsBar_68 : decode cX13_readsBar 68 = .ok (.invokevirtual 392, 3) := by decide +kernel
theorem dX13_readsBar_71 : decode cX13_readsBar 71 = .ok (.aload_n 0, 1) := by decide +kernel
theorem dX13_readsBar_72 : decode cX13_readsBar 72 = .ok (.invokevirtual 399, 3) := by decide +kernel
theorem dX13_readsBar_75 : decode cX13_readsBar 75 = .ok (.aload_n 0, 1) := by decide +kernel
theorem dX13_readsBar_76 : decode cX13_readsBar 76 = .ok (.invokevirtual 379, 3) := by decide +kernel
theorem dX13_readsBar_79 : decode cX13_readsBar 79 = .ok (.ifCond .eq 25, 3) := by decide +kernel
theorem dX13_readsBar_82 : decode cX13_readsBar 82 = .ok (.aload_n 0, 1) := by decide +kernel
theorem dX13_readsBar_83 : decode cX13_readsBar 83 = .ok (.getfield 19, 3) := by decide +kernel
theorem dX13_readsBar_86 : decode cX13_readsBar 86 = .ok (.bipush 34, 2) := by decide +kernel
theorem dX13_readsBar_88 : decode cX13_readsBar 88 = .ok (.iload_n 2, 1) := by decide +kernel
theorem dX13_readsBar_89 : decode cX13_readsBar 89 = .ok (.iadd, 1) := by decide +kernel
theorem dX13_readsBar_90 : decode cX13_readsBar 90 = .ok (.aload_n 0, 1) := by decide +kernel
theorem dX13_readsBar_91 : decode cX13_readsBar 91 = .ok (.getfield 19, 3) := by decide +kernel
theorem dX13_readsBar_94 : decode cX13_readsBar 94 = .ok (.bipush 34, 2) := by decide +kernel
theorem dX13_readsBar_96 : decode cX13_readsBar 96 = .ok (.iload_n 2, 1) := by decide +kernel
theorem dX13_readsBar_97 : decode cX13_readsBar 97 = .ok (.iadd, 1) := by decide +kernel
theorem dX13_readsBar_98 : decode cX13_readsBar 98 = .ok (.iaload, 1) := by decide +kernel
theorem dX13_readsBar_99 : decode cX13_readsBar 99 = .ok (.iconst 1, 1) := by decide +kernel
theorem dX13_readsBar_100 : decode cX13_readsBar 100 = .ok (.iload_n 1, 1) := by decide +kernel
theorem dX13_readsBar_101 : decode cX13_readsBar 101 = .ok (.ishl, 1) := by decide +kernel
theorem dX13_readsBar_102 : decode cX13_readsBar 102 = .ok (.ior, 1) := by decide +kernel
theorem dX13_readsBar_103 : decode cX13_readsBar 103 = .ok (.iastore, 1) := by decide +kernel
theorem dX13_readsBar_104 : decode cX13_readsBar 104 = .ok (.return_, 1) := by decide +kernel
theorem hd_X13_readsBar : yX13_readsBar.cls = RX13 ∧ yX13_readsBar.cls ≠ "java/lang/invoke/MethodHandle" ∧ yX13_readsBar.cls ≠ "java/lang/invoke/VarHandle" ∧ (parseMethodDescriptor yX13_readsBar.desc).map (fun d => d.parameters.length) = some 0 := by decide +kernel
theorem hs_X13_readsBar : yX13_readsBar.cls ≠ "java/lang/invoke/MethodHandle" ∧ yX13_readsBar.cls ≠ "java/lang/invoke/VarHandle" ∧ (parseMethodDescriptor yX13_readsBar.desc).map (fun d => d.parameters.length) = some 0 := by decide +kernel
set_option maxHeartbeats 4000000 in
set_option maxRecDepth 100000 in
theorem k_X13_readsBar (l : Launch) (E : Ev) (K : Kd) (z : Nat) (o : Nat) (w : Wd) (ho : K o = some (11, 0)) {w' : Wd} (hf : f_X13_readsBar K o w = some w') : Met l yX13_readsBar (Cond.code yX13_readsBar cX13_readsBar 3 (Option.none : Option Jvm.ClassFile.FieldType) :: bt) ({ frames := 7, cells := 0, slots := 0, locals := 149 } : Room) (va_Pc [rv E (some o)] (HB E K w z)) (QV E K z w') 0 0 (hA E) := by
  refine Met.ofW (cc := cX13_readsBar) (maxL := 3) (ret := (Option.none : Option Jvm.ClassFile.FieldType)) (by decide) rfl ?_
  intro p e s m args below meth c s₁ B hml hv
  obtain ⟨rfl, hz, hP, hKs, hT, hb0⟩ := hv
  have C : CX p l e s m _ meth c cX13_readsBar 3 RX13 (Option.none : Option Jvm.ClassFile.FieldType) E := ⟨B.exec, B.bytes, hml, findClass_of_methodNamed B.named, fun w h => atoms_spec (ws := Cond.code yX13_readsBar cX13_readsBar 3 (Option.none : Option Jvm.ClassFile.FieldType) :: bt) B.pre w (List.mem_cons_of_mem _ h), hKs, hT, by rw [hz]; exact hb0, B.notSynchronized, B.returns⟩
  have hH : HQ E K z w s s.heap [] := ⟨hP, va_S.rf, hz⟩
  obtain ⟨hx, hb, hml, hown, hts, hKs, hT, hb0, hlocks, hret⟩ := id C
  have hl := lv_entry [rv E (some o)] (n := 3) (by simp [lg_len_nil, lg_len_i, lg_len_j, lg_len_q, lg_len_f, lg_len_d, lg_len_r])
  rw [lg_entry_eq]
  generalize (lg_sl [rv E (some o)] ++ List.replicate (3 - (lg_sl [rv E (some o)]).length) Slot.unset).toArray = ls at hl ⊢
  replace hl : lv_has ls 3 [(0, rv E (some o))] := by simpa only [lv_args, cat_q, cat_i, cat_j, reduceIte, Nat.reduceEqDiff, Nat.reduceAdd, Nat.zero_add] using hl
  generalize s.heap = H at hH ⊢
  unfold f_X13_readsBar at hf
  refine hl_aload_n hx hb dX13_readsBar_0 rfl (lv_at hl 0 rfl) ?_
  obtain ⟨q1, hq1, hf⟩ := bnd hf
  refine hcV_v hx hb hml hown hts hKs hT hb0 hH (As := []) (rest := []) (k_X13_goOn l E K H.size o w ho hq1) (gV m9_71 m9_73 ms_111 m1_16 m9_74) hd_X13_goOn ⟨Nat.le_of_ble_eq_true rfl, Nat.le_of_ble_eq_true rfl, rfl, rfl⟩ rfl ho rfl rfl rfl hl.1 rfl rc0 rfl dX13_readsBar_1 ⟨Nat.zero_le _, Nat.zero_le _⟩ (fun H locs hH => ?_)
  refine hl_aload_n hx hb dX13_readsBar_4 rfl (lv_at hl 0 rfl) ?_
  refine hl_aload_n hx hb dX13_readsBar_5 rfl (lv_at hl 0 rfl) ?_
  refine g13_34 hx hb hts hown hKs hH rfl ho m6_216 dX13_readsBar_6 ?_
  refine hl_aload_n hx hb dX13_readsBar_9 rfl (lv_at hl 0 rfl) ?_
  refine g13_2 hx hb hts hown hKs hH rfl ho m6_184 dX13_readsBar_10 ?_
  refine lv_iconst (v := 1) hx hb dX13_readsBar_13 (by decide) ?_
  obtain ⟨a2, ha2, hf⟩ := bnd hf
  replace ha2 := cha_some ha2
  obtain ⟨j3, hj3, hf⟩ := bnd hf
  refine hw_iald hx hb hKs hH ha2.1 ha2.2 hj3 dX13_readsBar_14 ?_
  obtain ⟨q4, hq4, hf⟩ := bnd hf
  refine hcV_i hx hb hml hown hts hKs hT hb0 hH (As := [rv E (wR q1 1334 o), .int ((aI q1 a2.1 j3))]) (rest := []) (k_X13_known l E K H.size o (wR q1 1334 o) (aI q1 a2.1 j3) q1 ho hq4) (gV m9_136 m9_138 ms_126 m1_16 m9_139) hd_X13_known ⟨Nat.le_of_ble_eq_true rfl, Nat.le_of_ble_eq_true rfl, rfl, rfl⟩ rfl ho rfl rfl rfl hl.1 rfl rc0 rfl dX13_readsBar_15 ⟨Nat.zero_le _, Nat.zero_le _⟩ (fun H locs hH => ?_)
  refine lv_istore_n (lv' := [(1, .int (q4.1)), (0, rv E (some o))]) hx hb dX13_readsBar_18 rfl hl (by decide) rfl (fun ls hl => ?_)
  refine hl_aload_n hx hb dX13_readsBar_19 rfl (lv_at hl 1 rfl) ?_
  obtain ⟨q5, hq5, hf⟩ := bnd hf
  refine hcV_v hx hb hml hown hts hKs hT hb0 hH (As := []) (rest := []) (k_X13_goOn l E K H.size o q4.2 ho hq5) (gV m9_71 m9_73 ms_111 m1_16 m9_74) hd_X13_goOn ⟨Nat.le_of_ble_eq_true rfl, Nat.le_of_ble_eq_true rfl, rfl, rfl⟩ rfl ho rfl rfl rfl hl.1 rfl rc0 rfl dX13_readsBar_20 ⟨Nat.zero_le _, Nat.zero_le _⟩ (fun H locs hH => ?_)
  refine hl_aload_n hx hb dX13_readsBar_23 rfl (lv_at hl 1 rfl) ?_
  refine hl_aload_n hx hb dX13_readsBar_24 rfl (lv_at hl 1 rfl) ?_
  refine g13_36 hx hb hts hown hKs hH rfl ho m6_218 dX13_readsBar_25 ?_
  refine hl_aload_n hx hb dX13_readsBar_28 rfl (lv_at hl 1 rfl) ?_
  refine g13_2 hx hb hts hown hKs hH rfl ho m6_184 dX13_readsBar_29 ?_
  refine lv_iconst (v := 3) hx hb dX13_readsBar_32 (by decide) ?_
  obtain ⟨a6, ha6, hf⟩ := bnd hf
  replace ha6 := cha_some ha6
  obtain ⟨j7, hj7, hf⟩ := bnd hf
  refine hw_iald hx hb hKs hH ha6.1 ha6.2 hj7 dX13_readsBar_33 ?_
  obtain ⟨q8, hq8, hf⟩ := bnd hf
  refine hcV_i hx hb hml hown hts hKs hT hb0 hH (As := [rv E (wR q5 1336 o), .int ((aI q5 a6.1 j7))]) (rest := []) (k_X13_known l E K H.size o (wR q5 1336 o) (aI q5 a6.1 j7) q5 ho hq8) (gV m9_136 m9_138 ms_126 m1_16 m9_139) hd_X13_known ⟨Nat.le_of_ble_eq_true rfl, Nat.le_of_ble_eq_true rfl, rfl, rfl⟩ rfl ho rfl rfl rfl hl.1 rfl rc0 rfl dX13_readsBar_34 ⟨Nat.zero_le _, Nat.zero_le _⟩ (fun H locs hH => ?_)
  refine lv_istore_n (lv' := [(2, .int (q8.1)), (1, .int (q4.1)), (0, rv E (some o))]) hx hb dX13_readsBar_37 rfl hl (by decide) rfl (fun ls hl => ?_)
  refine hl_aload_n hx hb dX13_readsBar_38 rfl (lv_at hl 2 rfl) ?_
  obtain ⟨q9, hq9, hf⟩ := bnd hf
  refine hcV_i hx hb hml hown hts hKs hT hb0 hH (As := []) (rest := []) (k_X13_fine l E K H.size o q8.2 ho hq9) (gV m9_47 m9_49 ms_105 m1_16 m9_50) hd_X13_fine ⟨Nat.le_of_ble_eq_true rfl, Nat.le_of_ble_eq_true rfl, rfl, rfl⟩ rfl ho rfl rfl rfl hl.1 rfl rc0 rfl dX13_readsBar_39 ⟨Nat.zero_le _, Nat.zero_le _⟩ (fun H locs hH => ?_)
  refine lv_if_eq (tgt := 71) hx hb dX13_readsBar_42 (by decide) (fun c10 => ?_) (fun c10 => ?_)
  · replace hf := (if_pos c10).symm.trans hf
    refine hl_aload_n hx hb dX13_readsBar_71 rfl (lv_at hl 2 rfl) ?_
    obtain ⟨q11, hq11, hf⟩ := bnd hf
    refine hcV_v hx hb hml hown hts hKs hT hb0 hH (As := []) (rest := []) (k_X13_goOn l E K H.size o q9.2 ho hq11) (gV m9_71 m9_73 ms_111 m1_16 m9_74) hd_X13_goOn ⟨Nat.le_of_ble_eq_true rfl, Nat.le_of_ble_eq_true rfl, rfl, rfl⟩ rfl ho rfl rfl rfl hl.1 rfl rc0 rfl dX13_readsBar_72 ⟨Nat.zero_le _, Nat.zero_le _⟩ (fun H locs hH => ?_)
    refine hl_aload_n hx hb dX13_readsBar_75 rfl (lv_at hl 2 rfl) ?_
    obtain ⟨q12, hq12, hf⟩ := bnd hf
    refine hcV_i hx hb hml hown hts hKs hT hb0 hH (As := []) (rest := []) (k_X13_fine l E K H.size o q11 ho hq12) (gV m9_47 m9_49 ms_105 m1_16 m9_50) hd_X13_fine ⟨Nat.le_of_ble_eq_true rfl, Nat.le_of_ble_eq_true rfl, rfl, rfl⟩ rfl ho rfl rfl rfl hl.1 rfl rc0 rfl dX13_readsBar_76 ⟨Nat.zero_le _, Nat.zero_le _⟩ (fun H locs hH => ?_)
    refine lv_if_eq (tgt := 104) hx hb dX13_readsBar_79 (by decide) (fun c13 => ?_) (fun c13 => ?_)
    · replace hf := (if_pos c13).symm.trans hf
      exact hw_vret hx hb hret hf hH hlocks dX13_readsBar_104
    · replace hf := (if_neg c13).symm.trans hf
      refine hl_aload_n hx hb dX13_readsBar_82 rfl (lv_at hl 2 rfl) ?_
      refine g13_4 hx hb hts hown hKs hH rfl ho m6_186 dX13_readsBar_83 ?_
      refine lv_bipush (v := 34) hx hb dX13_readsBar_86 (by decide) ?_
      refine lv_iload_n hx hb dX13_readsBar_88 rfl (lv_at hl 0 rfl) ?_
      refine lv_iadd hx hb dX13_readsBar_89 ?_
      refine hl_aload_n hx hb dX13_readsBar_90 rfl (lv_at hl 2 rfl) ?_
      refine g13_4 hx hb hts hown hKs hH rfl ho m6_186 dX13_readsBar_91 ?_
      refine lv_bipush (v := 34) hx hb dX13_readsBar_94 (by decide) ?_
      refine lv_iload_n hx hb dX13_readsBar_96 rfl (lv_at hl 0 rfl) ?_
      refine lv_iadd hx hb dX13_readsBar_97 ?_
      obtain ⟨a14, ha14, hf⟩ := bnd hf
      replace ha14 := cha_some ha14
      obtain ⟨j15, hj15, hf⟩ := bnd hf
      refine hw_iald hx hb hKs hH ha14.1 ha14.2 hj15 dX13_readsBar_98 ?_
      refine lv_iconst (v := 1) hx hb dX13_readsBar_99 (by decide) ?_
      refine lv_iload_n hx hb dX13_readsBar_100 rfl (lv_at hl 1 rfl) ?_
      refine lv_ishl hx hb dX13_readsBar_101 ?_
      refine lv_ior hx hb dX13_readsBar_102 ?_
      obtain ⟨j16, hj16, hf⟩ := bnd hf
      obtain ⟨w17, hw17, hf⟩ := bnd hf
      replace hw17 := Option.some.inj hw17
      refine hw_iast (x := ((aI q12.2 a14.1 j15) ||| (1 <<< (q4.1 &&& 31)))) hx hb hKs hH ha14.1 ha14.2 hj16 dX13_readsBar_103 (fun H locs hH => ?_)
      rw [hw17] at hH
      exact hw_vret hx hb hret hf hH hlocks dX13_readsBar_104
  · replace hf := (if_neg c10).symm.trans hf
    refine hl_aload_n hx hb dX13_readsBar_45 rfl (lv_at hl 2 rfl) ?_
    refine hl_aload_n hx hb dX13_readsBar_46 rfl (lv_at hl 2 rfl) ?_
    refine g13_4 hx hb hts hown hKs hH rfl ho m6_186 dX13_readsBar_47 ?_
    refine lv_bipush (v := 34) hx hb dX13_readsBar_50 (by decide) ?_
    refine lv_iload_n hx hb dX13_readsBar_52 rfl (lv_at hl 0 rfl) ?_
    refine lv_iadd hx hb dX13_readsBar_53 ?_
    obtain ⟨a18, ha18, hf⟩ := bnd hf
    replace ha18 := cha_some ha18
    obtain ⟨j19, hj19, hf⟩ := bnd hf
    refine hw_iald hx hb hKs hH ha18.1 ha18.2 hj19 dX13_readsBar_54 ?_
    refine lv_iload_n hx hb dX13_readsBar_55 rfl (lv_at hl 1 rfl) ?_
    obtain ⟨q20, hq20, hf⟩ := bnd hf
    refine hcS_i hx hb hml hown hts hKs hT hb0 hH (As := [.int ((aI q9.2 a18.1 j19)), .int (q4.1)]) (rest := [rv E (some o)]) (k_X13_has l E K H.size (aI q9.2 a18.1 j19) q4.1 q9.2 hq20) (gS m7_224 m7_225 m1_16 m7_226) hs_X13_has ⟨Nat.le_of_ble_eq_true rfl, Nat.le_of_ble_eq_true rfl, rfl, rfl⟩ hl.1 rfl (rcV rc0) rfl dX13_readsBar_56 ⟨Nat.zero_le _, Nat.zero_le _⟩ (fun H locs hH => ?_)
    refine lv_if_ne (tgt := 66) hx hb dX13_readsBar_59 (by decide) (fun c21 => ?_) (fun c21 => ?_)
    · replace hf := (if_neg c21).symm.trans hf
      refine lv_iconst (v := 0) hx hb dX13_readsBar_66 (by decide) ?_
      refine lv_iconst (v := 3) hx hb dX13_readsBar_67 (by decide) ?_
      obtain ⟨q22, hq22, hf⟩ := bnd hf
      refine hcV_v hx hb hml hown hts hKs hT hb0 hH (As := [.int 0, .int 3]) (rest := []) (k_X13_needs l E K H.size o false 3 q20.2 ho hq22) (gV m9_67 m9_69 ms_110 m1_16 m9_70) hd_X13_needs ⟨Nat.le_of_ble_eq_true rfl, Nat.le_of_ble_eq_true rfl, rfl, rfl⟩ rfl ho rfl rfl rfl hl.1 rfl rc0 rfl dX13_readsBar_68 ⟨Nat.zero_le _, Nat.zero_le _⟩ (fun H locs hH => ?_)
      refine hl_aload_n hx hb dX13_readsBar_71 rfl (lv_at hl 2 rfl) ?_
      obtain ⟨q23, hq23, hf⟩ := bnd hf
      refine hcV_v hx hb hml hown hts hKs hT hb0 hH (As := []) (rest := []) (k_X13_goOn l E K H.size o q22 ho hq23) (gV m9_71 m9_73 ms_111 m1_16 m9_74) hd_X13_goOn ⟨Nat.le_of_ble_eq_true rfl, Nat.le_of_ble_eq_true rfl, rfl, rfl⟩ rfl ho rfl rfl rfl hl.1 rfl rc0 rfl dX13_readsBar_72 ⟨Nat.zero_le _, Nat.zero_le _⟩ (fun H locs hH => ?_)
      refine hl_aload_n hx hb dX13_readsBar_75 rfl (lv_at hl 2 rfl) ?_
      obtain ⟨q24, hq24, hf⟩ := bnd hf
      refine hcV_i hx hb hml hown hts hKs hT hb0 hH (As := []) (rest := []) (k_X13_fine l E K H.size o q23 ho hq24) (gV m9_47 m9_49 ms_105 m1_16 m9_50) hd_X13_fine ⟨Nat.le_of_ble_eq_true rfl, Nat.le_of_ble_eq_true rfl, rfl, rfl⟩ rfl ho rfl rfl rfl hl.1 rfl rc0 rfl dX13_readsBar_76 ⟨Nat.zero_le _, Nat.zero_le _⟩ (fun H locs hH => ?_)
      refine lv_if_eq (tgt := 104) hx hb dX13_readsBar_79 (by decide) (fun c25 => ?_) (fun c25 => ?_)
      · replace hf := (if_pos c25).symm.trans hf
        exact hw_vret hx hb hret hf hH hlocks dX13_readsBar_104
      · replace hf := (if_neg c25).symm.trans hf
        refine hl_aload_n hx hb dX13_readsBar_82 rfl (lv_at hl 2 rfl) ?_
        refine g13_4 hx hb hts hown hKs hH rfl ho m6_186 dX13_readsBar_83 ?_
        refine lv_bipush (v := 34) hx hb dX13_readsBar_86 (by decide) ?_
        refine lv_iload_n hx hb dX13_readsBar_88 rfl (lv_at hl 0 rfl) ?_
        refine lv_iadd hx hb dX13_readsBar_89 ?_
        refine hl_aload_n hx hb dX13_readsBar_90 rfl (lv_at hl 2 rfl) ?_
        refine g13_4 hx hb hts hown hKs hH rfl ho m6_186 dX13_readsBar_91 ?_
        refine lv_bipush (v := 34) hx hb dX13_readsBar_94 (by decide) ?_
        refine lv_iload_n hx hb dX13_readsBar_96 rfl (lv_at hl 0 rfl) ?_
        refine lv_iadd hx hb dX13_readsBar_97 ?_
        obtain ⟨a26, ha26, hf⟩ := bnd hf
        replace ha26 := cha_some ha26
        obtain ⟨j27, hj27, hf⟩ := bnd hf
        refine hw_iald hx hb hKs hH ha26.1 ha26.2 hj27 dX13_readsBar_98 ?_
        refine lv_iconst (v := 1) hx hb dX13_readsBar_99 (by decide) ?_
        refine lv_iload_n hx hb dX13_readsBar_100 rfl (lv_at hl 1 rfl) ?_
        refine lv_ishl hx hb dX13_readsBar_101 ?_
        refine lv_ior hx hb dX13_readsBar_102 ?_
        obtain ⟨j28, hj28, hf⟩ := bnd hf
        obtain ⟨w29, hw29, hf⟩ := bnd hf
        replace hw29 := Option.some.inj hw29
        refine hw_iast (x := ((aI q24.2 a26.1 j27) ||| (1 <<< (q4.1 &&& 31)))) hx hb hKs hH ha26.1 ha26.2 hj28 dX13_readsBar_103 (fun H locs hH => ?_)
        rw [hw29] at hH
        exact hw_vret hx hb hret hf hH hlocks dX13_readsBar_104
    · replace hf := (if_pos c21).symm.trans hf
      refine lv_iconst (v := 1) hx hb dX13_readsBar_62 (by decide) ?_
      refine lv_goto (tgt := 67) hx hb dX13_readsBar_63 (by decide) ?_
      refine lv_iconst (v := 3) hx hb dX13_readsBar_67 (by decide) ?_
      obtain ⟨q30, hq30, hf⟩ := bnd hf
      refine hcV_v hx hb hml hown hts hKs hT hb0 hH (As := [.int 1, .int 3]) (rest := []) (k_X13_needs l E K H.size o true 3 q20.2 ho hq30) (gV m9_67 m9_69 ms_110 m1_16 m9_70) hd_X13_needs ⟨Nat.le_of_ble_eq_true rfl, Nat.le_of_ble_eq_true rfl, rfl, rfl⟩ rfl ho rfl rfl rfl hl.1 rfl rc0 rfl dX13_readsBar_68 ⟨Nat.zero_le _, Nat.zero_le _⟩ (fun H locs hH => ?_)
      refine hl_aload_n hx hb dX13_readsBar_71 rfl (lv_at hl 2 rfl) ?_
      obtain ⟨q31, hq31, hf⟩ := bnd hf
      refine hcV_v hx hb hml hown hts hKs hT hb0 hH (As := []) (rest := []) (k_X13_goOn l E K H.size o q30 ho hq31) (gV m9_71 m9_73 ms_111 m1_16 m9_74) hd_X13_goOn ⟨Nat.le_of_ble_eq_true rfl, Nat.le_of_ble_eq_true rfl, rfl, rfl⟩ rfl ho rfl rfl rfl hl.1 rfl rc0 rfl dX13_readsBar_72 ⟨Nat.zero_le _, Nat.zero_le _⟩ (fun H locs hH => ?_)
      refine hl_aload_n hx hb dX13_readsBar_75 rfl (lv_at hl 2 rfl) ?_
      obtain ⟨q32, hq32, hf⟩ := bnd hf
      refine hcV_i hx hb hml hown hts hKs hT hb0 hH (As := []) (rest := []) (k_X13_fine l E K H.size o q31 ho hq32) (gV m9_47 m9_49 ms_105 m1_16 m9_50) hd_X13_fine ⟨Nat.le_of_ble_eq_true rfl, Nat.le_of_ble_eq_true rfl, rfl, rfl⟩ rfl ho rfl rfl rfl hl.1 rfl rc0 rfl dX13_readsBar_76 ⟨Nat.zero_le _, Nat.zero_le _⟩ (fun H locs hH => ?_)
      refine lv_if_eq (tgt := 104) hx hb dX13_readsBar_79 (by decide) (fun c33 => ?_) (fun c33 => ?_)
      · replace hf := (if_pos c33).symm.trans hf
        exact hw_vret hx hb hret hf hH hlocks dX13_readsBar_104
      · replace hf := (if_neg c33).symm.trans hf
        refine hl_aload_n hx hb dX13_readsBar_82 rfl (lv_at hl 2 rfl) ?_
        refine g13_4 hx hb hts hown hKs hH rfl ho m6_186 dX13_readsBar_83 ?_
        refine lv_bipush (v := 34) hx hb dX13_readsBar_86 (by decide) ?_
        refine lv_iload_n hx hb dX13_readsBar_88 rfl (lv_at hl 0 rfl) ?_
        refine lv_iadd hx hb dX13_readsBar_89 ?_
        refine hl_aload_n hx hb dX13_readsBar_90 rfl (lv_at hl 2 rfl) ?_
        refine g13_4 hx hb hts hown hKs hH rfl ho m6_186 dX13_readsBar_91 ?_
        refine lv_bipush (v := 34) hx hb dX13_readsBar_94 (by decide) ?_
        refine lv_iload_n hx hb dX13_readsBar_96 rfl (lv_at hl 0 rfl) ?_
        refine lv_iadd hx hb dX13_readsBar_97 ?_
        obtain ⟨a34, ha34, hf⟩ := bnd hf
        replace ha34 := cha_some ha34
        obtain ⟨j35, hj35, hf⟩ := bnd hf
        refine hw_iald hx hb hKs hH ha34.1 ha34.2 hj35 dX13_readsBar_98 ?_
        refine lv_iconst (v := 1) hx hb dX13_readsBar_99 (by decide) ?_
        refine lv_iload_n hx hb dX13_readsBar_100 rfl (lv_at hl 1 rfl) ?_
        refine lv_ishl hx hb dX13_readsBar_101 ?_
        refine lv_ior hx hb dX13_readsBar_102 ?_
        obtain ⟨j36, hj36, hf⟩ := bnd hf
        obtain ⟨w37, hw37, hf⟩ := bnd hf
        replace hw37 := Option.some.inj hw37
        refine hw_iast (x := ((aI q32.2 a34.1 j35) ||| (1 <<< (q4.1 &&& 31)))) hx hb hKs hH ha34.1 ha34.2 hj36 dX13_readsBar_103 (fun H locs hH => ?_)
        rw [hw37] at hH
        exact hw_vret hx hb hret hf hH hlocks dX13_readsBar_104

theorem dX13_readsConflict_0 : decode cX13_readsConflict 0 = .ok (.aload_n 0, 1) := by decide +kernel
theorem dX13_readsConflict_1 : decode cX13_readsConflict 1 = .ok (.invokevirtual 399, 3) := by decide +kernel
theorem dX13_readsConflict_4 : decode cX13_readsConflict 4 = .ok (.aload_n 0, 1) := by decide +kernel
theorem dX13_readsConflict_5 : decode cX13_readsConflict 5 = .ok (.aload_n 0, 1) := by decide +kernel
theorem dX13_readsConflict_6 : decode cX13_readsConflict 6 = .ok (.getfield 77, 3) := by decide +kernel
theorem dX13_readsConflict_9 : decode cX13_readsConflict 9 = .ok (.aload_n 0, 1) := by decide +kernel
theorem dX13_readsConflict_10 : decode cX13_readsConflict 10 = .ok (.getfield 13, 3) := by decide +kernel
theorem dX13_readsConflict_13 : decode cX13_readsConflict 13 = .ok (.iconst 3, 1) := by decide +kernel
theorem dX13_readsConflict_14 : decode cX13_readsConflict 14 = .ok (.iaload, 1) := by decide +kernel
theorem dX13_readsConflict_15 : decode cX13_readsConflict 15 = .ok (.invokevirtual 437, 3) := by decide +kernel
theorem dX13_readsConflict_18 : decode cX13_readsConflict 18 = .ok (.istore_n 1, 1) := by decide +kernel
theorem dX13_readsConflict_19 : decode cX13_readsConflict 19 = .ok (.aload_n 0, 1) := by decide +kernel
theorem dX13_readsConflict_20 : decode cX13_readsConflict 20 = .ok (.invokevirtual 399, 3) := by decide +kernel
theorem dX13_readsConflict_23 : decode cX13_readsConflict 23 = .ok (.aload_n 0, 1) := by decide +kernel
theorem dX13_readsConflict_24 : decode cX13_readsConflict 24 = .ok (.aload_n 0, 1) := by decide +kernel
theorem dX13_readsConflict_25 : decode cX13_readsConflict 25 = .ok (.getfield 77, 3) := by decide +kernel
theorem dX13_readsConflict_28 : decode cX13_readsConflict 28 = .ok (.aload_n 0, 1) := by decide +kernel
theorem dX13_readsConflict_29 : decode cX13_readsConflict 29 = .ok (.getfield 13, 3) := by decide +kernel
theorem dX13_readsConflict_32 : decode cX13_readsConflict 32 = .ok (.iconst 3, 1) := by decide +kernel
theorem dX13_readsConflict_33 : decode cX13_readsConflict 33 = .ok (.iaload, 1) := by decide +kernel
theorem dX13_readsConflict_34 : decode cX13_readsConflict 34 = .ok (.invokevirtual 437, 3) := by decide +kernel
theorem dX13_readsConflict_37 : decode cX13_readsConflict 37 = .ok (.istore_n 2, 1) := by decide +kernel
theorem dX13_readsConflict_38 : decode cX13_readsConflict 38 = .ok (.aload_n 0, 1) := by decide +kernel
theorem dX13_readsConflict_39 : decode cX13_readsConflict 39 = .ok (.invokevirtual 379, 3) := by decide +kernel
theorem dX13_readsConflict_42 : decode cX13_readsConflict 42 = .ok (.ifCond .eq 35, 3) := by decide +kernel
theorem dX13_readsConflict_45 : decode cX13_readsConflict 45 = .ok (.aload_n 0, 1) := by decide +kernel
theorem dX13_readsConflict_46 : decode cX13_readsConflict 46 = .ok (.iload_n 1, 1) := by decide +kernel
theorem dX13_readsConflict_47 : decode cX13_readsConflict 47 = .ok (.iload_n 2, 1) := by decide +kernel
theorem dX13_readsConflict_48 : decode cX13_readsConflict 48 = .ok (.if_icmp .eq 24, 3) := by decide +kernel
theorem dX13_readsConflict_51 : decode cX13_readsConflict 51 = .ok (.aload_n 0, 1) := by decide +kernel
theorem dX13_readsConflict_52 : decode cX13_readsConflict 52 = .ok (.getfield 13, 3) := by decide +kernel
theorem dX13_readsConflict_55 : decode cX13_readsConflict 55 = .ok (.sipush 148, 3) := by decide +kernel
theorem dX13_readsConflict_58 : decode cX13_readsConflict 58 = .ok (.iload_n 1, 1) := by decide +kernel
theorem dX13_readsConflict_59 : decode cX13_readsConflict 59 = .ok (.iadd, 1) := by decide +kernel
theorem dX13_readsConflict_60 : decode cX13_readsConflict 60 = .ok (.iaload, 1) := by decide +kernel
theorem dX13_readsConflict_61 : decode cX13_readsConflict 61 = .ok (.iload_n 2, 1) := by decide +kernel
theorem dX13_readsConflict_62 : decode cX13_readsConflict 62 = .ok (.invokestatic 167, 3) := by decide +kernel
theorem dX13_readsConflict_65 : decode cX13_readsConflict 65 = .ok (.ifCond .ne 7, 3) := by decide +kernel
theorem dX13_readsConflict_68 : decode cX13_readsConflict 68 = .ok (.iconst 1, 1) := by decide +kernel
theorem dX13_readsConflict_69 : decode cX13_readsConflict 69 = .ok (.goto 4, 3) := by decide +kernel
theorem dX13_readsConflict_72 : decode cX13_readsConflict 72 = .ok (.iconst 0, 1) := by decide +kernel
theorem dX13_readsConflict_73 : decode cX13_readsConflict 73 = .ok (.iconst 3, 1) := by decide +kernel
theorem dX13_readsConflict_74 : decode cX13_readsConflict 74 = .ok (.invokevirtual 392, 3) := by decide +kernel
theorem dX13_readsConflict_77 : decode cX13_readsConflict 77 = .ok (.aload_n 0, 1) := by decide +kernel
theorem dX13_readsConflict_78 : decode cX13_readsConflict 78 = .ok (.invokevirtual 399, 3) := by decide +kernel
theorem dX13_readsConflict_81 : decode cX13_readsConflict 81 = .ok (.aload_n 0, 1) := by decide +kernel
theorem dX13_readsConflict_82 : decode cX13_readsConflict 82 = .ok (.invokevirtual 379, 3) := by decide +kernel
theorem dX13_readsConflict_85 : decode cX13_readsConflict 85 = .ok (.ifCond .ne 4, 3) := by decide +kernel
theorem dX13_readsConflict_88 : decode cX13_readsConflict 88 = .ok (.return_, 1) := by decide +kernel
theorem dX13_readsConflict_89 : decode cX13_readsConflict 89 = .ok (.aload_n 0, 1) := by decide +kernel
theorem dX13_readsConflict_90 : decode cX13_readsConflict 90 = .ok (.getfield 13, 3) := by decide +kernel
theorem dX13_readsConflict_93 : decode cX13_readsConflict 93 = .ok (.sipush 148, 3) := by decide +kernel
theorem dX13_readsConflict_96 : decode cX13_readsConflict 96 = .ok (.iload_n 1, 1) := by decide +kernel
theorem dX13_readsConflict_97 : decode cX13_readsConflict 97 = .ok (.iadd, 1) := by decide +kernel
theorem dX13_readsConflict_98 : decode cX13_readsConflict 98 = .ok (.aload_n 0, 1) := by decide +kernel
theorem dX13_readsConflict_99 : decode cX13_readsConflict 99 = .ok (.getfield 13, 3) := by decide +kernel
theorem dX13_readsConflict_102 : decode cX13_readsConflict 102 = .ok (.sipush 148, 3) := by decide +kernel
theorem dX13_readsConflict_105 : decode cX13_readsConflict 105 = .ok (.iload_n 1, 1) := by decide +kernel
theorem dX13_readsConflict_106 : decode cX13_readsConflict 106 = .ok (.iadd, 1) := by decide +kernel
theorem dX13_readsConflict_107 : decode cX13_readsConflict 107 = .ok (.iaload, 1) := by decide +kernel
theorem dX13_readsConflict_108 : decode cX13_readsConflict 108 = .ok (.iconst 1, 1) := by decide +kernel
theorem dX13_readsConflict_109 : decode cX13_readsConflict 109 = .ok (.iload_n 2, 1) := by decide +kernel
theorem dX13_readsConflict_110 : decode cX13_readsConflict 110 = .ok (.ishl, 1) := by decide +kernel
theorem dX13_readsConflict_111 : decode cX13_readsConflict 111 = .ok (.ior, 1) := by decide +kernel
theorem dX13_readsConflict_112 : decode cX13_readsConflict 112 = .ok (.iastore, 1) := by decide +kernel
theorem dX13_readsConflict_113 : decode cX13_readsConflict 113 = .ok (.aload_n 0, 1) := by decide +kernel
theorem dX13_readsConflict_114 : decode cX13_readsConflict 114 = .ok (.getfield 13, 3) := by decide +kernel
theorem dX13_readsConflict_117 : decode cX13_readsConflict 117 = .ok (.sipush 148, 3) := by decide +kernel
theorem dX13_readsConflict_120 : decode cX13_readsConflict 120 = .ok (.iload_n 2, 1) := by decide +kernel
theorem dX13_readsConflict_121 : decode cX13_readsConflict 121 = .ok (.iadd, 1) := by decide +kernel
theorem dX13_readsConflict_122 : decode cX13_readsConflict 122 = .ok (.aload_n 0, 1) := by decide +kernel
theorem dX13_readsConflict_123 : decode cX13_readsConflict 123 = .ok (.getfield 13, 3) := by decide +kernel
theorem dX13_readsConflict_126 : decode cX13_readsConflict 126 = .ok (.sipush 148, 3) := by decide +kernel
theorem dX13_readsConflict_129 : decode cX13_readsConflict 129 = .ok (.iload_n 2, 1) := by decide +kernel
theorem dX13_readsConflict_130 : decode cX13_readsConflict 130 = .ok (.iadd, 1) := by decide +kernel
theorem dX13_readsConflict_131 : decode cX13_readsConflict 131 = .ok (.iaload, 1) := by decide +kernel
theorem dX13_readsConflict_132 : decode cX13_readsConflict 132 = .ok (.iconst 1, 1) := by decide +kernel
theorem dX13_readsConflict_133 : decode cX13_readsConflict 133 = .ok (.iload_n 1, 1) := by decide +kernel
theorem dX13_readsConflict_134 : decode cX13_readsConflict 134 = .ok (.ishl, 1) := by decide +kernel
theorem dX13_readsConflict_135 : decode cX13_readsConflict 135 = .ok (.ior, 1) := by decide +kernel
theorem dX13_readsConflict_136 : decode cX13_readsConflict 136 = .ok (.iastore, 1) := by decide +kernel
theorem dX13_readsConflict_137 : decode cX13_readsConflict 137 = .ok (.return_, 1) := by decide +kernel
theorem hd_X13_readsConflict : yX13_readsConflict.cls = RX13 ∧ yX13_readsConflict.cls ≠ "java/lang/invoke/MethodHandle" ∧ yX13_readsConflict.cls ≠ "java/lang/invoke/VarHandle" ∧ (parseMethodDescriptor yX13_readsConflict.desc).map (fun d => d.parameters.length) = some 0 := by decide +kernel
theorem hs_X13_readsConflict : yX13_readsConflict.cls ≠ "java/lang/invoke/MethodHandle" ∧ yX13_readsConflict.cls ≠ "java/lang/invoke/VarHandle" ∧ (parseMethodDescriptor yX13_readsConflict.desc).map (fun d => d.parameters.length) = some 0 := by decide +kernel
set_option maxHeartbeats 4000000 in
set_option maxRecDepth 100000 in
theorem k_X13_readsConflict (l : Launch) (E : Ev) (K : Kd) (z : Nat) (o : Nat) (w : Wd) (ho : K o = some (11, 0)) {w' : Wd} (hf : f_X13_readsConflict K o w = some w') : Met l yX13_readsConflict (Cond.code yX13_readsConflict cX13_readsConflict 3 (Option.none : Option Jvm.ClassFile.FieldType) :: bt) ({ frames := 7, cells := 0, slots := 0, locals := 149 } : Room) (va_Pc [rv E (some o)] (HB E K w z)) (QV E K z w') 0 0 (hA E) := by
  refine Met.ofW (cc := cX13_readsConflict) (maxL := 3) (ret := (Option.none : Option Jvm.ClassFile.FieldType)) (by decide) rfl ?_
  intro p e s m args below meth c s₁ B hml hv
  obtain ⟨rfl, hz, hP, hKs, hT, hb0⟩ := hv
  have C : CX p l e s m _ meth c cX13_readsConflict 3 RX13 (Option.none : Option Jvm.ClassFile.FieldType) E := ⟨B.exec, B.bytes, hml, findClass_of_methodNamed B.named, fun w h => atoms_spec (ws := Cond.code yX13_readsConflict cX13_readsConflict 3 (Option.none : Option Jvm.ClassFile.FieldType) :: bt) B.pre w (List.mem_cons_of_mem _ h), hKs, hT, by rw [hz]; exact hb0, B.notSynchronized, B.returns⟩
  have hH : HQ E K z w s s.heap [] := ⟨hP, va_S.rf, hz⟩
  obtain ⟨hx, hb, hml, hown, hts, hKs, hT, hb0, hlocks, hret⟩ := id C
  have hl := lv_entry [rv E (some o)] (n := 3) (by simp [lg_len_nil, lg_len_i, lg_len_j, lg_len_q, lg_len_f, lg_len_d, lg_len_r])
  rw [lg_entry_eq]
  generalize (lg_sl [rv E (some o)] ++ List.replicate (3 - (lg_sl [rv E (some o)]).length) Slot.unset).toArray = ls at hl ⊢
  replace hl : lv_has ls 3 [(0, rv E (some o))] := by simpa only [lv_args, cat_q, cat_i, cat_j, reduceIte, Nat.reduceEqDiff, Nat.reduceAdd, Nat.zero_add] using hl
  generalize s.heap = H at hH ⊢
  unfold f_X13_readsConflict at hf
  refine hl_aload_n hx hb dX13_readsConflict_0 rfl (lv_at hl 0 rfl) ?_
  obtain ⟨q1, hq1, hf⟩ := bnd hf
  refine hcV_v hx hb hml hown hts hKs hT hb0 hH (As := []) (rest := []) (k_X13_goOn l E K H.size o w ho hq1) (gV m9_71 m9_73 ms_111 m1_16 m9_74) hd_X13_goOn ⟨Nat.le_of_ble_eq_true rfl, Nat.le_of_ble_eq_true rfl, rfl, rfl⟩ rfl ho rfl rfl rfl hl.1 rfl rc0 rfl dX13_readsConflict_1 ⟨Nat.zero_le _, Nat.zero_le _⟩ (fun H locs hH => ?_)
  refine hl_aload_n hx hb dX13_readsConflict_4 rfl (lv_at hl 0 rfl) ?_
  refine hl_aload_n hx hb dX13_readsConflict_5 rfl (lv_at hl 0 rfl) ?_
  refine g13_36 hx hb hts hown hKs hH rfl ho m6_218 dX13_readsConflict_6 ?_
  refine hl_aload_n hx hb dX13_readsConflict_9 rfl (lv_at hl 0 rfl) ?_
  refine g13_2 hx hb hts hown hKs hH rfl ho m6_184 dX13_readsConflict_10 ?_
  refine lv_iconst (v := 3) hx hb dX13_readsConflict_13 (by decide) ?_
  obtain ⟨a2, ha2, hf⟩ := bnd hf
  replace ha2 := cha_some ha2
  obtain ⟨j3, hj3, hf⟩ := bnd hf
  refine hw_iald hx hb hKs hH ha2.1 ha2.2 hj3 dX13_readsConflict_14 ?_
  obtain ⟨q4, hq4, hf⟩ := bnd hf
  refine hcV_i hx hb hml hown hts hKs hT hb0 hH (As := [rv E (wR q1 1336 o), .int ((aI q1 a2.1 j3))]) (rest := []) (k_X13_known l E K H.size o (wR q1 1336 o) (aI q1 a2.1 j3) q1 ho hq4) (gV m9_136 m9_138 ms_126 m1_16 m9_139) hd_X13_known ⟨Nat.le_of_ble_eq_true rfl, Nat.le_of_ble_eq_true rfl, rfl, rfl⟩ rfl ho rfl rfl rfl hl.1 rfl rc0 rfl dX13_readsConflict_15 ⟨Nat.zero_le _, Nat.zero_le _⟩ (fun H locs hH => ?_)
  refine lv_istore_n (lv' := [(1, .int (q4.1)), (0, rv E (some o))]) hx hb dX13_readsConflict_18 rfl hl (by decide) rfl (fun ls hl => ?_)
  refine hl_aload_n hx hb dX13_readsConflict_19 rfl (lv_at hl 1 rfl) ?_
  obtain ⟨q5, hq5, hf⟩ := bnd hf
  refine hcV_v hx hb hml hown hts hKs hT hb0 hH (As := []) (rest := []) (k_X13_goOn l E K H.size o q4.2 ho hq5) (gV m9_71 m9_73 ms_111 m1_16 m9_74) hd_X13_goOn ⟨Nat.le_of_ble_eq_true rfl, Nat.le_of_ble_eq_true rfl, rfl, rfl⟩ rfl ho rfl rfl rfl hl.1 rfl rc0 rfl dX13_readsConflict_20 ⟨Nat.zero_le _, Nat.zero_le _⟩ (fun H locs hH => ?_)
  refine hl_aload_n hx hb dX13_readsConflict_23 rfl (lv_at hl 1 rfl) ?_
  refine hl_aload_n hx hb dX13_readsConflict_24 rfl (lv_at hl 1 rfl) ?_
  refine g13_36 hx hb hts hown hKs hH rfl ho m6_218 dX13_readsConflict_25 ?_
  refine hl_aload_n hx hb dX13_readsConflict_28 rfl (lv_at hl 1 rfl) ?_
  refine g13_2 hx hb hts hown hKs hH rfl ho m6_184 dX13_readsConflict_29 ?_
  refine lv_iconst (v := 3) hx hb dX13_readsConflict_32 (by decide) ?_
  obtain ⟨a6, ha6, hf⟩ := bnd hf
  replace ha6 := cha_some ha6
  obtain ⟨j7, hj7, hf⟩ := bnd hf
  refine hw_iald hx hb hKs hH ha6.1 ha6.2 hj7 dX13_readsConflict_33 ?_
  obtain ⟨q8, hq8, hf⟩ := bnd hf
  refine hcV_i hx hb hml hown hts hKs hT hb0 hH (As := [rv E (wR q5 1336 o), .int ((aI q5 a6.1 j7))]) (rest := []) (k_X13_known l E K H.size o (wR q5 1336 o) (aI q5 a6.1 j7) q5 ho hq8) (gV m9_136 m9_138 ms_126 m1_16 m9_139) hd_X13_known ⟨Nat.le_of_ble_eq_true rfl, Nat.le_of_ble_eq_true rfl, rfl, rfl⟩ rfl ho rfl rfl rfl hl.1 rfl rc0 rfl dX13_readsConflict_34 ⟨Nat.zero_le _, Nat.zero_le _⟩ (fun H locs hH => ?_)
  refine lv_istore_n (lv' := [(2, .int (q8.1)), (1, .int (q4.1)), (0, rv E (some o))]) hx hb dX13_readsConflict_37 rfl hl (by decide) rfl (fun ls hl => ?_)
  refine hl_aload_n hx hb dX13_readsConflict_38 rfl (lv_at hl 2 rfl) ?_
  obtain ⟨q9, hq9, hf⟩ := bnd hf
  refine hcV_i hx hb hml hown hts hKs hT hb0 hH (As := []) (rest := []) (k_X13_fine l E K H.size o q8.2 ho hq9) (gV m9_47 m9_49 ms_105 m1_16 m9_50) hd_X13_fine ⟨Nat.le_of_ble_eq_true rfl, Nat.le_of_ble_eq_true rfl, rfl, rfl⟩ rfl ho rfl rfl rfl hl.1 rfl rc0 rfl dX13_readsConflict_39 ⟨Nat.zero_le _, Nat.zero_le _⟩ (fun H locs hH => ?_)
  refine lv_if_eq (tgt := 77) hx hb dX13_readsConflict_42 (by decide) (fun c10 => ?_) (fun c10 => ?_)
  · replace hf := (if_pos c10).symm.trans hf
    refine hl_aload_n hx hb dX13_readsConflict_77 rfl (lv_at hl 2 rfl) ?_
    obtain ⟨q11, hq11, hf⟩ := bnd hf
    refine hcV_v hx hb hml hown hts hKs hT hb0 hH (As := []) (rest := []) (k_X13_goOn l E K H.size o q9.2 ho hq11) (gV m9_71 m9_73 ms_111 m1_16 m9_74) hd_X13_goOn ⟨Nat.le_of_ble_eq_true rfl, Nat.le_of_ble_eq_true rfl, rfl, rfl⟩ rfl ho rfl rfl rfl hl.1 rfl rc0 rfl dX13_readsConflict_78 ⟨Nat.zero_le _, Nat.zero_le _⟩ (fun H locs hH => ?_)
    refine hl_aload_n hx hb dX13_readsConflict_81 rfl (lv_at hl 2 rfl) ?_
    obtain ⟨q12, hq12, hf⟩ := bnd hf
    refine hcV_i hx hb hml hown hts hKs hT hb0 hH (As := []) (rest := []) (k_X13_fine l E K H.size o q11 ho hq12) (gV m9_47 m9_49 ms_105 m1_16 m9_50) hd_X13_fine ⟨Nat.le_of_ble_eq_true rfl, Nat.le_of_ble_eq_true rfl, rfl, rfl⟩ rfl ho rfl rfl rfl hl.1 rfl rc0 rfl dX13_readsConflict_82 ⟨Nat.zero_le _, Nat.zero_le _⟩ (fun H locs hH => ?_)
    refine lv_if_ne (tgt := 89) hx hb dX13_readsConflict_85 (by decide) (fun c13 => ?_) (fun c13 => ?_)
    · replace hf := (if_neg c13).symm.trans hf
      refine hl_aload_n hx hb dX13_readsConflict_89 rfl (lv_at hl 2 rfl) ?_
      refine g13_2 hx hb hts hown hKs hH rfl ho m6_184 dX13_readsConflict_90 ?_
      refine lv_sipush (v := 148) hx hb dX13_readsConflict_93 (by decide) ?_
      refine lv_iload_n hx hb dX13_readsConflict_96 rfl (lv_at hl 1 rfl) ?_
      refine lv_iadd hx hb dX13_readsConflict_97 ?_
      refine hl_aload_n hx hb dX13_readsConflict_98 rfl (lv_at hl 2 rfl) ?_
      refine g13_2 hx hb hts hown hKs hH rfl ho m6_184 dX13_readsConflict_99 ?_
      refine lv_sipush (v := 148) hx hb dX13_readsConflict_102 (by decide) ?_
      refine lv_iload_n hx hb dX13_readsConflict_105 rfl (lv_at hl 1 rfl) ?_
      refine lv_iadd hx hb dX13_readsConflict_106 ?_
      obtain ⟨a14, ha14, hf⟩ := bnd hf
      replace ha14 := cha_some ha14
      obtain ⟨j15, hj15, hf⟩ := bnd hf
      refine hw_iald hx hb hKs hH ha14.1 ha14.2 hj15 dX13_readsConflict_107 ?_
      refine lv_iconst (v := 1) hx hb dX13_readsConflict_108 (by decide) ?_
      refine lv_iload_n hx hb dX13_readsConflict_109 rfl (lv_at hl 0 rfl) ?_
      refine lv_ishl hx hb dX13_readsConflict_110 ?_
      refine lv_ior hx hb dX13_readsConflict_111 ?_
      obtain ⟨j16, hj16, hf⟩ := bnd hf
      obtain ⟨w17, hw17, hf⟩ := bnd hf
      replace hw17 := Option.some.inj hw17
      refine hw_iast (x := ((aI q12.2 a14.1 j15) ||| (1 <<< (q8.1 &&& 31)))) hx hb hKs hH ha14.1 ha14.2 hj16 dX13_readsConflict_112 (fun H locs hH => ?_)
      rw [hw17] at hH
      refine hl_aload_n hx hb dX13_readsConflict_113 rfl (lv_at hl 2 rfl) ?_
      refine g13_2 hx hb hts hown hKs hH rfl ho m6_184 dX13_readsConflict_114 ?_
      refine lv_sipush (v := 148) hx hb dX13_readsConflict_117 (by decide) ?_
      refine lv_iload_n hx hb dX13_readsConflict_120 rfl (lv_at hl 0 rfl) ?_
      refine lv_iadd hx hb dX13_readsConflict_121 ?_
      refine hl_aload_n hx hb dX13_readsConflict_122 rfl (lv_at hl 2 rfl) ?_
      refine g13_2 hx hb hts hown hKs hH rfl ho m6_184 dX13_readsConflict_123 ?_
      refine lv_sipush (v := 148) hx hb dX13_readsConflict_126 (by decide) ?_
      refine lv_iload_n hx hb dX13_readsConflict_129 rfl (lv_at hl 0 rfl) ?_
      refine lv_iadd hx hb dX13_readsConflict_130 ?_
      obtain ⟨a18, ha18, hf⟩ := bnd hf
      replace ha18 := cha_some ha18
      obtain ⟨j19, hj19, hf⟩ := bnd hf
      refine hw_iald hx hb hKs hH ha18.1 ha18.2 hj19 dX13_readsConflict_131 ?_
      refine lv_iconst (v := 1) hx hb dX13_readsConflict_132 (by decide) ?_
      refine lv_iload_n hx hb dX13_readsConflict_133 rfl (lv_at hl 1 rfl) ?_
      refine lv_ishl hx hb dX13_readsConflict_134 ?_
      refine lv_ior hx hb dX13_readsConflict_135 ?_
      obtain ⟨j20, hj20, hf⟩ := bnd hf
      obtain ⟨w21, hw21, hf⟩ := bnd hf
      replace hw21 := Option.some.inj hw21
      refine hw_iast (x := ((aI w17 a18.1 j19) ||| (1 <<< (q4.1 &&& 31)))) hx hb hKs hH ha18.1 ha18.2 hj20 dX13_readsConflict_136 (fun H locs hH => ?_)
      rw [hw21] at hH
      exact hw_vret hx hb hret hf hH hlocks dX13_readsConflict_137
    · replace hf := (if_pos c13).symm.trans hf
      exact hw_vret hx hb hret hf hH hlocks dX13_readsConflict_88
  · replace hf := (if_neg c10).symm.trans hf
    refine hl_aload_n hx hb dX13_readsConflict_45 rfl (lv_at hl 2 rfl) ?_
    refine lv_iload_n hx hb dX13_readsConflict_46 rfl (lv_at hl 1 rfl) ?_
    refine lv_iload_n hx hb dX13_readsConflict_47 rfl (lv_at hl 0 rfl) ?_
    refine lv_icmp_eq (tgt := 72) hx hb dX13_readsConflict_48 (by decide) (fun c22 => ?_) (fun c22 => ?_)
    · replace hf := (if_pos c22).symm.trans hf
      refine lv_iconst (v := 0) hx hb dX13_readsConflict_72 (by decide) ?_
      refine lv_iconst (v := 3) hx hb dX13_readsConflict_73 (by decide) ?_
      obtain ⟨q23, hq23, hf⟩ := bnd hf
      refine hcV_v hx hb hml hown hts hKs hT hb0 hH (As := [.int 0, .int 3]) (rest := []) (k_X13_needs l E K H.size o false 3 q9.2 ho hq23) (gV m9_67 m9_69 ms_110 m1_16 m9_70) hd_X13_needs ⟨Nat.le_of_ble_eq_true rfl, Nat.le_of_ble_eq_true rfl, rfl, rfl⟩ rfl ho rfl rfl rfl hl.1 rfl rc0 rfl dX13_readsConflict_74 ⟨Nat.zero_le _, Nat.zero_le _⟩ (fun H locs hH => ?_)
      refine hl_aload_n hx hb dX13_readsConflict_77 rfl (lv_at hl 2 rfl) ?_
      obtain ⟨q24, hq24, hf⟩ := bnd hf
      refine hcV_v hx hb hml hown hts hKs hT hb0 hH (As := []) (rest := []) (k_X13_goOn l E K H.size o q23 ho hq24) (gV m9_71 m9_73 ms_111 m1_16 m9_74) hd_X13_goOn ⟨Nat.le_of_ble_eq_true rfl, Nat.le_of_ble_eq_true rfl, rfl, rfl⟩ rfl ho rfl rfl rfl hl.1 rfl rc0 rfl dX13_readsConflict_78 ⟨Nat.zero_le _, Nat.zero_le _⟩ (fun H locs hH => ?_)
      refine hl_aload_n hx hb dX13_readsConflict_81 rfl (lv_at hl 2 rfl) ?_
      obtain ⟨q25, hq25, hf⟩ := bnd hf
      refine hcV_i hx hb hml hown hts hKs hT hb0 hH (As := []) (rest := []) (k_X13_fine l E K H.size o q24 ho hq25) (gV m9_47 m9_49 ms_105 m1_16 m9_50) hd_X13_fine ⟨Nat.le_of_ble_eq_true rfl, Nat.le_of_ble_eq_true rfl, rfl, rfl⟩ rfl ho rfl rfl rfl hl.1 rfl rc0 rfl dX13_readsConflict_82 ⟨Nat.zero_le _, Nat.zero_le _⟩ (fun H locs hH => ?_)
      refine lv_if_ne (tgt := 89) hx hb dX13_readsConflict_85 (by decide) (fun c26 => ?_) (fun c26 => ?_)
      · replace hf := (if_neg c26).symm.trans hf
        refine hl_aload_n hx hb dX13_readsConflict_89 rfl (lv_at hl 2 rfl) ?_
        refine g13_2 hx hb hts hown hKs hH rfl ho m6_184 dX13_readsConflict_90 ?_
        refine lv_sipush (v := 148) hx hb dX13_readsConflict_93 (by decide) ?_
        refine lv_iload_n hx hb dX13_readsConflict_96 rfl (lv_at hl 1 rfl) ?_
        refine lv_iadd hx hb dX13_readsConflict_97 ?_
        refine hl_aload_n hx hb dX13_readsConflict_98 rfl (lv_at hl 2 rfl) ?_
        refine g13_2 hx hb hts hown hKs hH rfl ho m6_184 dX13_readsConflict_99 ?_
        refine lv_sipush (v := 148) hx hb dX13_readsConflict_102 (by decide) ?_
        refine lv_iload_n hx hb dX13_readsConflict_105 rfl (lv_at hl 1 rfl) ?_
        refine lv_iadd hx hb dX13_readsConflict_106 ?_
        obtain ⟨a27, ha27, hf⟩ := bnd hf
        replace ha27 := cha_some ha27
        obtain ⟨j28, hj28, hf⟩ := bnd hf
        refine hw_iald hx hb hKs hH ha27.1 ha27.2 hj28 dX13_readsConflict_107 ?_
        refine lv_iconst (v := 1) hx hb dX13_readsConflict_108 (by decide) ?_
        refine lv_iload_n hx hb dX13_readsConflict_109 rfl (lv_at hl 0 rfl) ?_
        refine lv_ishl hx hb dX13_readsConflict_110 ?_
        refine lv_ior hx hb dX13_readsConflict_111 ?_
        obtain ⟨j29, hj29, hf⟩ := bnd hf
        obtain ⟨w30, hw30, hf⟩ := bnd hf
        replace hw30 := Option.some.inj hw30
        refine hw_iast (x := ((aI q25.2 a27.1 j28) ||| (1 <<< (q8.1 &&& 31)))) hx hb hKs hH ha27.1 ha27.2 hj29 dX13_readsConflict_112 (fun H locs hH => ?_)
        rw [hw30] at hH
        refine hl_aload_n hx hb dX13_readsConflict_113 rfl (lv_at hl 2 rfl) ?_
        refine g13_2 hx hb hts hown hKs hH rfl ho m6_184 dX13_readsConflict_114 ?_
        refine lv_sipush (v := 148) hx hb dX13_readsConflict_117 (by decide) ?_
        refine lv_iload_n hx hb dX13_readsConflict_120 rfl (lv_at hl 0 rfl) ?_
        refine lv_iadd hx hb dX13_readsConflict_121 ?_
        refine hl_aload_n hx hb dX13_readsConflict_122 rfl (lv_at hl 2 rfl) ?_
        refine g13_2 hx hb hts hown hKs hH rfl ho m6_184 dX13_readsConflict_123 ?_
        refine lv_sipush (v := 148) hx hb dX13_readsConflict_126 (by decide) ?_
        refine lv_iload_n hx hb dX13_readsConflict_129 rfl (lv_at hl 0 rfl) ?_
        refine lv_iadd hx hb dX13_readsConflict_130 ?_
        obtain ⟨a31, ha31, hf⟩ := bnd hf
        replace ha31 := cha_some ha31
        obtain ⟨j32, hj32, hf⟩ := bnd hf
        refine hw_iald hx hb hKs hH ha31.1 ha31.2 hj32 dX13_readsConflict_131 ?_
        refine lv_iconst (v := 1) hx hb dX13_readsConflict_132 (by decide) ?_
        refine lv_iload_n hx hb dX13_readsConflict_133 rfl (lv_at hl 1 rfl) ?_
        refine lv_ishl hx hb dX13_readsConflict_134 ?_
        refine lv_ior hx hb dX13_readsConflict_135 ?_
        obtain ⟨j33, hj33, hf⟩ := bnd hf
        obtain ⟨w34, hw34, hf⟩ := bnd hf
        replace hw34 := Option.some.inj hw34
        refine hw_iast (x := ((aI w30 a31.1 j32) ||| (1 <<< (q4.1 &&& 31)))) hx hb hKs hH ha31.1 ha31.2 hj33 dX13_readsConflict_136 (fun H locs hH => ?_)
        rw [hw34] at hH
        exact hw_vret hx hb hret hf hH hlocks dX13_readsConflict_137
      · replace hf := (if_pos c26).symm.trans hf
        exact hw_vret hx hb hret hf hH hlocks dX13_readsConflict_88
    · replace hf := (if_neg c22).symm.trans hf
      refine hl_aload_n hx hb dX13_readsConflict_51 rfl (lv_at hl 2 rfl) ?_
      refine g13_2 hx hb hts hown hKs hH rfl ho m6_184 dX13_readsConflict_52 ?_
      refine lv_sipush (v := 148) hx hb dX13_readsConflict_55 (by decide) ?_
      refine lv_iload_n hx hb dX13_readsConflict_58 rfl (lv_at hl 1 rfl) ?_
      refine lv_iadd hx hb dX13_readsConflict_59 ?_
      obtain ⟨a35, ha35, hf⟩ := bnd hf
      replace ha35 := cha_some ha35
      obtain ⟨j36, hj36, hf⟩ := bnd hf
      refine hw_iald hx hb hKs hH ha35.1 ha35.2 hj36 dX13_readsConflict_60 ?_
      refine lv_iload_n hx hb dX13_readsConflict_61 rfl (lv_at hl 0 rfl) ?_
      obtain ⟨q37, hq37, hf⟩ := bnd hf
      refine hcS_i hx hb hml hown hts hKs hT hb0 hH (As := [.int ((aI q9.2 a35.1 j36)), .int (q8.1)]) (rest := [rv E (some o)]) (k_X13_has l E K H.size (aI q9.2 a35.1 j36) q8.1 q9.2 hq37) (gS m7_224 m7_225 m1_16 m7_226) hs_X13_has ⟨Nat.le_of_ble_eq_true rfl, Nat.le_of_ble_eq_true rfl, rfl, rfl⟩ hl.1 rfl (rcV rc0) rfl dX13_readsConflict_62 ⟨Nat.zero_le _, Nat.zero_le _⟩ (fun H locs hH => ?_)
      refine lv_if_ne (tgt := 72) hx hb dX13_readsConflict_65 (by decide) (fun c38 => ?_) (fun c38 => ?_)
      · replace hf := (if_neg c38).symm.trans hf
        refine lv_iconst (v := 0) hx hb dX13_readsConflict_72 (by decide) ?_
        refine lv_iconst (v := 3) hx hb dX13_readsConflict_73 (by decide) ?_
        obtain ⟨q39, hq39, hf⟩ := bnd hf
        refine hcV_v hx hb hml hown hts hKs hT hb0 hH (As := [.int 0, .int 3]) (rest := []) (k_X13_needs l E K H.size o false 3 q37.2 ho hq39) (gV m9_67 m9_69 ms_110 m1_16 m9_70) hd_X13_needs ⟨Nat.le_of_ble_eq_true rfl, Nat.le_of_ble_eq_true rfl, rfl, rfl⟩ rfl ho rfl rfl rfl hl.1 rfl rc0 rfl dX13_readsConflict_74 ⟨Nat.zero_le _, Nat.zero_le _⟩ (fun H locs hH => ?_)
        refine hl_aload_n hx hb dX13_readsConflict_77 rfl (lv_at hl 2 rfl) ?_
        obtain ⟨q40, hq40, hf⟩ := bnd hf
        refine hcV_v hx hb hml hown hts hKs hT hb0 hH (As := []) (rest := []) (k_X13_goOn l E K H.size o q39 ho hq40) (gV m9_71 m9_73 ms_111 m1_16 m9_74) hd_X13_goOn ⟨Nat.le_of_ble_eq_true rfl, Nat.le_of_ble_eq_true rfl, rfl, rfl⟩ rfl ho rfl rfl rfl hl.1 rfl rc0 rfl dX13_readsConflict_78 ⟨Nat.zero_le _, Nat.zero_le _⟩ (fun H locs hH => ?_)
        refine hl_aload_n hx hb dX13_readsConflict_81 rfl (lv_at hl 2 rfl) ?_
        obtain ⟨q41, hq41, hf⟩ := bnd hf
        refine hcV_i hx hb hml hown hts hKs hT hb0 hH (As := []) (rest := []) (k_X13_fine l E K H.size o q40 ho hq41) (gV m9_47 m9_49 ms_105 m1_16 m9_50) hd_X13_fine ⟨Nat.le_of_ble_eq_true rfl, Nat.le_of_ble_eq_true rfl, rfl, rfl⟩ rfl ho rfl rfl rfl hl.1 rfl rc0 rfl dX13_readsConflict_82 ⟨Nat.zero_le _, Nat.zero_le _⟩ (fun H locs hH => ?_)
        refine lv_if_ne (tgt := 89) hx hb dX13_readsConflict_85 (by decide) (fun c42 => ?_) (fun c42 => ?_)
        · replace hf := (if_neg c42).symm.trans hf
          refine hl_aload_n hx hb dX13_readsConflict_89 rfl (lv_at hl 2 rfl) ?_
          refine g13_2 hx hb hts hown hKs hH rfl ho m6_184 dX13_readsConflict_90 ?_
          refine lv_sipush (v := 148) hx hb dX13_readsConflict_93 (by decide) ?_
          refine lv_iload_n hx hb dX13_readsConflict_96 rfl (lv_at hl 1 rfl) ?_
          refine lv_iadd hx hb dX13_readsConflict_97 ?_
          refine hl_aload_n hx hb dX13_readsConflict_98 rfl (lv_at hl 2 rfl) ?_
          refine g13_2 hx hb hts hown hKs hH rfl ho m6_184 dX13_readsConflict_99 ?_
          refine lv_sipush (v := 148) hx hb dX13_readsConflict_102 (by decide) ?_
          refine lv_iload_n hx hb dX13_readsConflict_105 rfl (lv_at hl 1 rfl) ?_
          refine lv_iadd hx hb dX13_readsConflict_106 ?_
          obtain ⟨a43, ha43, hf⟩ := bnd hf
          replace ha43 := cha_some ha43
          obtain ⟨j44, hj44, hf⟩ := bnd hf
          refine hw_iald hx hb hKs hH ha43.1 ha43.2 hj44 dX13_readsConflict_107 ?_
          refine lv_iconst (v := 1) hx hb dX13_readsConflict_108 (by decide) ?_
          refine lv_iload_n hx hb dX13_readsConflict_109 rfl (lv_at hl 0 rfl) ?_
          refine lv_ishl hx hb dX13_readsConflict_110 ?_
          refine lv_ior hx hb dX13_readsConflict_111 ?_
          obtain ⟨j45, hj45, hf⟩ := bnd hf
          obtain ⟨w46, hw46, hf⟩ := bnd hf
          replace hw46 := Option.some.inj hw46
          refine hw_iast (x := ((aI q41.2 a43.1 j44) ||| (1 <<< (q8.1 &&& 31)))) hx hb hKs hH ha43.1 ha43.2 hj45 dX13_readsConflict_112 (fun H locs hH => ?_)
          rw [hw46] at hH
          refine hl_aload_n hx hb dX13_readsConflict_113 rfl (lv_at hl 2 rfl) ?_
          refine g13_2 hx hb hts hown hKs hH rfl ho m6_184 dX13_readsConflict_114 ?_
          refine lv_sipush (v := 148) hx hb dX13_readsConflict_117 (by decide) ?_
          refine lv_iload_n hx hb dX13_readsConflict_120 rfl (lv_at hl 0 rfl) ?_
          refine lv_iadd hx hb dX13_readsConflict_121 ?_
          refine hl_aload_n hx hb dX13_readsConflict_122 rfl (lv_at hl 2 rfl) ?_
          refine g13_2 hx hb hts hown hKs hH rfl ho m6_184 dX13_readsConflict_123 ?_
          refine lv_sipush (v := 148) hx hb dX13_readsConflict_126 (by decide) ?_
          refine lv_iload_n hx hb dX13_readsConflict_129 rfl (lv_at hl 0 rfl) ?_
          refine lv_iadd hx hb dX13_readsConflict_130 ?_
          obtain ⟨a47, ha47, hf⟩ := bnd hf
          replace ha47 := cha_some ha47
          obtain ⟨j48, hj48, hf⟩ := bnd hf
          refine hw_iald hx hb hKs hH ha47.1 ha47.2 hj48 dX13_readsConflict_131 ?_
          refine lv_iconst (v := 1) hx hb dX13_readsConflict_132 (by decide) ?_
          refine lv_iload_n hx hb dX13_readsConflict_133 rfl (lv_at hl 1 rfl) ?_
          refine lv_ishl hx hb dX13_readsConflict_134 ?_
          refine lv_ior hx hb dX13_readsConflict_135 ?_
          obtain ⟨j49, hj49, hf⟩ := bnd hf
          obtain ⟨w50, hw50, hf⟩ := bnd hf
          replace hw50 := Option.some.inj hw50
          refine hw_iast (x := ((aI w46 a47.1 j48) ||| (1 <<< (q4.1 &&& 31)))) hx hb hKs hH ha47.1 ha47.2 hj49 dX13_readsConflict_136 (fun H locs hH => ?_)
          rw [hw50] at hH
          exact hw_vret hx hb hret hf hH hlocks dX13_readsConflict_137
        · replace hf := (if_pos c42).symm.trans hf
          exact hw_vret hx hb hret hf hH hlocks dX13_readsConflict_88
      · replace hf := (if_pos c38).symm.trans hf
        refine lv_iconst (v := 1) hx hb dX13_readsConflict_68 (by decide) ?_
        refine lv_goto (tgt := 73) hx hb dX13_readsConflict_69 (by decide) ?_
        refine lv_iconst (v := 3) hx hb dX13_readsConflict_73 (by decide) ?_
        obtain ⟨q51, hq51, hf⟩ := bnd hf
        refine hcV_v hx hb hml hown hts hKs hT hb0 hH (As := [.int 1, .int 3]) (rest := []) (k_X13_needs l E K H.size o true 3 q37.2 ho hq51) (gV m9_67 m9_69 ms_110 m1_16 m9_70) hd_X13_needs ⟨Nat.le_of_ble_eq_true rfl, Nat.le_of_ble_eq_true rfl, rfl, rfl⟩ rfl ho rfl rfl rfl hl.1 rfl rc0 rfl dX13_readsConflict_74 ⟨Nat.zero_le _, Nat.zero_le _⟩ (fun H locs hH => ?_)
        refine hl_aload_n hx hb dX13_readsConflict_77 rfl (lv_at hl 2 rfl) ?_
        obtain ⟨q52, hq52, hf⟩ := bnd hf
        refine hcV_v hx hb hml hown hts hKs hT hb0 hH (As := []) (rest := []) (k_X13_goOn l E K H.size o q51 ho hq52) (gV m9_71 m9_73 ms_111 m1_16 m9_74) hd_X13_goOn ⟨Nat.le_of_ble_eq_true rfl, Nat.le_of_ble_eq_true rfl, rfl, rfl⟩ rfl ho rfl rfl rfl hl.1 rfl rc0 rfl dX13_readsConflict_78 ⟨Nat.zero_le _, Nat.zero_le _⟩ (fun H locs hH => ?_)
        refine hl_aload_n hx hb dX13_readsConflict_81 rfl (lv_at hl 2 rfl) ?_
        obtain ⟨q53, hq53, hf⟩ := bnd hf
        refine hcV_i hx hb hml hown hts hKs hT hb0 hH (As := []) (rest := []) (k_X13_fine l E K H.size o q52 ho hq53) (gV m9_47 m9_49 ms_105 m1_16 m9_50) hd_X13_fine ⟨Nat.le_of_ble_eq_true rfl, Nat.le_of_ble_eq_true rfl, rfl, rfl⟩ rfl ho rfl rfl rfl hl.1 rfl rc0 rfl dX13_readsConflict_82 ⟨Nat.zero_le _, Nat.zero_le _⟩ (fun H locs hH => ?_)
        refine lv_if_ne (tgt := 89) hx hb dX13_readsConflict_85 (by decide) (fun c54 => ?_) (fun c54 => ?_)
        · replace hf := (if_neg c54).symm.trans hf
          refine hl_aload_n hx hb dX13_readsConflict_89 rfl (lv_at hl 2 rfl) ?_
          refine g13_2 hx hb hts hown hKs hH rfl ho m6_184 dX13_readsConflict_90 ?_
          refine lv_sipush (v := 148) hx hb dX13_readsConflict_93 (by decide) ?_
          refine lv_iload_n hx hb dX13_readsConflict_96 rfl (lv_at hl 1 rfl) ?_
          refine lv_iadd hx hb dX13_readsConflict_97 ?_
          refine hl_aload_n hx hb dX13_readsConflict_98 rfl (lv_at hl 2 rfl) ?_
          refine g13_2 hx hb hts hown hKs hH rfl ho m6_184 dX13_readsConflict_99 ?_
          refine lv_sipush (v := 148) hx hb dX13_readsConflict_102 (by decide) ?_
          refine lv_iload_n hx hb dX13_readsConflict_105 rfl (lv_at hl 1 rfl) ?_
          refine lv_iadd hx hb dX13_readsConflict_106 ?_
          obtain ⟨a55, ha55, hf⟩ := bnd hf
          replace ha55 := cha_some ha55
          obtain ⟨j56, hj56, hf⟩ := bnd hf
          refine hw_iald hx hb hKs hH ha55.1 ha55.2 hj56 dX13_readsConflict_107 ?_
          refine lv_iconst (v := 1) hx hb dX13_readsConflict_108 (by decide) ?_
          refine lv_iload_n hx hb dX13_readsConflict_109 rfl (lv_at hl 0 rfl) ?_
          refine lv_ishl hx hb dX13_readsConflict_110 ?_
          refine lv_ior hx hb dX13_readsConflict_111 ?_
          obtain ⟨j57, hj57, hf⟩ := bnd hf
          obtain ⟨w58, hw58, hf⟩ := bnd hf
          replace hw58 := Option.some.inj hw58
          refine hw_iast (x := ((aI q53.2 a55.1 j56) ||| (1 <<< (q8.1 &&& 31)))) hx hb hKs hH ha55.1 ha55.2 hj57 dX13_readsConflict_112 (fun H locs hH => ?_)
          rw [hw58] at hH
          refine hl_aload_n hx hb dX13_readsConflict_113 rfl (lv_at hl 2 rfl) ?_
          refine g13_2 hx hb hts hown hKs hH rfl ho m6_184 dX13_readsConflict_114 ?_
          refine lv_sipush (v := 148) hx hb dX13_readsConflict_117 (by decide) ?_
          refine lv_iload_n hx hb dX13_readsConflict_120 rfl (lv_at hl 0 rfl) ?_
          refine lv_iadd hx hb dX13_readsConflict_121 ?_
          refine hl_aload_n hx hb dX13_readsConflict_122 rfl (lv_at hl 2 rfl) ?_
          refine g13_2 hx hb hts hown hKs hH rfl ho m6_184 dX13_readsConflict_123 ?_
          refine lv_sipush (v := 148) hx hb dX13_readsConflict_126 (by decide) ?_
          refine lv_iload_n hx hb dX13_readsConflict_129 rfl (lv_at hl 0 rfl) ?_
          refine lv_iadd hx hb dX13_readsConflict_130 ?_
          obtain ⟨a59, ha59, hf⟩ := bnd hf
          replace ha59 := cha_some ha59
          obtain ⟨j60, hj60, hf⟩ := bnd hf
          refine hw_iald hx hb hKs hH ha59.1 ha59.2 hj60 dX13_readsConflict_131 ?_
          refine lv_iconst (v := 1) hx hb dX13_readsConflict_132 (by decide) ?_
          refine lv_iload_n hx hb dX13_readsConflict_133 rfl (lv_at hl 1 rfl) ?_
          refine lv_ishl hx hb dX13_readsConflict_134 ?_
          refine lv_ior hx hb dX13_readsConflict_135 ?_
          obtain ⟨j61, hj61, hf⟩ := bnd hf
          obtain ⟨w62, hw62, hf⟩ := bnd hf
          replace hw62 := Option.some.inj hw62
          refine hw_iast (x := ((aI w58 a59.1 j60) ||| (1 <<< (q4.1 &&& 31)))) hx hb hKs hH ha59.1 ha59.2 hj61 dX13_readsConflict_136 (fun H locs hH => ?_)
          rw [hw62] at hH
          exact hw_vret hx hb hret hf hH hlocks dX13_readsConflict_137
        · replace hf := (if_pos c54).symm.trans hf
          exact hw_vret hx hb hret hf hH hlocks dX13_readsConflict_88

theorem dX13_readsLengthen_0 : decode cX13_readsLengthen 0 = .ok (.aload_n 0, 1) := by decide +kernel
theorem dX13_readsLengthen_1 : decode cX13_readsLengthen 1 = .ok (.invokevirtual 399, 3) := by decide +kernel
theorem dX13_readsLengthen_4 : decode cX13_readsLengthen 4 = .ok (.aload_n 0, 1) := by decide +kernel
theorem dX13_readsLengthen_5 : decode cX13_readsLengthen 5 = .ok (.iconst 0, 1) := by decide +kernel
theorem dX13_readsLengthen_6 : decode cX13_readsLengthen 6 = .ok (.iconst 3, 1) := by decide +kernel
theorem dX13_readsLengthen_7 : decode cX13_readsLengthen 7 = .ok (.invokevirtual 396, 3) := by decide +kernel
theorem dX13_readsLengthen_10 : decode cX13_readsLengthen 10 = .ok (.istore_n 1, 1) := by decide +kernel
theorem dX13_readsLengthen_11 : decode cX13_readsLengthen 11 = .ok (.aload_n 0, 1) := by decide +kernel
theorem dX13_readsLengthen_12 : decode cX13_readsLengthen 12 = .ok (.invokevirtual 379, 3) := by decide +kernel
theorem dX13_readsLengthen_15 : decode cX13_readsLengthen 15 = .ok (.ifCond .eq 26, 3) := by decide +kernel
theorem dX13_readsLengthen_18 : decode cX13_readsLengthen 18 = .ok (.aload_n 0, 1) := by decide +kernel
theorem dX13_readsLengthen_19 : decode cX13_readsLengthen 19 = .ok (.aload_n 0, 1) := by decide +kernel
theorem dX13_readsLengthen_20 : decode cX13_readsLengthen 20 = .ok (.getfield 13, 3) := by decide +kernel
theorem dX13_readsLengthen_23 : decode cX13_readsLengthen 23 = .ok (.sipush 166, 3) := by decide +kernel
theorem dX13_readsLengthen_26 : decode cX13_readsLengthen 26 = .ok (.iload_n 1, 1) := by decide +kernel
theorem dX13_readsLengthen_27 : decode cX13_readsLengthen 27 = .ok (.iadd, 1) := by decide +kernel
theorem dX13_readsLengthen_28 : decode cX13_readsLengthen 28 = .ok (.iaload, 1) := by decide +kernel
theorem dX13_readsLengthen_29 : decode cX13_readsLengthen 29 = .ok (.ifCond .ne 7, 3) := by decide +kernel
theorem dX13_readsLengthen_32 : decode cX13_readsLengthen 32 = .ok (.iconst 1, 1) := by decide +kernel
theorem dX13_readsLengthen_33 : decode cX13_readsLengthen 33 = .ok (.goto 4, 3) := by decide +kernel
theorem dX13_readsLengthen_36 : decode cX13_readsLengthen 36 = .ok (.iconst 0, 1) := by decide +kernel
theorem dX13_readsLengthen_37 : decode cX13_readsLengthen 37 = .ok (.iconst 3, 1) := by decide +kernel
theorem dX13_readsLengthen_38 : decode cX13_readsLengthen 38 = .ok (.invokevirtual 392, 3) := by decide +kernel
theorem dX13_readsLengthen_41 : decode cX13_readsLengthen 41 = .ok (.aload_n 0, 1) := by decide +kernel
theorem dX13_readsLengthen_42 : decode cX13_readsLengthen 42 = .ok (.invokevirtual 399, 3) := by decide +kernel
theorem dX13_readsLengthen_45 : decode cX13_readsLengthen 45 = .ok (.aload_n 0, 1) := by decide +kernel
theorem dX13_readsLengthen_46 : decode cX13_readsLengthen 46 = .ok (.iconst 0, 1) := by decide +kernel
theorem dX13_readsLengthen_47 : decode cX13_readsLengthen 47 = .ok (.bipush 30, 2) := by decide +kernel
theorem dX13_readsLengthen_49 : decode cX13_readsLengthen 49 = .ok (.invokevirtual 405, 3) := by decide +kernel
theorem dX13_readsLengthen_52 : decode cX13_readsLengthen 52 = .ok (.istore_n 2, 1) := by decide +kernel
theorem dX13_readsLengthen_53 : decode cX13_readsLengthen 53 = .ok (.aload_n 0, 1) := by decide +kernel
theorem dX13_readsLengthen_54 : decode cX13_readsLengthen 54 = .ok (.invokevirtual 379, 3) := by decide +kernel
theorem dX13_readsLengthen_57 : decode cX13_readsLengthen 57 = .ok (.ifCond .ne 4, 3) := by decide +kernel
theorem dX13_readsLengthen_60 : decode cX13_readsLengthen 60 = .ok (.return_, 1) := by decide +kernel
theorem dX13_readsLengthen_61 : decode cX13_readsLengthen 61 = .ok (.aload_n 0, 1) := by decide +kernel
theorem dX13_readsLengthen_62 : decode cX13_readsLengthen 62 = .ok (.getfield 13, 3) := by decide +kernel
theorem dX13_readsLengthen_65 : decode cX13_readsLengthen 65 = .ok (.sipush 166, 3) := by decide +kernel
theorem dX13_readsLengthen_68 : decode cX13_readsLengthen 68 = .ok (.iload_n 1, 1) := by decide +kernel
theorem dX13_readsLengthen_69 : decode cX13_readsLengthen 69 = .ok (.iadd, 1) := by decide +kernel
theorem dX13_readsLengthen_70 : decode cX13_readsLengthen 70 = .ok (.iconst 1, 1) := by decide +kernel
theorem dX13_readsLengthen_71 : decode cX13_readsLengthen 71 = .ok (.iastore, 1) := by decide +kernel
theorem dX13_readsLengthen_72 : decode cX13_readsLengthen 72 = .ok (.aload_n 0, 1) := by decide +kernel
theorem dX13_readsLengthen_73 : decode cX13_readsLengthen 73 = .ok (.getfield 13, 3) := by decide +kernel
theorem dX13_readsLengthen_76 : decode cX13_readsLengthen 76 = .ok (.sipush 160, 3) := by decide +kernel
theorem dX13_readsLengthen_79 : decode cX13_readsLengthen 79 = .ok (.iload_n 1, 1) := by decide +kernel
theorem dX13_readsLengthen_80 : decode cX13_readsLengthen 80 = .ok (.iadd, 1) := by decide +kernel
theorem dX13_readsLengthen_81 : decode cX13_readsLengthen 81 = .ok (.iload_n 2, 1) := by decide +kernel
theorem dX13_readsLengthen_82 : decode cX13_readsLengthen 82 = .ok (.iastore, 1) := by decide +kernel
theorem dX13_readsLengthen_83 : decode cX13_readsLengthen 83 = .ok (.return_, 1) := by decide +kernel
theorem hd_X13_readsLengthen : yX13_readsLengthen.cls = RX13 ∧ yX13_readsLengthen.cls ≠ "java/lang/invoke/MethodHandle" ∧ yX13_readsLengthen.cls ≠ "java/lang/invoke/VarHandle" ∧ (parseMethodDescriptor yX13_readsLengthen.desc).map (fun d => d.parameters.length) = some 0 := by decide +kernel
theorem hs_X13_readsLengthen : yX13_readsLengthen.cls ≠ "java/lang/invoke/MethodHandle" ∧ yX13_readsLengthen.cls ≠ "java/lang/invoke/VarHandle" ∧ (parseMethodDescriptor yX13_readsLengthen.desc).map (fun d => d.parameters.length) = some 0 := by decide +kernel
set_option maxHeartbeats 4000000 in
set_option maxRecDepth 100000 in
theorem k_X13_readsLengthen (l : Launch) (E : Ev) (K : Kd) (z : Nat) (o : Nat) (w : Wd) (ho : K o = some (11, 0)) {w' : Wd} (hf : f_X13_readsLengthen K o w = some w') : Met l yX13_readsLengthen (Cond.code yX13_readsLengthen cX13_readsLengthen 3 (Option.none : Option Jvm.ClassFile.FieldType) :: bt) ({ frames := 8, cells := 0, slots := 0, locals := 172 } : Room) (va_Pc [rv E (some o)] (HB E K w z)) (QV E K z w') 0 0 (hA E) := by
  refine Met.ofW (cc := cX13_readsLengthen) (maxL := 3) (ret := (Option.none : Option Jvm.ClassFile.FieldType)) (by decide) rfl ?_
  intro p e s m args below meth c s₁ B hml hv
  obtain ⟨rfl, hz, hP, hKs, hT, hb0⟩ := hv
  have C : CX p l e s m _ meth c cX13_readsLengthen 3 RX13 (Option.none : Option Jvm.ClassFile.FieldType) E := ⟨B.exec, B.bytes, hml, findClass_of_methodNamed B.named, fun w h => atoms_spec (ws := Cond.code yX13_readsLengthen cX13_readsLengthen 3 (Option.none : Option Jvm.ClassFile.FieldType) :: bt) B.pre w (List.mem_cons_of_mem _ h), hKs, hT, by rw [hz]; exact hb0, B.notSynchronized, B.returns⟩
  have hH : HQ E K z w s s.heap [] := ⟨hP, va_S.rf, hz⟩
  obtain ⟨hx, hb, hml, hown, hts, hKs, hT, hb0, hlocks, hret⟩ := id C
  have hl := lv_entry [rv E (some o)] (n := 3) (by simp [lg_len_nil, lg_len_i, lg_len_j, lg_len_q, lg_len_f, lg_len_d, lg_len_r])
  rw [lg_entry_eq]
  generalize (lg_sl [rv E (some o)] ++ List.replicate (3 - (lg_sl [rv E (some o)]).length) Slot.unset).toArray = ls at hl ⊢
  replace hl : lv_has ls 3 [(0, rv E (some o))] := by simpa only [lv_args, cat_q, cat_i, cat_j, reduceIte, Nat.reduceEqDiff, Nat.reduceAdd, Nat.zero_add] using hl
  generalize s.heap = H at hH ⊢
  unfold f_X13_readsLengthen at hf
  refine hl_aload_n hx hb dX13_readsLengthen_0 rfl (lv_at hl 0 rfl) ?_
  obtain ⟨q1, hq1, hf⟩ := bnd hf
  refine hcV_v hx hb hml hown hts hKs hT hb0 hH (As := []) (rest := []) (k_X13_goOn l E K H.size o w ho hq1) (gV m9_71 m9_73 ms_111 m1_16 m9_74) hd_X13_goOn ⟨Nat.le_of_ble_eq_true rfl, Nat.le_of_ble_eq_true rfl, rfl, rfl⟩ rfl ho rfl rfl rfl hl.1 rfl rc0 rfl dX13_readsLengthen_1 ⟨Nat.zero_le _, Nat.zero_le _⟩ (fun H locs hH => ?_)
  refine hl_aload_n hx hb dX13_readsLengthen_4 rfl (lv_at hl 0 rfl) ?_
  refine lv_iconst (v := 0) hx hb dX13_readsLengthen_5 (by decide) ?_
  refine lv_iconst (v := 3) hx hb dX13_readsLengthen_6 (by decide) ?_
  obtain ⟨q2, hq2, hf⟩ := bnd hf
  refine hcV_i hx hb hml hown hts hKs hT hb0 hH (As := [.int 0, .int 3]) (rest := []) (k_X13_look l E K H.size o 0 3 q1 ho hq2) (gV m9_75 m9_77 ms_112 m1_16 m9_78) hd_X13_look ⟨Nat.le_of_ble_eq_true rfl, Nat.le_of_ble_eq_true rfl, rfl, rfl⟩ rfl ho rfl rfl rfl hl.1 rfl rc0 rfl dX13_readsLengthen_7 ⟨Nat.zero_le _, Nat.zero_le _⟩ (fun H locs hH => ?_)
  refine lv_istore_n (lv' := [(1, .int (q2.1)), (0, rv E (some o))]) hx hb dX13_readsLengthen_10 rfl hl (by decide) rfl (fun ls hl => ?_)
  refine hl_aload_n hx hb dX13_readsLengthen_11 rfl (lv_at hl 1 rfl) ?_
  obtain ⟨q3, hq3, hf⟩ := bnd hf
  refine hcV_i hx hb hml hown hts hKs hT hb0 hH (As := []) (rest := []) (k_X13_fine l E K H.size o q2.2 ho hq3) (gV m9_47 m9_49 ms_105 m1_16 m9_50) hd_X13_fine ⟨Nat.le_of_ble_eq_true rfl, Nat.le_of_ble_eq_true rfl, rfl, rfl⟩ rfl ho rfl rfl rfl hl.1 rfl rc0 rfl dX13_readsLengthen_12 ⟨Nat.zero_le _, Nat.zero_le _⟩ (fun H locs hH => ?_)
  refine lv_if_eq (tgt := 41) hx hb dX13_readsLengthen_15 (by decide) (fun c4 => ?_) (fun c4 => ?_)
  · replace hf := (if_pos c4).symm.trans hf
    refine hl_aload_n hx hb dX13_readsLengthen_41 rfl (lv_at hl 1 rfl) ?_
    obtain ⟨q5, hq5, hf⟩ := bnd hf
    refine hcV_v hx hb hml hown hts hKs hT hb0 hH (As := []) (rest := []) (k_X13_goOn l E K H.size o q3.2 ho hq5) (gV m9_71 m9_73 ms_111 m1_16 m9_74) hd_X13_goOn ⟨Nat.le_of_ble_eq_true rfl, Nat.le_of_ble_eq_true rfl, rfl, rfl⟩ rfl ho rfl rfl rfl hl.1 rfl rc0 rfl dX13_readsLengthen_42 ⟨Nat.zero_le _, Nat.zero_le _⟩ (fun H locs hH => ?_)
    refine hl_aload_n hx hb dX13_readsLengthen_45 rfl (lv_at hl 1 rfl) ?_
    refine lv_iconst (v := 0) hx hb dX13_readsLengthen_46 (by decide) ?_
    refine lv_bipush (v := 30) hx hb dX13_readsLengthen_47 (by decide) ?_
    obtain ⟨q6, hq6, hf⟩ := bnd hf
    refine hcV_i hx hb hml hown hts hKs hT hb0 hH (As := [.int 0, .int 30]) (rest := []) (k_X13_number l E K H.size o 0 30 q5 ho hq6) (gV m9_112 m9_114 ms_120 m1_16 m9_115) hd_X13_number ⟨Nat.le_of_ble_eq_true rfl, Nat.le_of_ble_eq_true rfl, rfl, rfl⟩ rfl ho rfl rfl rfl hl.1 rfl rc0 rfl dX13_readsLengthen_49 ⟨Nat.zero_le _, Nat.zero_le _⟩ (fun H locs hH => ?_)
    refine lv_istore_n (lv' := [(2, .int (q6.1)), (1, .int (q2.1)), (0, rv E (some o))]) hx hb dX13_readsLengthen_52 rfl hl (by decide) rfl (fun ls hl => ?_)
    refine hl_aload_n hx hb dX13_readsLengthen_53 rfl (lv_at hl 2 rfl) ?_
    obtain ⟨q7, hq7, hf⟩ := bnd hf
    refine hcV_i hx hb hml hown hts hKs hT hb0 hH (As := []) (rest := []) (k_X13_fine l E K H.size o q6.2 ho hq7) (gV m9_47 m9_49 ms_105 m1_16 m9_50) hd_X13_fine ⟨Nat.le_of_ble_eq_true rfl, Nat.le_of_ble_eq_true rfl, rfl, rfl⟩ rfl ho rfl rfl rfl hl.1 rfl rc0 rfl dX13_readsLengthen_54 ⟨Nat.zero_le _, Nat.zero_le _⟩ (fun H locs hH => ?_)
    refine lv_if_ne (tgt := 61) hx hb dX13_readsLengthen_57 (by decide) (fun c8 => ?_) (fun c8 => ?_)
    · replace hf := (if_neg c8).symm.trans hf
      refine hl_aload_n hx hb dX13_readsLengthen_61 rfl (lv_at hl 2 rfl) ?_
      refine g13_2 hx hb hts hown hKs hH rfl ho m6_184 dX13_readsLengthen_62 ?_
      refine lv_sipush (v := 166) hx hb dX13_readsLengthen_65 (by decide) ?_
      refine lv_iload_n hx hb dX13_readsLengthen_68 rfl (lv_at hl 1 rfl) ?_
      refine lv_iadd hx hb dX13_readsLengthen_69 ?_
      refine lv_iconst (v := 1) hx hb dX13_readsLengthen_70 (by decide) ?_
      obtain ⟨a9, ha9, hf⟩ := bnd hf
      replace ha9 := cha_some ha9
      obtain ⟨j10, hj10, hf⟩ := bnd hf
      obtain ⟨w11, hw11, hf⟩ := bnd hf
      replace hw11 := Option.some.inj hw11
      refine hw_iast (x := 1) hx hb hKs hH ha9.1 ha9.2 hj10 dX13_readsLengthen_71 (fun H locs hH => ?_)
      rw [hw11] at hH
      refine hl_aload_n hx hb dX13_readsLengthen_72 rfl (lv_at hl 2 rfl) ?_
      refine g13_2 hx hb hts hown hKs hH rfl ho m6_184 dX13_readsLengthen_73 ?_
      refine lv_sipush (v := 160) hx hb dX13_readsLengthen_76 (by decide) ?_
      refine lv_iload_n hx hb dX13_readsLengthen_79 rfl (lv_at hl 1 rfl) ?_
      refine lv_iadd hx hb dX13_readsLengthen_80 ?_
      refine lv_iload_n hx hb dX13_readsLengthen_81 rfl (lv_at hl 0 rfl) ?_
      obtain ⟨a12, ha12, hf⟩ := bnd hf
      replace ha12 := cha_some ha12
      obtain ⟨j13, hj13, hf⟩ := bnd hf
      obtain ⟨w14, hw14, hf⟩ := bnd hf
      replace hw14 := Option.some.inj hw14
      refine hw_iast (x := q6.1) hx hb hKs hH ha12.1 ha12.2 hj13 dX13_readsLengthen_82 (fun H locs hH => ?_)
      rw [hw14] at hH
      exact hw_vret hx hb hret hf hH hlocks dX13_readsLengthen_83
    · replace hf := (if_pos c8).symm.trans hf
      exact hw_vret hx hb hret hf hH hlocks dX13_readsLengthen_60
  · replace hf := (if_neg c4).symm.trans hf
    refine hl_aload_n hx hb dX13_readsLengthen_18 rfl (lv_at hl 1 rfl) ?_
    refine hl_aload_n hx hb dX13_readsLengthen_19 rfl (lv_at hl 1 rfl) ?_
    refine g13_2 hx hb hts hown hKs hH rfl ho m6_184 dX13_readsLengthen_20 ?_
    refine lv_sipush (v := 166) hx hb dX13_readsLengthen_23 (by decide) ?_
    refine lv_iload_n hx hb dX13_readsLengthen_26 rfl (lv_at hl 0 rfl) ?_
    refine lv_iadd hx hb dX13_readsLengthen_27 ?_
    obtain ⟨a15, ha15, hf⟩ := bnd hf
    replace ha15 := cha_some ha15
    obtain ⟨j16, hj16, hf⟩ := bnd hf
    refine hw_iald hx hb hKs hH ha15.1 ha15.2 hj16 dX13_readsLengthen_28 ?_
    refine lv_if_ne (tgt := 36) hx hb dX13_readsLengthen_29 (by decide) (fun c17 => ?_) (fun c17 => ?_)
    · replace hf := (if_neg c17).symm.trans hf
      refine lv_iconst (v := 0) hx hb dX13_readsLengthen_36 (by decide) ?_
      refine lv_iconst (v := 3) hx hb dX13_readsLengthen_37 (by decide) ?_
      obtain ⟨q18, hq18, hf⟩ := bnd hf
      refine hcV_v hx hb hml hown hts hKs hT hb0 hH (As := [.int 0, .int 3]) (rest := []) (k_X13_needs l E K H.size o false 3 q3.2 ho hq18) (gV m9_67 m9_69 ms_110 m1_16 m9_70) hd_X13_needs ⟨Nat.le_of_ble_eq_true rfl, Nat.le_of_ble_eq_true rfl, rfl, rfl⟩ rfl ho rfl rfl rfl hl.1 rfl rc0 rfl dX13_readsLengthen_38 ⟨Nat.zero_le _, Nat.zero_le _⟩ (fun H locs hH => ?_)
      refine hl_aload_n hx hb dX13_readsLengthen_41 rfl (lv_at hl 1 rfl) ?_
      obtain ⟨q19, hq19, hf⟩ := bnd hf
      refine hcV_v hx hb hml hown hts hKs hT hb0 hH (As := []) (rest := []) (k_X13_goOn l E K H.size o q18 ho hq19) (gV m9_71 m9_73 ms_111 m1_16 m9_74) hd_X13_goOn ⟨Nat.le_of_ble_eq_true rfl, Nat.le_of_ble_eq_true rfl, rfl, rfl⟩ rfl ho rfl rfl rfl hl.1 rfl rc0 rfl dX13_readsLengthen_42 ⟨Nat.zero_le _, Nat.zero_le _⟩ (fun H locs hH => ?_)
      refine hl_aload_n hx hb dX13_readsLengthen_45 rfl (lv_at hl 1 rfl) ?_
      refine lv_iconst (v := 0) hx hb dX13_readsLengthen_46 (by decide) ?_
      refine lv_bipush (v := 30) hx hb dX13_readsLengthen_47 (by decide) ?_
      obtain ⟨q20, hq20, hf⟩ := bnd hf
      refine hcV_i hx hb hml hown hts hKs hT hb0 hH (As := [.int 0, .int 30]) (rest := []) (k_X13_number l E K H.size o 0 30 q19 ho hq20) (gV m9_112 m9_114 ms_120 m1_16 m9_115) hd_X13_number ⟨Nat.le_of_ble_eq_true rfl, Nat.le_of_ble_eq_true rfl, rfl, rfl⟩ rfl ho rfl rfl rfl hl.1 rfl rc0 rfl dX13_readsLengthen_49 ⟨Nat.zero_le _, Nat.zero_le _⟩ (fun H locs hH => ?_)
      refine lv_istore_n (lv' := [(2, .int (q20.1)), (1, .int (q2.1)), (0, rv E (some o))]) hx hb dX13_readsLengthen_52 rfl hl (by decide) rfl (fun ls hl => ?_)
      refine hl_aload_n hx hb dX13_readsLengthen_53 rfl (lv_at hl 2 rfl) ?_
      obtain ⟨q21, hq21, hf⟩ := bnd hf
      refine hcV_i hx hb hml hown hts hKs hT hb0 hH (As := []) (rest := []) (k_X13_fine l E K H.size o q20.2 ho hq21) (gV m9_47 m9_49 ms_105 m1_16 m9_50) hd_X13_fine ⟨Nat.le_of_ble_eq_true rfl, Nat.le_of_ble_eq_true rfl, rfl, rfl⟩ rfl ho rfl rfl rfl hl.1 rfl rc0 rfl dX13_readsLengthen_54 ⟨Nat.zero_le _, Nat.zero_le _⟩ (fun H locs hH => ?_)
      refine lv_if_ne (tgt := 61) hx hb dX13_readsLengthen_57 (by decide) (fun c22 => ?_) (fun c22 => ?_)
      · replace hf := (if_neg c22).symm.trans hf
        refine hl_aload_n hx hb dX13_readsLengthen_61 rfl (lv_at hl 2 rfl) ?_
        refine g13_2 hx hb hts hown hKs hH rfl ho m6_184 dX13_readsLengthen_62 ?_
        refine lv_sipush (v := 166) hx hb dX13_readsLengthen_65 (by decide) ?_
        refine lv_iload_n hx hb dX13_readsLengthen_68 rfl (lv_at hl 1 rfl) ?_
        refine lv_iadd hx hb dX13_readsLengthen_69 ?_
        refine lv_iconst (v := 1) hx hb dX13_readsLengthen_70 (by decide) ?_
        obtain ⟨a23, ha23, hf⟩ := bnd hf
        replace ha23 := cha_some ha23
        obtain ⟨j24, hj24, hf⟩ := bnd hf
        obtain ⟨w25, hw25, hf⟩ := bnd hf
        replace hw25 := Option.some.inj hw25
        refine hw_iast (x := 1) hx hb hKs hH ha23.1 ha23.2 hj24 dX13_readsLengthen_71 (fun H locs hH => ?_)
        rw [hw25] at hH
        refine hl_aload_n hx hb dX13_readsLengthen_72 rfl (lv_at hl 2 rfl) ?_
        refine g13_2 hx hb hts hown hKs hH rfl ho m6_184 dX13_readsLengthen_73 ?_
        refine lv_sipush (v := 160) hx hb dX13_readsLengthen_76 (by decide) ?_
        refine lv_iload_n hx hb dX13_readsLengthen_79 rfl (lv_at hl 1 rfl) ?_
        refine lv_iadd hx hb dX13_readsLengthen_80 ?_
        refine lv_iload_n hx hb dX13_readsLengthen_81 rfl (lv_at hl 0 rfl) ?_
        obtain ⟨a26, ha26, hf⟩ := bnd hf
        replace ha26 := cha_some ha26
        obtain ⟨j27, hj27, hf⟩ := bnd hf
        obtain ⟨w28, hw28, hf⟩ := bnd hf
        replace hw28 := Option.some.inj hw28
        refine hw_iast (x := q20.1) hx hb hKs hH ha26.1 ha26.2 hj27 dX13_readsLengthen_82 (fun H locs hH => ?_)
        rw [hw28] at hH
        exact hw_vret hx hb hret hf hH hlocks dX13_readsLengthen_83
      · replace hf := (if_pos c22).symm.trans hf
        exact hw_vret hx hb hret hf hH hlocks dX13_readsLengthen_60
    · replace hf := (if_pos c17).symm.trans hf
      refine lv_iconst (v := 1) hx hb dX13_readsLengthen_32 (by decide) ?_
      refine lv_goto (tgt := 37) hx hb dX13_readsLengthen_33 (by decide) ?_
      refine lv_iconst (v := 3) hx hb dX13_readsLengthen_37 (by decide) ?_
      obtain ⟨q29, hq29, hf⟩ := bnd hf
      refine hcV_v hx hb hml hown hts hKs hT hb0 hH (As := [.int 1, .int 3]) (rest := []) (k_X13_needs l E K H.size o true 3 q3.2 ho hq29) (gV m9_67 m9_69 ms_110 m1_16 m9_70) hd_X13_needs ⟨Nat.le_of_ble_eq_true rfl, Nat.le_of_ble_eq_true rfl, rfl, rfl⟩ rfl ho rfl rfl rfl hl.1 rfl rc0 rfl dX13_readsLengthen_38 ⟨Nat.zero_le _, Nat.zero_le _⟩ (fun H locs hH => ?_)
      refine hl_aload_n hx hb dX13_readsLengthen_41 rfl (lv_at hl 1 rfl) ?_
      obtain ⟨q30, hq30, hf⟩ := bnd hf
      refine hcV_v hx hb hml hown hts hKs hT hb0 hH (As := []) (rest := []) (k_X13_goOn l E K H.size o q29 ho hq30) (gV m9_71 m9_73 ms_111 m1_16 m9_74) hd_X13_goOn ⟨Nat.le_of_ble_eq_true rfl, Nat.le_of_ble_eq_true rfl, rfl, rfl⟩ rfl ho rfl rfl rfl hl.1 rfl rc0 rfl dX13_readsLengthen_42 ⟨Nat.zero_le _, Nat.zero_le _⟩ (fun H locs hH => ?_)
      refine hl_aload_n hx hb dX13_readsLengthen_45 rfl (lv_at hl 1 rfl) ?_
      refine lv_iconst (v := 0) hx hb dX13_readsLengthen_46 (by decide) ?_
      refine lv_bipush (v := 30) hx hb dX13_readsLengthen_47 (by decide) ?_
      obtain ⟨q31, hq31, hf⟩ := bnd hf
      refine hcV_i hx hb hml hown hts hKs hT hb0 hH (As := [.int 0, .int 30]) (rest := []) (k_X13_number l E K H.size o 0 30 q30 ho hq31) (gV m9_112 m9_114 ms_120 m1_16 m9_115) hd_X13_number ⟨Nat.le_of_ble_eq_true rfl, Nat.le_of_ble_eq_true rfl, rfl, rfl⟩ rfl ho rfl rfl rfl hl.1 rfl rc0 rfl dX13_readsLengthen_49 ⟨Nat.zero_le _, Nat.zero_le _⟩ (fun H locs hH => ?_)
      refine lv_istore_n (lv' := [(2, .int (q31.1)), (1, .int (q2.1)), (0, rv E (some o))]) hx hb dX13_readsLengthen_52 rfl hl (by decide) rfl (fun ls hl => ?_)
      refine hl_aload_n hx hb dX13_readsLengthen_53 rfl (lv_at hl 2 rfl) ?_
      obtain ⟨q32, hq32, hf⟩ := bnd hf
      refine hcV_i hx hb hml hown hts hKs hT hb0 hH (As := []) (rest := []) (k_X13_fine l E K H.size o q31.2 ho hq32) (gV m9_47 m9_49 ms_105 m1_16 m9_50) hd_X13_fine ⟨Nat.le_of_ble_eq_true rfl, Nat.le_of_ble_eq_true rfl, rfl, rfl⟩ rfl ho rfl rfl rfl hl.1 rfl rc0 rfl dX13_readsLengthen_54 ⟨Nat.zero_le _, Nat.zero_le _⟩ (fun H locs hH => ?_)
      refine lv_if_ne (tgt := 61) hx hb dX13_readsLengthen_57 (by decide) (fun c33 => ?_) (fun c33 => ?_)
      · replace hf := (if_neg c33).symm.trans hf
        refine hl_aload_n hx hb dX13_readsLengthen_61 rfl (lv_at hl 2 rfl) ?_
        refine g13_2 hx hb hts hown hKs hH rfl ho m6_184 dX13_readsLengthen_62 ?_
        refine lv_sipush (v := 166) hx hb dX13_readsLengthen_65 (by decide) ?_
        refine lv_iload_n hx hb dX13_readsLengthen_68 rfl (lv_at hl 1 rfl) ?_
        refine lv_iadd hx hb dX13_readsLengthen_69 ?_
        refine lv_iconst (v := 1) hx hb dX13_readsLengthen_70 (by decide) ?_
        obtain ⟨a34, ha34, hf⟩ := bnd hf
        replace ha34 := cha_some ha34
        obtain ⟨j35, hj35, hf⟩ := bnd hf
        obtain ⟨w36, hw36, hf⟩ := bnd hf
        replace hw36 := Option.some.inj hw36
        refine hw_iast (x := 1) hx hb hKs hH ha34.1 ha34.2 hj35 dX13_readsLengthen_71 (fun H locs hH => ?_)
        rw [hw36] at hH
        refine hl_aload_n hx hb dX13_readsLengthen_72 rfl (lv_at hl 2 rfl) ?_
        refine g13_2 hx hb hts hown hKs hH rfl ho m6_184 dX13_readsLengthen_73 ?_
        refine lv_sipush (v := 160) hx hb dX13_readsLengthen_76 (by decide) ?_
        refine lv_iload_n hx hb dX13_readsLengthen_79 rfl (lv_at hl 1 rfl) ?_
        refine lv_iadd hx hb dX13_readsLengthen_80 ?_
        refine lv_iload_n hx hb dX13_readsLengthen_81 rfl (lv_at hl 0 rfl) ?_
        obtain ⟨a37, ha37, hf⟩ := bnd hf
        replace ha37 := cha_some ha37
        obtain ⟨j38, hj38, hf⟩ := bnd hf
        obtain ⟨w39, hw39, hf⟩ := bnd hf
        replace hw39 := Option.some.inj hw39
        refine hw_iast (x := q31.1) hx hb hKs hH ha37.1 ha37.2 hj38 dX13_readsLengthen_82 (fun H locs hH => ?_)
        rw [hw39] at hH
        exact hw_vret hx hb hret hf hH hlocks dX13_readsLengthen_83
      · replace hf := (if_pos c33).symm.trans hf
        exact hw_vret hx hb hret hf hH hlocks dX13_readsLengthen_60

theorem dX13_readsCap_0 : decode cX13_readsCap 0 = .ok (.aload_n 0, 1) := by decide +kernel
theorem dX13_readsCap_1 : decode cX13_readsCap 1 = .ok (.aload_n 0, 1) := by decide +kernel
theorem dX13_readsCap_2 : decode cX13_readsCap 2 = .ok (.getfield 13, 3) := by decide +kernel
theorem dX13_readsCap_5 : decode cX13_readsCap 5 = .ok (.sipush 165, 3) := by decide +kernel
theorem dX13_readsCap_8 : decode cX13_readsCap 8 = .ok (.iaload, 1) := by decide +kernel
theorem dX13_readsCap_9 : decode cX13_readsCap 9 = .ok (.ifCond .ne 7, 3) := by decide +kernel
theorem dX13_readsCap_12 : decode cX13_readsCap 12 = .ok (.iconst 1, 1) := by decide +kernel
theorem dX13_readsCap_13 : decode cX13_readsCap 13 = .ok (.goto 4, 3) := by decide +kernel
theorem dX13_readsCap_16 : decode cX13_readsCap 16 = .ok (.iconst 0, 1) := by decide +kernel
theorem dX13_readsCap_17 : decode cX13_readsCap 17 = .ok (.iconst 3, 1) := by decide +kernel
theorem dX13_readsCap_18 : decode cX13_readsCap 18 = .ok (.invokevirtual 392, 3) := by decide +kernel
theorem dX13_readsCap_21 : decode cX13_readsCap 21 = .ok (.aload_n 0, 1) := by decide +kernel
theorem dX13_readsCap_22 : decode cX13_readsCap 22 = .ok (.invokevirtual 399, 3) := by decide +kernel
theorem dX13_readsCap_25 : decode cX13_readsCap 25 = .ok (.aload_n 0, 1) := by decide +kernel
theorem dX13_readsCap_26 : decode cX13_readsCap 26 = .ok (.sipush 165, 3) := by decide +kernel
theorem dX13_readsCap_29 : decode cX13_readsCap 29 = .ok (.iconst 1, 1) := by decide +kernel
theorem dX13_readsCap_30 : decode cX13_readsCap 30 = .ok (.invokevirtual 434, 3) := by decide +kernel
theorem dX13_readsCap_33 : decode cX13_readsCap 33 = .ok (.aload_n 0, 1) := by decide +kernel
theorem dX13_readsCap_34 : decode cX13_readsCap 34 = .ok (.sipush 164, 3) := by decide +kernel
theorem dX13_readsCap_37 : decode cX13_readsCap 37 = .ok (.aload_n 0, 1) := by decide +kernel
theorem dX13_readsCap_38 : decode cX13_readsCap 38 = .ok (.iconst 0, 1) := by decide +kernel
theorem dX13_readsCap_39 : decode cX13_readsCap 39 = .ok (.bipush 60, 2) := by decide +kernel
theorem dX13_readsCap_41 : decode cX13_readsCap 41 = .ok (.invokevirtual 405, 3) := by decide +kernel
theorem dX13_readsCap_44 : decode cX13_readsCap 44 = .ok (.invokevirtual 434, 3) := by decide +kernel
theorem dX13_readsCap_47 : decode cX13_readsCap 47 = .ok (.return_, 1) := by decide +kernel
theorem hd_X13_readsCap : yX13_readsCap.cls = RX13 ∧ yX13_readsCap.cls ≠ "java/lang/invoke/MethodHandle" ∧ yX13_readsCap.cls ≠ "java/lang/invoke/VarHandle" ∧ (parseMethodDescriptor yX13_readsCap.desc).map (fun d => d.parameters.length) = some 0 := by decide +kernel
theorem hs_X13_readsCap : yX13_readsCap.cls ≠ "java/lang/invoke/MethodHandle" ∧ yX13_readsCap.cls ≠ "java/lang/invoke/VarHandle" ∧ (parseMethodDescriptor yX13_readsCap.desc).map (fun d => d.parameters.length) = some 0 := by decide +kernel
set_option maxHeartbeats 4000000 in
set_option maxRecDepth 100000 in
theorem k_X13_readsCap (l : Launch) (E : Ev) (K : Kd) (z : Nat) (o : Nat) (w : Wd) (ho : K o = some (11, 0)) {w' : Wd} (hf : f_X13_readsCap K o w = some w') : Met l yX13_readsCap (Cond.code yX13_readsCap cX13_readsCap 1 (Option.none : Option Jvm.ClassFile.FieldType) :: bt) ({ frames := 8, cells := 0, slots := 0, locals := 172 } : Room) (va_Pc [rv E (some o)] (HB E K w z)) (QV E K z w') 0 0 (hA E) := by
  refine Met.ofW (cc := cX13_readsCap) (maxL := 1) (ret := (Option.none : Option Jvm.ClassFile.FieldType)) (by decide) rfl ?_
  intro p e s m args below meth c s₁ B hml hv
  obtain ⟨rfl, hz, hP, hKs, hT, hb0⟩ := hv
  have C : CX p l e s m _ meth c cX13_readsCap 1 RX13 (Option.none : Option Jvm.ClassFile.FieldType) E := ⟨B.exec, B.bytes, hml, findClass_of_methodNamed B.named, fun w h => atoms_spec (ws := Cond.code yX13_readsCap cX13_readsCap 1 (Option.none : Option Jvm.ClassFile.FieldType) :: bt) B.pre w (List.mem_cons_of_mem _ h), hKs, hT, by rw [hz]; exact hb0, B.notSynchronized, B.returns⟩
  have hH : HQ E K z w s s.heap [] := ⟨hP, va_S.rf, hz⟩
  obtain ⟨hx, hb, hml, hown, hts, hKs, hT, hb0, hlocks, hret⟩ := id C
  have hl := lv_entry [rv E (some o)] (n := 1) (by simp [lg_len_nil, lg_len_i, lg_len_j, lg_len_q, lg_len_f, lg_len_d, lg_len_r])
  rw [lg_entry_eq]
  generalize (lg_sl [rv E (some o)] ++ List.replicate (1 - (lg_sl [rv E (some o)]).length) Slot.unset).toArray = ls at hl ⊢
  replace hl : lv_has ls 1 [(0, rv E (some o))] := by simpa only [lv_args, cat_q, cat_i, cat_j, reduceIte, Nat.reduceEqDiff, Nat.reduceAdd, Nat.zero_add] using hl
  generalize s.heap = H at hH ⊢
  unfold f_X13_readsCap at hf
  refine hl_aload_n hx hb dX13_readsCap_0 rfl (lv_at hl 0 rfl) ?_
  refine hl_aload_n hx hb dX13_readsCap_1 rfl (lv_at hl 0 rfl) ?_
  refine g13_2 hx hb hts hown hKs hH rfl ho m6_184 dX13_readsCap_2 ?_
  refine lv_sipush (v := 165) hx hb dX13_readsCap_5 (by decide) ?_
  obtain ⟨a1, ha1, hf⟩ := bnd hf
  replace ha1 := cha_some ha1
  obtain ⟨j2, hj2, hf⟩ := bnd hf
  refine hw_iald hx hb hKs hH ha1.1 ha1.2 hj2 dX13_readsCap_8 ?_
  refine lv_if_ne (tgt := 16) hx hb dX13_readsCap_9 (by decide) (fun c3 => ?_) (fun c3 => ?_)
  · replace hf := (if_neg c3).symm.trans hf
    refine lv_iconst (v := 0) hx hb dX13_readsCap_16 (by decide) ?_
    refine lv_iconst (v := 3) hx hb dX13_readsCap_17 (by decide) ?_
    obtain ⟨q4, hq4, hf⟩ := bnd hf
    refine hcV_v hx hb hml hown hts hKs hT hb0 hH (As := [.int 0, .int 3]) (rest := []) (k_X13_needs l E K H.size o false 3 w ho hq4) (gV m9_67 m9_69 ms_110 m1_16 m9_70) hd_X13_needs ⟨Nat.le_of_ble_eq_true rfl, Nat.le_of_ble_eq_true rfl, rfl, rfl⟩ rfl ho rfl rfl rfl hl.1 rfl rc0 rfl dX13_readsCap_18 ⟨Nat.zero_le _, Nat.zero_le _⟩ (fun H locs hH => ?_)
    refine hl_aload_n hx hb dX13_readsCap_21 rfl (lv_at hl 0 rfl) ?_
    obtain ⟨q5, hq5, hf⟩ := bnd hf
    refine hcV_v hx hb hml hown hts hKs hT hb0 hH (As := []) (rest := []) (k_X13_goOn l E K H.size o q4 ho hq5) (gV m9_71 m9_73 ms_111 m1_16 m9_74) hd_X13_goOn ⟨Nat.le_of_ble_eq_true rfl, Nat.le_of_ble_eq_true rfl, rfl, rfl⟩ rfl ho rfl rfl rfl hl.1 rfl rc0 rfl dX13_readsCap_22 ⟨Nat.zero_le _, Nat.zero_le _⟩ (fun H locs hH => ?_)
    refine hl_aload_n hx hb dX13_readsCap_25 rfl (lv_at hl 0 rfl) ?_
    refine lv_sipush (v := 165) hx hb dX13_readsCap_26 (by decide) ?_
    refine lv_iconst (v := 1) hx hb dX13_readsCap_29 (by decide) ?_
    obtain ⟨q6, hq6, hf⟩ := bnd hf
    refine hcV_v hx hb hml hown hts hKs hT hb0 hH (As := [.int 165, .int 1]) (rest := []) (k_X13_laysDraft l E K H.size o 165 1 q5 ho hq6) (gV m9_116 m9_118 ms_121 m1_16 m9_119) hd_X13_laysDraft ⟨Nat.le_of_ble_eq_true rfl, Nat.le_of_ble_eq_true rfl, rfl, rfl⟩ rfl ho rfl rfl rfl hl.1 rfl rc0 rfl dX13_readsCap_30 ⟨Nat.zero_le _, Nat.zero_le _⟩ (fun H locs hH => ?_)
    refine hl_aload_n hx hb dX13_readsCap_33 rfl (lv_at hl 0 rfl) ?_
    refine lv_sipush (v := 164) hx hb dX13_readsCap_34 (by decide) ?_
    refine hl_aload_n hx hb dX13_readsCap_37 rfl (lv_at hl 0 rfl) ?_
    refine lv_iconst (v := 0) hx hb dX13_readsCap_38 (by decide) ?_
    refine lv_bipush (v := 60) hx hb dX13_readsCap_39 (by decide) ?_
    obtain ⟨q7, hq7, hf⟩ := bnd hf
    refine hcV_i hx hb hml hown hts hKs hT hb0 hH (As := [.int 0, .int 60]) (rest := [.int 164, rv E (some o)]) (k_X13_number l E K H.size o 0 60 q6 ho hq7) (gV m9_112 m9_114 ms_120 m1_16 m9_115) hd_X13_number ⟨Nat.le_of_ble_eq_true rfl, Nat.le_of_ble_eq_true rfl, rfl, rfl⟩ rfl ho rfl rfl rfl hl.1 rfl (rcI (rcV rc0)) rfl dX13_readsCap_41 ⟨Nat.zero_le _, Nat.zero_le _⟩ (fun H locs hH => ?_)
    obtain ⟨q8, hq8, hf⟩ := bnd hf
    refine hcV_v hx hb hml hown hts hKs hT hb0 hH (As := [.int 164, .int (q7.1)]) (rest := []) (k_X13_laysDraft l E K H.size o 164 q7.1 q7.2 ho hq8) (gV m9_116 m9_118 ms_121 m1_16 m9_119) hd_X13_laysDraft ⟨Nat.le_of_ble_eq_true rfl, Nat.le_of_ble_eq_true rfl, rfl, rfl⟩ rfl ho rfl rfl rfl hl.1 rfl rc0 rfl dX13_readsCap_44 ⟨Nat.zero_le _, Nat.zero_le _⟩ (fun H locs hH => ?_)
    exact hw_vret hx hb hret hf hH hlocks dX13_readsCap_47
  · replace hf := (if_pos c3).symm.trans hf
    refine lv_iconst (v := 1) hx hb dX13_readsCap_12 (by decide) ?_
    refine lv_goto (tgt := 17) hx hb dX13_readsCap_13 (by decide) ?_
    refine lv_iconst (v := 3) hx hb dX13_readsCap_17 (by decide) ?_
    obtain ⟨q9, hq9, hf⟩ := bnd hf
    refine hcV_v hx hb hml hown hts hKs hT hb0 hH (As := [.int 1, .int 3]) (rest := []) (k_X13_needs l E K H.size o true 3 w ho hq9) (gV m9_67 m9_69 ms_110 m1_16 m9_70) hd_X13_needs ⟨Nat.le_of_ble_eq_true rfl, Nat.le_of_ble_eq_true rfl, rfl, rfl⟩ rfl ho rfl rfl rfl hl.1 rfl rc0 rfl dX13_readsCap_18 ⟨Nat.zero_le _, Nat.zero_le _⟩ (fun H locs hH => ?_)
    refine hl_aload_n hx hb dX13_readsCap_21 rfl (lv_at hl 0 rfl) ?_
    obtain ⟨q10, hq10, hf⟩ := bnd hf
    refine hcV_v hx hb hml hown hts hKs hT hb0 hH (As := []) (rest := []) (k_X13_goOn l E K H.size o q9 ho hq10) (gV m9_71 m9_73 ms_111 m1_16 m9_74) hd_X13_goOn ⟨Nat.le_of_ble_eq_true rfl, Nat.le_of_ble_eq_true rfl, rfl, rfl⟩ rfl ho rfl rfl rfl hl.1 rfl rc0 rfl dX13_readsCap_22 ⟨Nat.zero_le _, Nat.zero_le _⟩ (fun H locs hH => ?_)
    refine hl_aload_n hx hb dX13_readsCap_25 rfl (lv_at hl 0 rfl) ?_
    refine lv_sipush (v := 165) hx hb dX13_readsCap_26 (by decide) ?_
    refine lv_iconst (v := 1) hx hb dX13_readsCap_29 (by decide) ?_
    obtain ⟨q11, hq11, hf⟩ := bnd hf
    refine hcV_v hx hb hml hown hts hKs hT hb0 hH (As := [.int 165, .int 1]) (rest := []) (k_X13_laysDraft l E K H.size o 165 1 q10 ho hq11) (gV m9_116 m9_118 ms_121 m1_16 m9_119) hd_X13_laysDraft ⟨Nat.le_of_ble_eq_true rfl, Nat.le_of_ble_eq_true rfl, rfl, rfl⟩ rfl ho rfl rfl rfl hl.1 rfl rc0 rfl dX13_readsCap_30 ⟨Nat.zero_le _, Nat.zero_le _⟩ (fun H locs hH => ?_)
    refine hl_aload_n hx hb dX13_readsCap_33 rfl (lv_at hl 0 rfl) ?_
    refine lv_sipush (v := 164) hx hb dX13_readsCap_34 (by decide) ?_
    refine hl_aload_n hx hb dX13_readsCap_37 rfl (lv_at hl 0 rfl) ?_
    refine lv_iconst (v := 0) hx hb dX13_readsCap_38 (by decide) ?_
    refine lv_bipush (v := 60) hx hb dX13_readsCap_39 (by decide) ?_
    obtain ⟨q12, hq12, hf⟩ := bnd hf
    refine hcV_i hx hb hml hown hts hKs hT hb0 hH (As := [.int 0, .int 60]) (rest := [.int 164, rv E (some o)]) (k_X13_number l E K H.size o 0 60 q11 ho hq12) (gV m9_112 m9_114 ms_120 m1_16 m9_115) hd_X13_number ⟨Nat.le_of_ble_eq_true rfl, Nat.le_of_ble_eq_true rfl, rfl, rfl⟩ rfl ho rfl rfl rfl hl.1 rfl (rcI (rcV rc0)) rfl dX13_readsCap_41 ⟨Nat.zero_le _, Nat.zero_le _⟩ (fun H locs hH => ?_)
    obtain ⟨q13, hq13, hf⟩ := bnd hf
    refine hcV_v hx hb hml hown hts hKs hT hb0 hH (As := [.int 164, .int (q12.1)]) (rest := []) (k_X13_laysDraft l E K H.size o 164 q12.1 q12.2 ho hq13) (gV m9_116 m9_118 ms_121 m1_16 m9_119) hd_X13_laysDraft ⟨Nat.le_of_ble_eq_true rfl, Nat.le_of_ble_eq_true rfl, rfl, rfl⟩ rfl ho rfl rfl rfl hl.1 rfl rc0 rfl dX13_readsCap_44 ⟨Nat.zero_le _, Nat.zero_le _⟩ (fun H locs hH => ?_)
    exact hw_vret hx hb hret hf hH hlocks dX13_readsCap_47
end
