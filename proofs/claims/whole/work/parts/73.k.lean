section
variable {p : Program} {l : Launch} {e : Env} {s : State} {m : MethodId} {args : Array Value} {below : List Frame} {meth : Method} {c : Code} {E : Ev} {K : Kd} {z : Nat}

theorem dX12_withdraw_0 : decode cX12_withdraw 0 = .ok (.aload_n 0, 1) := by decide +kernel
theorem dX12_withdraw_1 : decode cX12_withdraw 1 = .ok (.iconst 2, 1) := by decide +kernel
theorem dX12_withdraw_2 : decode cX12_withdraw 2 = .ok (.iload_n 1, 1) := by decide +kernel
theorem dX12_withdraw_3 : decode cX12_withdraw 3 = .ok (.invokevirtual 175, 3) := by decide +kernel
theorem dX12_withdraw_6 : decode cX12_withdraw 6 = .ok (.aload_n 0, 1) := by decide +kernel
theorem dX12_withdraw_7 : decode cX12_withdraw 7 = .ok (.iload_n 2, 1) := by decide +kernel
theorem dX12_withdraw_8 : decode cX12_withdraw 8 = .ok (.invokevirtual 348, 3) := by decide +kernel
theorem dX12_withdraw_11 : decode cX12_withdraw 11 = .ok (.aload_n 0, 1) := by decide +kernel
theorem dX12_withdraw_12 : decode cX12_withdraw 12 = .ok (.invokevirtual 325, 3) := by decide +kernel
theorem dX12_withdraw_15 : decode cX12_withdraw 15 = .ok (.aload_n 0, 1) := by decide +kernel
theorem dX12_withdraw_16 : decode cX12_withdraw 16 = .ok (.getfield 35, 3) := by decide +kernel
theorem dX12_withdraw_19 : decode cX12_withdraw 19 = .ok (.getfield 181, 3) := by decide +kernel
theorem dX12_withdraw_22 : decode cX12_withdraw 22 = .ok (.iload_n 1, 1) := by decide +kernel
theorem dX12_withdraw_23 : decode cX12_withdraw 23 = .ok (.aload_n 0, 1) := by decide +kernel
theorem dX12_withdraw_24 : decode cX12_withdraw 24 = .ok (.getfield 35, 3) := by decide +kernel
theorem dX12_withdraw_27 : decode cX12_withdraw 27 = .ok (.getfield 181, 3) := by decide +kernel
theorem dX12_withdraw_30 : decode cX12_withdraw 30 = .ok (.iload_n 1, 1) := by decide +kernel
theorem dX12_withdraw_31 : decode cX12_withdraw 31 = .ok (.iaload, 1) := by decide +kernel
theorem dX12_withdraw_32 : decode cX12_withdraw 32 = .ok (.iload_n 2, 1) := by decide +kernel
theorem dX12_withdraw_33 : decode cX12_withdraw 33 = .ok (.iconst 1, 1) := by decide +kernel
theorem dX12_withdraw_34 : decode cX12_withdraw 34 = .ok (.isub, 1) := by decide +kernel
theorem dX12_withdraw_35 : decode cX12_withdraw 35 = .ok (.invokestatic 351, 3) := by decide +kernel
theorem dX12_withdraw_38 : decode cX12_withdraw 38 = .ok (.iastore, 1) := by decide +kernel
theorem dX12_withdraw_39 : decode cX12_withdraw 39 = .ok (.iconst 0, 1) := by decide +kernel
theorem dX12_withdraw_40 : decode cX12_withdraw 40 = .ok (.istore_n 3, 1) := by decide +kernel
theorem dX12_withdraw_41 : decode cX12_withdraw 41 = .ok (.iconst 0, 1) := by decide +kernel
theorem dX12_withdraw_42 : decode cX12_withdraw 42 = .ok (.istore 4, 2) := by decide +kernel
theorem dX12_withdraw_44 : decode cX12_withdraw 44 = .ok (.iload 4, 2) := by decide +kernel
theorem dX12_withdraw_46 : decode cX12_withdraw 46 = .ok (.aload_n 0, 1) := by decide +kernel
theorem dX12_withdraw_47 : decode cX12_withdraw 47 = .ok (.getfield 35, 3) := by decide +kernel
theorem dX12_withdraw_50 : decode cX12_withdraw 50 = .ok (.getfield 87, 3) := by decide +kernel
theorem dX12_withdraw_53 : decode cX12_withdraw 53 = .ok (.iconst 3, 1) := by decide +kernel
theorem dX12_withdraw_54 : decode cX12_withdraw 54 = .ok (.invokevirtual 105, 3) := by decide +kernel
theorem dX12_withdraw_57 : decode cX12_withdraw 57 = .ok (.if_icmp .ge 79, 3) := by decide +kernel
theorem dX12_withdraw_60 : decode cX12_withdraw 60 = .ok (.aload_n 0, 1) := by decide +kernel
theorem dX12_withdraw_61 : decode cX12_withdraw 61 = .ok (.getfield 35, 3) := by decide +kernel
theorem dX12_withdraw_64 : decode cX12_withdraw 64 = .ok (.getfield 213, 3) := by decide +kernel
theorem dX12_withdraw_67 : decode cX12_withdraw 67 = .ok (.iload 4, 2) := by decide +kernel
theorem dX12_withdraw_69 : decode cX12_withdraw 69 = .ok (.aaload, 1) := by decide +kernel
theorem dX12_withdraw_70 : decode cX12_withdraw 70 = .ok (.astore 5, 2) := by decide +kernel
theorem dX12_withdraw_72 : decode cX12_withdraw 72 = .ok (.aload_n 0, 1) := by decide +kernel
theorem dX12_withdraw_73 : decode cX12_withdraw 73 = .ok (.getfield 35, 3) := by decide +kernel
theorem dX12_withdraw_76 : decode cX12_withdraw 76 = .ok (.getfield 87, 3) := by decide +kernel
theorem dX12_withdraw_79 : decode cX12_withdraw 79 = .ok (.getfield 209, 3) := by decide +kernel
theorem dX12_withdraw_82 : decode cX12_withdraw 82 = .ok (.iload 4, 2) := by decide +kernel
theorem dX12_withdraw_84 : decode cX12_withdraw 84 = .ok (.aaload, 1) := by decide +kernel
theorem dX12_withdraw_85 : decode cX12_withdraw 85 = .ok (.getfield 245, 3) := by decide +kernel
theorem dX12_withdraw_88 : decode cX12_withdraw 88 = .ok (.iload_n 1, 1) := by decide +kernel
theorem dX12_withdraw_89 : decode cX12_withdraw 89 = .ok (.invokestatic 203, 3) := by decide +kernel
theorem dX12_withdraw_92 : decode cX12_withdraw 92 = .ok (.istore 6, 2) := by decide +kernel
theorem dX12_withdraw_94 : decode cX12_withdraw 94 = .ok (.aload 5, 2) := by decide +kernel
theorem dX12_withdraw_96 : decode cX12_withdraw 96 = .ok (.getfield 236, 3) := by decide +kernel
theorem dX12_withdraw_99 : decode cX12_withdraw 99 = .ok (.iconst 1, 1) := by decide +kernel
theorem dX12_withdraw_100 : decode cX12_withdraw 100 = .ok (.if_icmp .ne 30, 3) := by decide +kernel
theorem dX12_withdraw_103 : decode cX12_withdraw 103 = .ok (.aload 5, 2) := by decide +kernel
theorem dX12_withdraw_105 : decode cX12_withdraw 105 = .ok (.getfield 256, 3) := by decide +kernel
theorem dX12_withdraw_108 : decode cX12_withdraw 108 = .ok (.iload_n 2, 1) := by decide +kernel
theorem dX12_withdraw_109 : decode cX12_withdraw 109 = .ok (.if_icmp .lt 21, 3) := by decide +kernel
theorem dX12_withdraw_112 : decode cX12_withdraw 112 = .ok (.iload 6, 2) := by decide +kernel
theorem dX12_withdraw_114 : decode cX12_withdraw 114 = .ok (.ifCond .eq 16, 3) := by decide +kernel
theorem dX12_withdraw_117 : decode cX12_withdraw 117 = .ok (.aload_n 0, 1) := by decide +kernel
theorem dX12_withdraw_118 : decode cX12_withdraw 118 = .ok (.getfield 35, 3) := by decide +kernel
theorem dX12_withdraw_121 : decode cX12_withdraw 121 = .ok (.iload 4, 2) := by decide +kernel
theorem dX12_withdraw_123 : decode cX12_withdraw 123 = .ok (.iconst 0, 1) := by decide +kernel
theorem dX12_withdraw_124 : decode cX12_withdraw 124 = .ok (.invokevirtual 345, 3) := by decide +kernel
theorem dX12_withdraw_127 : decode cX12_withdraw 127 = .ok (.iinc 3 1, 3) := by decide +kernel
theorem dX12_withdraw_130 : decode cX12_withdraw 130 = .ok (.iinc 4 1, 3) := by decide +kernel
theorem dX12_withdraw_133 : decode cX12_withdraw 133 = .ok (.goto (-89), 3) := by decide +kernel
theorem dX12_withdraw_136 : decode cX12_withdraw 136 = .ok (.iload_n 3, 1) := by decide +kernel
theorem dX12_withdraw_137 : decode cX12_withdraw 137 = .ok (.ireturn, 1) := by decide +kernel
theorem hd_X12_withdraw : yX12_withdraw.cls = RX12 ∧ yX12_withdraw.cls ≠ "java/lang/invoke/MethodHandle" ∧ yX12_withdraw.cls ≠ "java/lang/invoke/VarHandle" ∧ (parseMethodDescriptor yX12_withdraw.desc).map (fun d => d.parameters.length) = some 2 := by decide +kernel
theorem hs_X12_withdraw : yX12_withdraw.cls ≠ "java/lang/invoke/MethodHandle" ∧ yX12_withdraw.cls ≠ "java/lang/invoke/VarHandle" ∧ (parseMethodDescriptor yX12_withdraw.desc).map (fun d => d.parameters.length) = some 2 := by decide +kernel
set_option maxHeartbeats 4000000 in
set_option maxRecDepth 100000 in
theorem l_X12_withdraw_L44 (C : CX p l e s m args meth c cX12_withdraw 7 RX12 (Option.some Jvm.ClassFile.FieldType.int) E) {o : Nat} (ho : K o = some (10, 0)) {r : Int32 ⊕ Nat} {w' : Wd} (k : Int32 → Int32 → Int32 → Int32 → Wd → Option ((Int32 ⊕ Nat) × Wd)) (hk : ∀ (v1_44 : Int32) (v2_44 : Int32) (v3_44 : Int32) (v4_44 : Int32) (w : Wd) (H : Heap) (locs : List Loc) (ls : Array Slot), HQ E K z w s H locs → lv_has ls 7 [(1, .int v1_44), (2, .int v2_44), (3, .int v3_44), (4, .int v4_44), (0, rv E (some o))] → k v1_44 v2_44 v3_44 v4_44 w = some (r, w') → W p l e ({ frames := 7, cells := 2, slots := 12, locals := 125 } : Room) s m args below meth c H locs 2 12 (vx_MQ below (XI E K z w' r) (XX E K w' r) args s 2 12 (hA E)) (F0 m 136 ls [])) : ∀ (n : Nat) (v1_44 : Int32) (v2_44 : Int32) (v3_44 : Int32) (v4_44 : Int32) (w : Wd) (H : Heap) (locs : List Loc) (ls : Array Slot), HQ E K z w s H locs → lv_has ls 7 [(1, .int v1_44), (2, .int v2_44), (3, .int v3_44), (4, .int v4_44), (0, rv E (some o))] → f_X12_withdraw_L44 K o k n v1_44 v2_44 v3_44 v4_44 w = some (r, w') → W p l e ({ frames := 7, cells := 2, slots := 12, locals := 125 } : Room) s m args below meth c H locs 2 12 (vx_MQ below (XI E K z w' r) (XX E K w' r) args s 2 12 (hA E)) (F0 m 44 ls []) := by
  obtain ⟨hx, hb, hml, hown, hts, hKs, hT, hb0, hlocks, hret⟩ := id C
  intro n
  induction n with
  | zero =>
    intro v1_44 v2_44 v3_44 v4_44 w H locs ls hH hl hf
    cases hf
  | succ n ih =>
    intro v1_44 v2_44 v3_44 v4_44 w H locs ls hH hl hf
    rw [f_X12_withdraw_L44] at hf
    refine lv_iload hx hb dX12_withdraw_44 (lv_at hl 3 rfl) ?_
    refine hl_aload_n hx hb dX12_withdraw_46 rfl (lv_at hl 4 rfl) ?_
    refine g12_5 hx hb hts hown hKs hH rfl ho m2_224 dX12_withdraw_47 ?_
    obtain ⟨a13, ha13, hf⟩ := bnd hf
    replace ha13 := chk_some ha13
    refine gn10_0 hx hb hts hown hKs hH ha13.1 ha13.2 m2_122 dX12_withdraw_50 ?_
    refine lv_iconst (v := 3) hx hb dX12_withdraw_53 (by decide) ?_
    obtain ⟨a14, ha14, hf⟩ := bnd hf
    replace ha14 := chk_some ha14
    obtain ⟨q15, hq15, hf⟩ := bnd hf
    refine hcV_i hx hb hml hown hts hKs hT hb0 hH (As := [.int 3]) (rest := [.int v4_44]) (k_X9_size l E K H.size a14 3 w ha14.2 hq15) (gV m3_229 m3_151 m3_152 m1_2 m3_153) hd_X9_size ⟨Nat.le_of_ble_eq_true rfl, Nat.le_of_ble_eq_true rfl, rfl, rfl⟩ ha14.1 ha14.2 rfl rfl rfl hl.1 rfl (rcI rc0) rfl dX12_withdraw_54 ⟨Nat.le_of_ble_eq_true rfl, Nat.le_of_ble_eq_true rfl⟩ (fun H locs hH => ?_)
    refine lv_icmp_ge (tgt := 136) hx hb dX12_withdraw_57 (by decide) (fun c16 => ?_) (fun c16 => ?_)
    · replace hf := (if_pos c16).symm.trans hf
      exact hk v1_44 v2_44 v3_44 v4_44 _ _ _ _ hH (lv_sub hl [0, 1, 2, 3, 4] rfl) hf
    · replace hf := (if_neg c16).symm.trans hf
      refine hl_aload_n hx hb dX12_withdraw_60 rfl (lv_at hl 4 rfl) ?_
      refine g12_5 hx hb hts hown hKs hH rfl ho m2_224 dX12_withdraw_61 ?_
      obtain ⟨a17, ha17, hf⟩ := bnd hf
      replace ha17 := chk_some ha17
      refine gn10_5 hx hb hts hown hKs hH ha17.1 ha17.2 m2_135 dX12_withdraw_64 ?_
      refine lv_iload hx hb dX12_withdraw_67 (lv_at hl 3 rfl) ?_
      obtain ⟨a18, ha18, hf⟩ := bnd hf
      replace ha18 := cha_some ha18
      obtain ⟨j19, hj19, hf⟩ := bnd hf
      refine hw_aald27 hx hb hKs hH ha18.1 ha18.2 hj19 dX12_withdraw_69 ?_
      refine hl_astore (lv' := [(5, rv E (aR q15.2 a18.1 j19)), (1, .int v1_44), (2, .int v2_44), (3, .int v3_44), (4, .int v4_44), (0, rv E (some o))]) hx hb dX12_withdraw_70 hl (by decide) rfl (fun ls hl => ?_)
      refine hl_aload_n hx hb dX12_withdraw_72 rfl (lv_at hl 5 rfl) ?_
      refine g12_5 hx hb hts hown hKs hH rfl ho m2_224 dX12_withdraw_73 ?_
      refine gn10_0 hx hb hts hown hKs hH ha17.1 ha17.2 m2_122 dX12_withdraw_76 ?_
      obtain ⟨a20, ha20, hf⟩ := bnd hf
      replace ha20 := chk_some ha20
      refine gn9_9 hx hb hts hown hKs hH ha20.1 ha20.2 m1_180 dX12_withdraw_79 ?_
      refine lv_iload hx hb dX12_withdraw_82 (lv_at hl 4 rfl) ?_
      obtain ⟨a21, ha21, hf⟩ := bnd hf
      replace ha21 := cha_some ha21
      obtain ⟨j22, hj22, hf⟩ := bnd hf
      refine hw_aald25 hx hb hKs hH ha21.1 ha21.2 hj22 dX12_withdraw_84 ?_
      obtain ⟨a23, ha23, hf⟩ := bnd hf
      replace ha23 := chk_some ha23
      refine gn3_4 hx hb hts hown hKs hH ha23.1 ha23.2 m1_109 dX12_withdraw_85 ?_
      refine lv_iload_n hx hb dX12_withdraw_88 rfl (lv_at hl 1 rfl) ?_
      obtain ⟨q24, hq24, hf⟩ := bnd hf
      refine hcS_i hx hb hml hown hts hKs hT hb0 hH (As := [.int ((wI q15.2 304 a23)), .int v1_44]) (rest := []) (k_X12_has l E K H.size (wI q15.2 304 a23) v1_44 q15.2 hq24) (gS m5_130 m3_194 m1_1 m3_195) hs_X12_has ⟨Nat.le_of_ble_eq_true rfl, Nat.le_of_ble_eq_true rfl, rfl, rfl⟩ hl.1 rfl rc0 rfl dX12_withdraw_89 ⟨Nat.le_of_ble_eq_true rfl, Nat.le_of_ble_eq_true rfl⟩ (fun H locs hH => ?_)
      refine lv_istore (lv' := [(6, .int (b2i q24.1)), (5, rv E (aR q15.2 a18.1 j19)), (1, .int v1_44), (2, .int v2_44), (3, .int v3_44), (4, .int v4_44), (0, rv E (some o))]) hx hb dX12_withdraw_92 hl (by decide) (by simp [List.filter_cons, cat_q, cat_i, cat_j]) (fun ls hl => ?_)
      refine hl_aload hx hb dX12_withdraw_94 (lv_at hl 1 rfl) ?_
      obtain ⟨a25, ha25, hf⟩ := bnd hf
      replace ha25 := chk_some ha25
      refine gn7_0 hx hb hts hown hKs hH ha25.1 ha25.2 m2_71 dX12_withdraw_96 ?_
      refine lv_iconst (v := 1) hx hb dX12_withdraw_99 (by decide) ?_
      refine lv_icmp_ne (tgt := 130) hx hb dX12_withdraw_100 (by decide) (fun c26 => ?_) (fun c26 => ?_)
      · replace hf := (if_neg c26).symm.trans hf
        refine lv_iinc (v := (v4_44 + 1)) (lv' := [(4, .int ((v4_44 + 1))), (6, .int (b2i q24.1)), (5, rv E (aR q15.2 a18.1 j19)), (1, .int v1_44), (2, .int v2_44), (3, .int v3_44), (0, rv E (some o))]) hx hb dX12_withdraw_130 hl (k := 5) rfl rfl (by decide) rfl (fun ls hl => ?_)
        refine lv_goto (tgt := 44) hx hb dX12_withdraw_133 (by decide) ?_
        exact ih v1_44 v2_44 v3_44 (v4_44 + 1) _ _ _ _ hH (lv_sub hl [3, 4, 5, 0, 6] rfl) hf
      · replace hf := (if_pos c26).symm.trans hf
        refine hl_aload hx hb dX12_withdraw_103 (lv_at hl 1 rfl) ?_
        refine gn7_2 hx hb hts hown hKs hH ha25.1 ha25.2 m2_77 dX12_withdraw_105 ?_
        refine lv_iload_n hx hb dX12_withdraw_108 rfl (lv_at hl 3 rfl) ?_
        refine lv_icmp_lt (tgt := 130) hx hb dX12_withdraw_109 (by decide) (fun c27 => ?_) (fun c27 => ?_)
        · replace hf := (if_pos c27).symm.trans hf
          refine lv_iinc (v := (v4_44 + 1)) (lv' := [(4, .int ((v4_44 + 1))), (6, .int (b2i q24.1)), (5, rv E (aR q15.2 a18.1 j19)), (1, .int v1_44), (2, .int v2_44), (3, .int v3_44), (0, rv E (some o))]) hx hb dX12_withdraw_130 hl (k := 5) rfl rfl (by decide) rfl (fun ls hl => ?_)
          refine lv_goto (tgt := 44) hx hb dX12_withdraw_133 (by decide) ?_
          exact ih v1_44 v2_44 v3_44 (v4_44 + 1) _ _ _ _ hH (lv_sub hl [3, 4, 5, 0, 6] rfl) hf
        · replace hf := (if_neg c27).symm.trans hf
          refine lv_iload hx hb dX12_withdraw_112 (lv_at hl 0 rfl) ?_
          refine lv_if_eq (tgt := 130) hx hb dX12_withdraw_114 (by decide) (fun c28 => ?_) (fun c28 => ?_)
          · replace hf := (if_pos c28).symm.trans hf
            refine lv_iinc (v := (v4_44 + 1)) (lv' := [(4, .int ((v4_44 + 1))), (6, .int (b2i q24.1)), (5, rv E (aR q15.2 a18.1 j19)), (1, .int v1_44), (2, .int v2_44), (3, .int v3_44), (0, rv E (some o))]) hx hb dX12_withdraw_130 hl (k := 5) rfl rfl (by decide) rfl (fun ls hl => ?_)
            refine lv_goto (tgt := 44) hx hb dX12_withdraw_133 (by decide) ?_
            exact ih v1_44 v2_44 v3_44 (v4_44 + 1) _ _ _ _ hH (lv_sub hl [3, 4, 5, 0, 6] rfl) hf
          · replace hf := (if_neg c28).symm.trans hf
            refine hl_aload_n hx hb dX12_withdraw_117 rfl (lv_at hl 6 rfl) ?_
            refine g12_5 hx hb hts hown hKs hH rfl ho m2_224 dX12_withdraw_118 ?_
            refine lv_iload hx hb dX12_withdraw_121 (lv_at hl 5 rfl) ?_
            refine lv_iconst (v := 0) hx hb dX12_withdraw_123 (by decide) ?_
            obtain ⟨a29, ha29, hf⟩ := bnd hf
            replace ha29 := chk_some ha29
            obtain ⟨q30, hq30, hf⟩ := bnd hf
            refine hcV_v hx hb hml hown hts hKs hT hb0 hH (As := [.int v4_44, .int 0]) (rest := []) (k_X10_takeAway l E K H.size a29 v4_44 0 q24.2 ha29.2 hq30) (gV m6_81 m6_82 m6_83 m1_12 m6_84) hd_X10_takeAway ⟨Nat.le_of_ble_eq_true rfl, Nat.le_of_ble_eq_true rfl, rfl, rfl⟩ ha29.1 ha29.2 rfl rfl rfl hl.1 rfl rc0 rfl dX12_withdraw_124 ⟨Nat.le_of_ble_eq_true rfl, Nat.le_of_ble_eq_true rfl⟩ (fun H locs hH => ?_)
            refine lv_iinc (v := (v3_44 + 1)) (lv' := [(3, .int ((v3_44 + 1))), (6, .int (b2i q24.1)), (5, rv E (aR q15.2 a18.1 j19)), (1, .int v1_44), (2, .int v2_44), (4, .int v4_44), (0, rv E (some o))]) hx hb dX12_withdraw_127 hl (k := 4) rfl rfl (by decide) rfl (fun ls hl => ?_)
            refine lv_iinc (v := (v4_44 + 1)) (lv' := [(4, .int ((v4_44 + 1))), (3, .int ((v3_44 + 1))), (6, .int (b2i q24.1)), (5, rv E (aR q15.2 a18.1 j19)), (1, .int v1_44), (2, .int v2_44), (0, rv E (some o))]) hx hb dX12_withdraw_130 hl (k := 5) rfl rfl (by decide) rfl (fun ls hl => ?_)
            refine lv_goto (tgt := 44) hx hb dX12_withdraw_133 (by decide) ?_
            exact ih v1_44 v2_44 (v3_44 + 1) (v4_44 + 1) _ _ _ _ hH (lv_sub hl [4, 5, 1, 0, 6] rfl) hf
set_option maxHeartbeats 4000000 in
set_option maxRecDepth 100000 in
theorem k_X12_withdraw (l : Launch) (hls : l.stackTraces = false) (E : Ev) (K : Kd) (z : Nat) (o : Nat) (a_1 : Int32) (a_2 : Int32) (w : Wd) (ho : K o = some (10, 0)) {r : Int32 ⊕ Nat} {w' : Wd} (hf : f_X12_withdraw K o a_1 a_2 w = some (r, w')) : vx_Met l yX12_withdraw (Cond.code yX12_withdraw cX12_withdraw 7 (Option.some Jvm.ClassFile.FieldType.int) :: bt) ({ frames := 7, cells := 2, slots := 12, locals := 125 } : Room) (va_Pc [rv E (some o), .int a_1, .int a_2] (HB E K w z)) (XI E K z w' r) (XX E K w' r) 2 12 (hA E) := by
  refine vx_ofW (cc := cX12_withdraw) (maxL := 7) (ret := (Option.some Jvm.ClassFile.FieldType.int)) (by decide) rfl ?_
  intro p e s m args below meth c s₁ B hml hout hv
  obtain ⟨rfl, hz, hP, hKs, hT, hb0⟩ := hv
  have C : CX p l e s m _ meth c cX12_withdraw 7 RX12 (Option.some Jvm.ClassFile.FieldType.int) E := ⟨B.exec, B.bytes, hml, findClass_of_methodNamed B.named, fun w h => atoms_spec (ws := Cond.code yX12_withdraw cX12_withdraw 7 (Option.some Jvm.ClassFile.FieldType.int) :: bt) B.pre w (List.mem_cons_of_mem _ h), hKs, hT, by rw [hz]; exact hb0, B.notSynchronized, B.returns⟩
  have hH : HQ E K z w s s.heap [] := ⟨hP, va_S.rf, hz⟩
  obtain ⟨hx, hb, hml, hown, hts, hKs, hT, hb0, hlocks, hret⟩ := id C
  have hl := lv_entry [rv E (some o), .int a_1, .int a_2] (n := 7) (by simp [lg_len_nil, lg_len_i, lg_len_j, lg_len_q, lg_len_f, lg_len_d, lg_len_r])
  rw [lg_entry_eq]
  generalize (lg_sl [rv E (some o), .int a_1, .int a_2] ++ List.replicate (7 - (lg_sl [rv E (some o), .int a_1, .int a_2]).length) Slot.unset).toArray = ls at hl ⊢
  replace hl : lv_has ls 7 [(0, rv E (some o)), (1, .int a_1), (2, .int a_2)] := by simpa only [lv_args, cat_q, cat_i, cat_j, reduceIte, Nat.reduceEqDiff, Nat.reduceAdd, Nat.zero_add] using hl
  generalize s.heap = H at hH ⊢
  unfold f_X12_withdraw at hf
  refine hl_aload_n hx hb dX12_withdraw_0 rfl (lv_at hl 0 rfl) ?_
  refine lv_iconst (v := 2) hx hb dX12_withdraw_1 (by decide) ?_
  refine lv_iload_n hx hb dX12_withdraw_2 rfl (lv_at hl 1 rfl) ?_
  obtain ⟨q1, hq1, hf⟩ := bnd hf
  refine hxV_v hx hb hml hown hts hKs hT hb0 hH (As := [.int 2, .int a_1]) (rest := []) (k_X12_requireExisting l hls E K H.size o 2 a_1 w ho hq1) (gV m5_91 m5_93 ms_37 m1_1 m5_94) hd_X12_requireExisting ⟨Nat.le_of_ble_eq_true rfl, Nat.le_of_ble_eq_true rfl, rfl, rfl⟩ rfl ho rfl rfl rfl hl.1 rfl rc0 rfl dX12_withdraw_3 ⟨Nat.le_of_ble_eq_true rfl, Nat.le_of_ble_eq_true rfl⟩ ⟨Nat.le_of_ble_eq_true rfl, Nat.le_of_ble_eq_true rfl⟩ hout hlocks (fun x hx9 => (fun h9 => ⟨(congrArg Prod.fst h9).symm, (congrArg Prod.snd h9).symm⟩) (Option.some.inj ((xk_inr hx9).symm.trans hf))) (fun v2 hv2 H locs hH => ?_)
  replace hf := (xk_inl hv2).symm.trans hf
  refine hl_aload_n hx hb dX12_withdraw_6 rfl (lv_at hl 0 rfl) ?_
  refine lv_iload_n hx hb dX12_withdraw_7 rfl (lv_at hl 2 rfl) ?_
  obtain ⟨q3, hq3, hf⟩ := bnd hf
  refine hxV_v hx hb hml hown hts hKs hT hb0 hH (As := [.int a_2]) (rest := []) (k_X12_requireComingDay l hls E K H.size o a_2 q1.2 ho hq3) (gV m6_98 m6_100 ms_42 m1_1 m6_101) hd_X12_requireComingDay ⟨Nat.le_of_ble_eq_true rfl, Nat.le_of_ble_eq_true rfl, rfl, rfl⟩ rfl ho rfl rfl rfl hl.1 rfl rc0 rfl dX12_withdraw_8 ⟨Nat.le_of_ble_eq_true rfl, Nat.le_of_ble_eq_true rfl⟩ ⟨Nat.le_of_ble_eq_true rfl, Nat.le_of_ble_eq_true rfl⟩ hout hlocks (fun x hx9 => (fun h9 => ⟨(congrArg Prod.fst h9).symm, (congrArg Prod.snd h9).symm⟩) (Option.some.inj ((xk_inr hx9).symm.trans hf))) (fun v4 hv4 H locs hH => ?_)
  replace hf := (xk_inl hv4).symm.trans hf
  refine hl_aload_n hx hb dX12_withdraw_11 rfl (lv_at hl 0 rfl) ?_
  obtain ⟨q5, hq5, hf⟩ := bnd hf
  refine hcV_v hx hb hml hown hts hKs hT hb0 hH (As := []) (rest := []) (k_X12_remember l E K H.size o q3.2 ho hq5) (gV m4_83 m4_85 ms_24 m1_1 m4_86) hd_X12_remember ⟨Nat.le_of_ble_eq_true rfl, Nat.le_of_ble_eq_true rfl, rfl, rfl⟩ rfl ho rfl rfl rfl hl.1 rfl rc0 rfl dX12_withdraw_12 ⟨Nat.le_of_ble_eq_true rfl, Nat.le_of_ble_eq_true rfl⟩ (fun H locs hH => ?_)
  refine hl_aload_n hx hb dX12_withdraw_15 rfl (lv_at hl 0 rfl) ?_
  refine g12_5 hx hb hts hown hKs hH rfl ho m2_224 dX12_withdraw_16 ?_
  obtain ⟨a6, ha6, hf⟩ := bnd hf
  replace ha6 := chk_some ha6
  refine gn10_3 hx hb hts hown hKs hH ha6.1 ha6.2 m2_129 dX12_withdraw_19 ?_
  refine lv_iload_n hx hb dX12_withdraw_22 rfl (lv_at hl 1 rfl) ?_
  refine hl_aload_n hx hb dX12_withdraw_23 rfl (lv_at hl 0 rfl) ?_
  refine g12_5 hx hb hts hown hKs hH rfl ho m2_224 dX12_withdraw_24 ?_
  refine gn10_3 hx hb hts hown hKs hH ha6.1 ha6.2 m2_129 dX12_withdraw_27 ?_
  refine lv_iload_n hx hb dX12_withdraw_30 rfl (lv_at hl 1 rfl) ?_
  obtain ⟨a7, ha7, hf⟩ := bnd hf
  replace ha7 := cha_some ha7
  obtain ⟨j8, hj8, hf⟩ := bnd hf
  refine hw_iald hx hb hKs hH ha7.1 ha7.2 hj8 dX12_withdraw_31 ?_
  refine lv_iload_n hx hb dX12_withdraw_32 rfl (lv_at hl 2 rfl) ?_
  refine lv_iconst (v := 1) hx hb dX12_withdraw_33 (by decide) ?_
  refine lv_isub hx hb dX12_withdraw_34 ?_
  obtain ⟨q9, hq9, hf⟩ := bnd hf
  refine hcS_i hx hb hml hown hts hKs hT hb0 hH (As := [.int ((aI q5 a7.1 j8)), .int ((a_2 - 1))]) (rest := [.int a_1, rv E (wR q5 1003 a6)]) (k_J9_min_7cf53 l E K H.size (aI q5 a7.1 j8) (a_2 - 1) q5 hq9) (gS m6_102 m3_54 m1_5 m3_55) hs_J9_min_7cf53 ⟨Nat.le_of_ble_eq_true rfl, Nat.le_of_ble_eq_true rfl, rfl, rfl⟩ hl.1 rfl (rcI (rcV rc0)) rfl dX12_withdraw_35 ⟨Nat.le_of_ble_eq_true rfl, Nat.le_of_ble_eq_true rfl⟩ (fun H locs hH => ?_)
  obtain ⟨j10, hj10, hf⟩ := bnd hf
  obtain ⟨w11, hw11, hf⟩ := bnd hf
  replace hw11 := Option.some.inj hw11
  refine hw_iast (x := q9.1) hx hb hKs hH ha7.1 ha7.2 hj10 dX12_withdraw_38 (fun H locs hH => ?_)
  rw [hw11] at hH
  refine lv_iconst (v := 0) hx hb dX12_withdraw_39 (by decide) ?_
  refine lv_istore_n (lv' := [(3, .int 0), (0, rv E (some o)), (1, .int a_1), (2, .int a_2)]) hx hb dX12_withdraw_40 rfl hl (by decide) rfl (fun ls hl => ?_)
  refine lv_iconst (v := 0) hx hb dX12_withdraw_41 (by decide) ?_
  refine lv_istore (lv' := [(4, .int 0), (3, .int 0), (0, rv E (some o)), (1, .int a_1), (2, .int a_2)]) hx hb dX12_withdraw_42 hl (by decide) rfl (fun ls hl => ?_)
  refine l_X12_withdraw_L44  C ho _ (fun v1_44 v2_44 v3_44 v4_44 w12 H locs ls hH hl hf => ?_) fu a_1 a_2 0 0 w11 _ _ _ hH (lv_sub hl [3, 4, 1, 0, 2] rfl) hf
  refine lv_iload_n hx hb dX12_withdraw_136 rfl (lv_at hl 2 rfl) ?_
  exact hx_iret hx hb (Nat.le_of_ble_eq_true rfl) (Nat.le_of_ble_eq_true rfl) hret hf hH hlocks dX12_withdraw_137

theorem dX12_addHoliday_0 : decode cX12_addHoliday 0 = .ok (.aload_n 0, 1) := by decide +kernel
theorem dX12_addHoliday_1 : decode cX12_addHoliday 1 = .ok (.iload_n 1, 1) := by decide +kernel
theorem dX12_addHoliday_2 : decode cX12_addHoliday 2 = .ok (.invokevirtual 348, 3) := by decide +kernel
theorem dX12_addHoliday_5 : decode cX12_addHoliday 5 = .ok (.aload_n 0, 1) := by decide +kernel
theorem dX12_addHoliday_6 : decode cX12_addHoliday 6 = .ok (.getfield 35, 3) := by decide +kernel
theorem dX12_addHoliday_9 : decode cX12_addHoliday 9 = .ok (.iload_n 1, 1) := by decide +kernel
theorem dX12_addHoliday_10 : decode cX12_addHoliday 10 = .ok (.invokevirtual 157, 3) := by decide +kernel
theorem dX12_addHoliday_13 : decode cX12_addHoliday 13 = .ok (.ifCond .eq 18, 3) := by decide +kernel
theorem dX12_addHoliday_16 : decode cX12_addHoliday 16 = .ok (.aload_n 0, 1) := by decide +kernel
theorem dX12_addHoliday_17 : decode cX12_addHoliday 17 = .ok (.getfield 35, 3) := by decide +kernel
theorem dX12_addHoliday_20 : decode cX12_addHoliday 20 = .ok (.getfield 109, 3) := by decide +kernel
theorem dX12_addHoliday_23 : decode cX12_addHoliday 23 = .ok (.getfield 113, 3) := by decide +kernel
theorem dX12_addHoliday_26 : decode cX12_addHoliday 26 = .ok (.bipush 20, 2) := by decide +kernel
theorem dX12_addHoliday_28 : decode cX12_addHoliday 28 = .ok (.if_icmp .lt 11, 3) := by decide +kernel
theorem dX12_addHoliday_31 : decode cX12_addHoliday 31 = .ok (.new 331, 3) := by decide +kernel
theorem dX12_addHoliday_34 : decode cX12_addHoliday 34 = .ok (.dup, 1) := by decide +kernel
theorem dX12_addHoliday_35 : decode cX12_addHoliday 35 = .ok (.invokespecial 333, 3) := by decide +kernel
theorem dX12_addHoliday_38 : decode cX12_addHoliday 38 = .ok (.athrow, 1) := by decide +kernel
theorem dX12_addHoliday_39 : decode cX12_addHoliday 39 = .ok (.aload_n 0, 1) := by decide +kernel
theorem dX12_addHoliday_40 : decode cX12_addHoliday 40 = .ok (.invokevirtual 325, 3) := by decide +kernel
theorem dX12_addHoliday_43 : decode cX12_addHoliday 43 = .ok (.aload_n 0, 1) := by decide +kernel
theorem dX12_addHoliday_44 : decode cX12_addHoliday 44 = .ok (.getfield 35, 3) := by decide +kernel
theorem dX12_addHoliday_47 : decode cX12_addHoliday 47 = .ok (.getfield 109, 3) := by decide +kernel
theorem dX12_addHoliday_50 : decode cX12_addHoliday 50 = .ok (.iload_n 1, 1) := by decide +kernel
theorem dX12_addHoliday_51 : decode cX12_addHoliday 51 = .ok (.invokevirtual 356, 3) := by decide +kernel
theorem dX12_addHoliday_54 : decode cX12_addHoliday 54 = .ok (.iconst 0, 1) := by decide +kernel
theorem dX12_addHoliday_55 : decode cX12_addHoliday 55 = .ok (.istore_n 2, 1) := by decide +kernel
theorem dX12_addHoliday_56 : decode cX12_addHoliday 56 = .ok (.iconst 0, 1) := by decide +kernel
theorem dX12_addHoliday_57 : decode cX12_addHoliday 57 = .ok (.istore_n 3, 1) := by decide +kernel
theorem dX12_addHoliday_58 : decode cX12_addHoliday 58 = .ok (.iload_n 3, 1) := by decide +kernel
theorem dX12_addHoliday_59 : decode cX12_addHoliday 59 = .ok (.aload_n 0, 1) := by decide +kernel
theorem dX12_addHoliday_60 : decode cX12_addHoliday 60 = .ok (.getfield 35, 3) := by decide +kernel
theorem dX12_addHoliday_63 : decode cX12_addHoliday 63 = .ok (.getfield 87, 3) := by decide +kernel
theorem dX12_addHoliday_66 : decode cX12_addHoliday 66 = .ok (.iconst 3, 1) := by decide +kernel
theorem dX12_addHoliday_67 : decode cX12_addHoliday 67 = .ok (.invokevirtual 105, 3) := by decide +kernel
theorem dX12_addHoliday_70 : decode cX12_addHoliday 70 = .ok (.if_icmp .ge 50, 3) := by decide +kernel
theorem dX12_addHoliday_73 : decode cX12_addHoliday 73 = .ok (.aload_n 0, 1) := by decide +kernel
theorem dX12_addHoliday_74 : decode cX12_addHoliday 74 = .ok (.getfield 35, 3) := by decide +kernel
theorem dX12_addHoliday_77 : decode cX12_addHoliday 77 = .ok (.getfield 213, 3) := by decide +kernel
theorem dX12_addHoliday_80 : decode cX12_addHoliday 80 = .ok (.iload_n 3, 1) := by decide +kernel
theorem dX12_addHoliday_81 : decode cX12_addHoliday 81 = .ok (.aaload, 1) := by decide +kernel
theorem dX12_addHoliday_82 : decode cX12_addHoliday 82 = .ok (.astore 4, 2) := by decide +kernel
theorem dX12_addHoliday_84 : decode cX12_addHoliday 84 = .ok (.aload 4, 2) := by decide +kernel
theorem dX12_addHoliday_86 : decode cX12_addHoliday 86 = .ok (.getfield 236, 3) := by decide +kernel
theorem dX12_addHoliday_89 : decode cX12_addHoliday 89 = .ok (.iconst 1, 1) := by decide +kernel
theorem dX12_addHoliday_90 : decode cX12_addHoliday 90 = .ok (.if_icmp .ne 24, 3) := by decide +kernel
theorem dX12_addHoliday_93 : decode cX12_addHoliday 93 = .ok (.aload 4, 2) := by decide +kernel
theorem dX12_addHoliday_95 : decode cX12_addHoliday 95 = .ok (.getfield 256, 3) := by decide +kernel
theorem dX12_addHoliday_98 : decode cX12_addHoliday 98 = .ok (.iload_n 1, 1) := by decide +kernel
theorem dX12_addHoliday_99 : decode cX12_addHoliday 99 = .ok (.if_icmp .ne 15, 3) := by decide +kernel
theorem dX12_addHoliday_102 : decode cX12_addHoliday 102 = .ok (.aload_n 0, 1) := by decide +kernel
theorem dX12_addHoliday_103 : decode cX12_addHoliday 103 = .ok (.getfield 35, 3) := by decide +kernel
theorem dX12_addHoliday_106 : decode cX12_addHoliday 106 = .ok (.iload_n 3, 1) := by decide +kernel
theorem dX12_addHoliday_107 : decode cX12_addHoliday 107 = .ok (.iconst 3, 1) := by decide +kernel
theorem dX12_addHoliday_108 : decode cX12_addHoliday 108 = .ok (.invokevirtual 345, 3) := by decide +kernel
theorem dX12_addHoliday_111 : decode cX12_addHoliday 111 = .ok (.iinc 2 1, 3) := by decide +kernel
theorem dX12_addHoliday_114 : decode cX12_addHoliday 114 = .ok (.iinc 3 1, 3) := by decide +kernel
theorem dX12_addHoliday_117 : decode cX12_addHoliday 117 = .ok (.goto (-59), 3) := by decide +kernel
theorem dX12_addHoliday_120 : decode cX12_addHoliday 120 = .ok (.iload_n 2, 1) := by decide +kernel
theorem dX12_addHoliday_121 : decode cX12_addHoliday 121 = .ok (.ireturn, 1) := by decide +kernel
theorem hd_X12_addHoliday : yX12_addHoliday.cls = RX12 ∧ yX12_addHoliday.cls ≠ "java/lang/invoke/MethodHandle" ∧ yX12_addHoliday.cls ≠ "java/lang/invoke/VarHandle" ∧ (parseMethodDescriptor yX12_addHoliday.desc).map (fun d => d.parameters.length) = some 1 := by decide +kernel
theorem hs_X12_addHoliday : yX12_addHoliday.cls ≠ "java/lang/invoke/MethodHandle" ∧ yX12_addHoliday.cls ≠ "java/lang/invoke/VarHandle" ∧ (parseMethodDescriptor yX12_addHoliday.desc).map (fun d => d.parameters.length) = some 1 := by decide +kernel
set_option maxHeartbeats 4000000 in
set_option maxRecDepth 100000 in
theorem l_X12_addHoliday_L58 (C : CX p l e s m args meth c cX12_addHoliday 5 RX12 (Option.some Jvm.ClassFile.FieldType.int) E) {o : Nat} (ho : K o = some (10, 0)) {r : Int32 ⊕ Nat} {w' : Wd} (k : Int32 → Int32 → Int32 → Wd → Option ((Int32 ⊕ Nat) × Wd)) (hk : ∀ (v1_58 : Int32) (v2_58 : Int32) (v3_58 : Int32) (w : Wd) (H : Heap) (locs : List Loc) (ls : Array Slot), HQ E K z w s H locs → lv_has ls 5 [(1, .int v1_58), (2, .int v2_58), (3, .int v3_58), (0, rv E (some o))] → k v1_58 v2_58 v3_58 w = some (r, w') → W p l e ({ frames := 7, cells := 2, slots := 12, locals := 125 } : Room) s m args below meth c H locs 1 6 (vx_MQ below (XI E K z w' r) (XX E K w' r) args s 2 12 (hA E)) (F0 m 120 ls [])) : ∀ (n : Nat) (v1_58 : Int32) (v2_58 : Int32) (v3_58 : Int32) (w : Wd) (H : Heap) (locs : List Loc) (ls : Array Slot), HQ E K z w s H locs → lv_has ls 5 [(1, .int v1_58), (2, .int v2_58), (3, .int v3_58), (0, rv E (some o))] → f_X12_addHoliday_L58 K o k n v1_58 v2_58 v3_58 w = some (r, w') → W p l e ({ frames := 7, cells := 2, slots := 12, locals := 125 } : Room) s m args below meth c H locs 1 6 (vx_MQ below (XI E K z w' r) (XX E K w' r) args s 2 12 (hA E)) (F0 m 58 ls []) := by
  obtain ⟨hx, hb, hml, hown, hts, hKs, hT, hb0, hlocks, hret⟩ := id C
  intro n
  induction n with
  | zero =>
    intro v1_58 v2_58 v3_58 w H locs ls hH hl hf
    cases hf
  | succ n ih =>
    intro v1_58 v2_58 v3_58 w H locs ls hH hl hf
    rw [f_X12_addHoliday_L58] at hf
    refine lv_iload_n hx hb dX12_addHoliday_58 rfl (lv_at hl 2 rfl) ?_
    refine hl_aload_n hx hb dX12_addHoliday_59 rfl (lv_at hl 3 rfl) ?_
    refine g12_5 hx hb hts hown hKs hH rfl ho m2_224 dX12_addHoliday_60 ?_
    obtain ⟨a14, ha14, hf⟩ := bnd hf
    replace ha14 := chk_some ha14
    refine gn10_0 hx hb hts hown hKs hH ha14.1 ha14.2 m2_122 dX12_addHoliday_63 ?_
    refine lv_iconst (v := 3) hx hb dX12_addHoliday_66 (by decide) ?_
    obtain ⟨a15, ha15, hf⟩ := bnd hf
    replace ha15 := chk_some ha15
    obtain ⟨q16, hq16, hf⟩ := bnd hf
    refine hcV_i hx hb hml hown hts hKs hT hb0 hH (As := [.int 3]) (rest := [.int v3_58]) (k_X9_size l E K H.size a15 3 w ha15.2 hq16) (gV m3_229 m3_151 m3_152 m1_2 m3_153) hd_X9_size ⟨Nat.le_of_ble_eq_true rfl, Nat.le_of_ble_eq_true rfl, rfl, rfl⟩ ha15.1 ha15.2 rfl rfl rfl hl.1 rfl (rcI rc0) rfl dX12_addHoliday_67 ⟨Nat.le_of_ble_eq_true rfl, Nat.le_of_ble_eq_true rfl⟩ (fun H locs hH => ?_)
    refine lv_icmp_ge (tgt := 120) hx hb dX12_addHoliday_70 (by decide) (fun c17 => ?_) (fun c17 => ?_)
    · replace hf := (if_pos c17).symm.trans hf
      exact hk v1_58 v2_58 v3_58 _ _ _ _ hH (lv_sub hl [0, 1, 2, 3] rfl) hf
    · replace hf := (if_neg c17).symm.trans hf
      refine hl_aload_n hx hb dX12_addHoliday_73 rfl (lv_at hl 3 rfl) ?_
      refine g12_5 hx hb hts hown hKs hH rfl ho m2_224 dX12_addHoliday_74 ?_
      obtain ⟨a18, ha18, hf⟩ := bnd hf
      replace ha18 := chk_some ha18
      refine gn10_5 hx hb hts hown hKs hH ha18.1 ha18.2 m2_135 dX12_addHoliday_77 ?_
      refine lv_iload_n hx hb dX12_addHoliday_80 rfl (lv_at hl 2 rfl) ?_
      obtain ⟨a19, ha19, hf⟩ := bnd hf
      replace ha19 := cha_some ha19
      obtain ⟨j20, hj20, hf⟩ := bnd hf
      refine hw_aald27 hx hb hKs hH ha19.1 ha19.2 hj20 dX12_addHoliday_81 ?_
      refine hl_astore (lv' := [(4, rv E (aR q16.2 a19.1 j20)), (1, .int v1_58), (2, .int v2_58), (3, .int v3_58), (0, rv E (some o))]) hx hb dX12_addHoliday_82 hl (by decide) rfl (fun ls hl => ?_)
      refine hl_aload hx hb dX12_addHoliday_84 (lv_at hl 0 rfl) ?_
      obtain ⟨a21, ha21, hf⟩ := bnd hf
      replace ha21 := chk_some ha21
      refine gn7_0 hx hb hts hown hKs hH ha21.1 ha21.2 m2_71 dX12_addHoliday_86 ?_
      refine lv_iconst (v := 1) hx hb dX12_addHoliday_89 (by decide) ?_
      refine lv_icmp_ne (tgt := 114) hx hb dX12_addHoliday_90 (by decide) (fun c22 => ?_) (fun c22 => ?_)
      · replace hf := (if_neg c22).symm.trans hf
        refine lv_iinc (v := (v3_58 + 1)) (lv' := [(3, .int ((v3_58 + 1))), (4, rv E (aR q16.2 a19.1 j20)), (1, .int v1_58), (2, .int v2_58), (0, rv E (some o))]) hx hb dX12_addHoliday_114 hl (k := 3) rfl rfl (by decide) rfl (fun ls hl => ?_)
        refine lv_goto (tgt := 58) hx hb dX12_addHoliday_117 (by decide) ?_
        exact ih v1_58 v2_58 (v3_58 + 1) _ _ _ _ hH (lv_sub hl [2, 3, 0, 4] rfl) hf
      · replace hf := (if_pos c22).symm.trans hf
        refine hl_aload hx hb dX12_addHoliday_93 (lv_at hl 0 rfl) ?_
        refine gn7_2 hx hb hts hown hKs hH ha21.1 ha21.2 m2_77 dX12_addHoliday_95 ?_
        refine lv_iload_n hx hb dX12_addHoliday_98 rfl (lv_at hl 1 rfl) ?_
        refine lv_icmp_ne (tgt := 114) hx hb dX12_addHoliday_99 (by decide) (fun c23 => ?_) (fun c23 => ?_)
        · replace hf := (if_neg c23).symm.trans hf
          refine lv_iinc (v := (v3_58 + 1)) (lv' := [(3, .int ((v3_58 + 1))), (4, rv E (aR q16.2 a19.1 j20)), (1, .int v1_58), (2, .int v2_58), (0, rv E (some o))]) hx hb dX12_addHoliday_114 hl (k := 3) rfl rfl (by decide) rfl (fun ls hl => ?_)
          refine lv_goto (tgt := 58) hx hb dX12_addHoliday_117 (by decide) ?_
          exact ih v1_58 v2_58 (v3_58 + 1) _ _ _ _ hH (lv_sub hl [2, 3, 0, 4] rfl) hf
        · replace hf := (if_pos c23).symm.trans hf
          refine hl_aload_n hx hb dX12_addHoliday_102 rfl (lv_at hl 4 rfl) ?_
          refine g12_5 hx hb hts hown hKs hH rfl ho m2_224 dX12_addHoliday_103 ?_
          refine lv_iload_n hx hb dX12_addHoliday_106 rfl (lv_at hl 3 rfl) ?_
          refine lv_iconst (v := 3) hx hb dX12_addHoliday_107 (by decide) ?_
          obtain ⟨q24, hq24, hf⟩ := bnd hf
          refine hcV_v hx hb hml hown hts hKs hT hb0 hH (As := [.int v3_58, .int 3]) (rest := []) (k_X10_takeAway l E K H.size a18 v3_58 3 q16.2 ha18.2 hq24) (gV m6_81 m6_82 m6_83 m1_12 m6_84) hd_X10_takeAway ⟨Nat.le_of_ble_eq_true rfl, Nat.le_of_ble_eq_true rfl, rfl, rfl⟩ ha18.1 ha18.2 rfl rfl rfl hl.1 rfl rc0 rfl dX12_addHoliday_108 ⟨Nat.le_of_ble_eq_true rfl, Nat.le_of_ble_eq_true rfl⟩ (fun H locs hH => ?_)
          refine lv_iinc (v := (v2_58 + 1)) (lv' := [(2, .int ((v2_58 + 1))), (4, rv E (aR q16.2 a19.1 j20)), (1, .int v1_58), (3, .int v3_58), (0, rv E (some o))]) hx hb dX12_addHoliday_111 hl (k := 2) rfl rfl (by decide) rfl (fun ls hl => ?_)
          refine lv_iinc (v := (v3_58 + 1)) (lv' := [(3, .int ((v3_58 + 1))), (2, .int ((v2_58 + 1))), (4, rv E (aR q16.2 a19.1 j20)), (1, .int v1_58), (0, rv E (some o))]) hx hb dX12_addHoliday_114 hl (k := 3) rfl rfl (by decide) rfl (fun ls hl => ?_)
          refine lv_goto (tgt := 58) hx hb dX12_addHoliday_117 (by decide) ?_
          exact ih v1_58 (v2_58 + 1) (v3_58 + 1) _ _ _ _ hH (lv_sub hl [3, 1, 0, 4] rfl) hf
set_option maxHeartbeats 4000000 in
set_option maxRecDepth 100000 in
theorem k_X12_addHoliday (l : Launch) (hls : l.stackTraces = false) (E : Ev) (K : Kd) (z : Nat) (o : Nat) (a_1 : Int32) (w : Wd) (ho : K o = some (10, 0)) {r : Int32 ⊕ Nat} {w' : Wd} (hf : f_X12_addHoliday K o a_1 w = some (r, w')) : vx_Met l yX12_addHoliday (Cond.code yX12_addHoliday cX12_addHoliday 5 (Option.some Jvm.ClassFile.FieldType.int) :: bt) ({ frames := 7, cells := 2, slots := 12, locals := 125 } : Room) (va_Pc [rv E (some o), .int a_1] (HB E K w z)) (XI E K z w' r) (XX E K w' r) 2 12 (hA E) := by
  refine vx_ofW (cc := cX12_addHoliday) (maxL := 5) (ret := (Option.some Jvm.ClassFile.FieldType.int)) (by decide) rfl ?_
  intro p e s m args below meth c s₁ B hml hout hv
  obtain ⟨rfl, hz, hP, hKs, hT, hb0⟩ := hv
  have C : CX p l e s m _ meth c cX12_addHoliday 5 RX12 (Option.some Jvm.ClassFile.FieldType.int) E := ⟨B.exec, B.bytes, hml, findClass_of_methodNamed B.named, fun w h => atoms_spec (ws := Cond.code yX12_addHoliday cX12_addHoliday 5 (Option.some Jvm.ClassFile.FieldType.int) :: bt) B.pre w (List.mem_cons_of_mem _ h), hKs, hT, by rw [hz]; exact hb0, B.notSynchronized, B.returns⟩
  have hH : HQ E K z w s s.heap [] := ⟨hP, va_S.rf, hz⟩
  obtain ⟨hx, hb, hml, hown, hts, hKs, hT, hb0, hlocks, hret⟩ := id C
  have hl := lv_entry [rv E (some o), .int a_1] (n := 5) (by simp [lg_len_nil, lg_len_i, lg_len_j, lg_len_q, lg_len_f, lg_len_d, lg_len_r])
  rw [lg_entry_eq]
  generalize (lg_sl [rv E (some o), .int a_1] ++ List.replicate (5 - (lg_sl [rv E (some o), .int a_1]).length) Slot.unset).toArray = ls at hl ⊢
  replace hl : lv_has ls 5 [(0, rv E (some o)), (1, .int a_1)] := by simpa only [lv_args, cat_q, cat_i, cat_j, reduceIte, Nat.reduceEqDiff, Nat.reduceAdd, Nat.zero_add] using hl
  generalize s.heap = H at hH ⊢
  unfold f_X12_addHoliday at hf
  refine hl_aload_n hx hb dX12_addHoliday_0 rfl (lv_at hl 0 rfl) ?_
  refine lv_iload_n hx hb dX12_addHoliday_1 rfl (lv_at hl 1 rfl) ?_
  obtain ⟨q1, hq1, hf⟩ := bnd hf
  refine hxV_v hx hb hml hown hts hKs hT hb0 hH (As := [.int a_1]) (rest := []) (k_X12_requireComingDay l hls E K H.size o a_1 w ho hq1) (gV m6_98 m6_100 ms_42 m1_1 m6_101) hd_X12_requireComingDay ⟨Nat.le_of_ble_eq_true rfl, Nat.le_of_ble_eq_true rfl, rfl, rfl⟩ rfl ho rfl rfl rfl hl.1 rfl rc0 rfl dX12_addHoliday_2 ⟨Nat.le_of_ble_eq_true rfl, Nat.le_of_ble_eq_true rfl⟩ ⟨Nat.le_of_ble_eq_true rfl, Nat.le_of_ble_eq_true rfl⟩ hout hlocks (fun x hx9 => (fun h9 => ⟨(congrArg Prod.fst h9).symm, (congrArg Prod.snd h9).symm⟩) (Option.some.inj ((xk_inr hx9).symm.trans hf))) (fun v2 hv2 H locs hH => ?_)
  replace hf := (xk_inl hv2).symm.trans hf
  refine hl_aload_n hx hb dX12_addHoliday_5 rfl (lv_at hl 0 rfl) ?_
  refine g12_5 hx hb hts hown hKs hH rfl ho m2_224 dX12_addHoliday_6 ?_
  refine lv_iload_n hx hb dX12_addHoliday_9 rfl (lv_at hl 1 rfl) ?_
  obtain ⟨a3, ha3, hf⟩ := bnd hf
  replace ha3 := chk_some ha3
  obtain ⟨q4, hq4, hf⟩ := bnd hf
  refine hcV_i hx hb hml hown hts hKs hT hb0 hH (As := [.int a_1]) (rest := []) (k_X10_works l E K H.size a3 a_1 q1.2 ha3.2 hq4) (gV m5_59 m4_71 m4_72 m1_12 m4_73) hd_X10_works ⟨Nat.le_of_ble_eq_true rfl, Nat.le_of_ble_eq_true rfl, rfl, rfl⟩ ha3.1 ha3.2 rfl rfl rfl hl.1 rfl rc0 rfl dX12_addHoliday_10 ⟨Nat.le_of_ble_eq_true rfl, Nat.le_of_ble_eq_true rfl⟩ (fun H locs hH => ?_)
  refine lv_if_eq (tgt := 31) hx hb dX12_addHoliday_13 (by decide) (fun c5 => ?_) (fun c5 => ?_)
  · replace hf := (if_pos c5).symm.trans hf
    exact hx_throw hx hb hls (code := 3) hml hl.1 hown hts hKs hT hb0 hH (by decide) rfl m5_195 m1_29 hat_RX12_333 dX12_addHoliday_31 dX12_addHoliday_34 dX12_addHoliday_35 dX12_addHoliday_38 hout (Nat.le_of_ble_eq_true rfl) rc0 (Nat.le_of_ble_eq_true rfl) (Nat.le_of_ble_eq_true rfl) (Nat.le_of_ble_eq_true rfl) hlocks hf (Nat.le_of_ble_eq_true rfl) (Nat.le_of_ble_eq_true rfl)
  · replace hf := (if_neg c5).symm.trans hf
    refine hl_aload_n hx hb dX12_addHoliday_16 rfl (lv_at hl 0 rfl) ?_
    refine g12_5 hx hb hts hown hKs hH rfl ho m2_224 dX12_addHoliday_17 ?_
    obtain ⟨a6, ha6, hf⟩ := bnd hf
    replace ha6 := chk_some ha6
    refine gn10_2 hx hb hts hown hKs hH ha6.1 ha6.2 m2_127 dX12_addHoliday_20 ?_
    obtain ⟨a7, ha7, hf⟩ := bnd hf
    replace ha7 := chk_some ha7
    refine gn2_1 hx hb hts hown hKs hH ha7.1 ha7.2 m1_58 dX12_addHoliday_23 ?_
    refine lv_bipush (v := 20) hx hb dX12_addHoliday_26 (by decide) ?_
    refine lv_icmp_lt (tgt := 39) hx hb dX12_addHoliday_28 (by decide) (fun c8 => ?_) (fun c8 => ?_)
    · replace hf := (if_pos c8).symm.trans hf
      refine hl_aload_n hx hb dX12_addHoliday_39 rfl (lv_at hl 0 rfl) ?_
      obtain ⟨q9, hq9, hf⟩ := bnd hf
      refine hcV_v hx hb hml hown hts hKs hT hb0 hH (As := []) (rest := []) (k_X12_remember l E K H.size o q4.2 ho hq9) (gV m4_83 m4_85 ms_24 m1_1 m4_86) hd_X12_remember ⟨Nat.le_of_ble_eq_true rfl, Nat.le_of_ble_eq_true rfl, rfl, rfl⟩ rfl ho rfl rfl rfl hl.1 rfl rc0 rfl dX12_addHoliday_40 ⟨Nat.le_of_ble_eq_true rfl, Nat.le_of_ble_eq_true rfl⟩ (fun H locs hH => ?_)
      refine hl_aload_n hx hb dX12_addHoliday_43 rfl (lv_at hl 0 rfl) ?_
      refine g12_5 hx hb hts hown hKs hH rfl ho m2_224 dX12_addHoliday_44 ?_
      obtain ⟨a10, ha10, hf⟩ := bnd hf
      replace ha10 := chk_some ha10
      refine gn10_2 hx hb hts hown hKs hH ha10.1 ha10.2 m2_127 dX12_addHoliday_47 ?_
      refine lv_iload_n hx hb dX12_addHoliday_50 rfl (lv_at hl 1 rfl) ?_
      obtain ⟨a11, ha11, hf⟩ := bnd hf
      replace ha11 := chk_some ha11
      obtain ⟨q12, hq12, hf⟩ := bnd hf
      refine hcV_v hx hb hml hown hts hKs hT hb0 hH (As := [.int a_1]) (rest := []) (k_X2_add l E K H.size a11 a_1 q9 ha11.2 hq12) (gV m6_110 m3_111 m3_112 m1_3 m3_113) hd_X2_add ⟨Nat.le_of_ble_eq_true rfl, Nat.le_of_ble_eq_true rfl, rfl, rfl⟩ ha11.1 ha11.2 rfl rfl rfl hl.1 rfl rc0 rfl dX12_addHoliday_51 ⟨Nat.le_of_ble_eq_true rfl, Nat.le_of_ble_eq_true rfl⟩ (fun H locs hH => ?_)
      refine lv_iconst (v := 0) hx hb dX12_addHoliday_54 (by decide) ?_
      refine lv_istore_n (lv' := [(2, .int 0), (0, rv E (some o)), (1, .int a_1)]) hx hb dX12_addHoliday_55 rfl hl (by decide) rfl (fun ls hl => ?_)
      refine lv_iconst (v := 0) hx hb dX12_addHoliday_56 (by decide) ?_
      refine lv_istore_n (lv' := [(3, .int 0), (2, .int 0), (0, rv E (some o)), (1, .int a_1)]) hx hb dX12_addHoliday_57 rfl hl (by decide) rfl (fun ls hl => ?_)
      refine l_X12_addHoliday_L58  C ho _ (fun v1_58 v2_58 v3_58 w13 H locs ls hH hl hf => ?_) fu a_1 0 0 q12 _ _ _ hH (lv_sub hl [3, 1, 0, 2] rfl) hf
      refine lv_iload_n hx hb dX12_addHoliday_120 rfl (lv_at hl 1 rfl) ?_
      exact hx_iret hx hb (Nat.le_of_ble_eq_true rfl) (Nat.le_of_ble_eq_true rfl) hret hf hH hlocks dX12_addHoliday_121
    · replace hf := (if_neg c8).symm.trans hf
      exact hx_throw hx hb hls (code := 3) hml hl.1 hown hts hKs hT hb0 hH (by decide) rfl m5_195 m1_29 hat_RX12_333 dX12_addHoliday_31 dX12_addHoliday_34 dX12_addHoliday_35 dX12_addHoliday_38 hout (Nat.le_of_ble_eq_true rfl) rc0 (Nat.le_of_ble_eq_true rfl) (Nat.le_of_ble_eq_true rfl) (Nat.le_of_ble_eq_true rfl) hlocks hf (Nat.le_of_ble_eq_true rfl) (Nat.le_of_ble_eq_true rfl)

theorem dX12_addBar_0 : decode cX12_addBar 0 = .ok (.aload_n 0, 1) := by decide +kernel
theorem dX12_addBar_1 : decode cX12_addBar 1 = .ok (.iconst 1, 1) := by decide +kernel
theorem dX12_addBar_2 : decode cX12_addBar 2 = .ok (.iload_n 1, 1) := by decide +kernel
theorem dX12_addBar_3 : decode cX12_addBar 3 = .ok (.invokevirtual 175, 3) := by decide +kernel
theorem dX12_addBar_6 : decode cX12_addBar 6 = .ok (.aload_n 0, 1) := by decide +kernel
theorem dX12_addBar_7 : decode cX12_addBar 7 = .ok (.iconst 3, 1) := by decide +kernel
theorem dX12_addBar_8 : decode cX12_addBar 8 = .ok (.iload_n 2, 1) := by decide +kernel
theorem dX12_addBar_9 : decode cX12_addBar 9 = .ok (.invokevirtual 175, 3) := by decide +kernel
theorem dX12_addBar_12 : decode cX12_addBar 12 = .ok (.aload_n 0, 1) := by decide +kernel
theorem dX12_addBar_13 : decode cX12_addBar 13 = .ok (.getfield 35, 3) := by decide +kernel
theorem dX12_addBar_16 : decode cX12_addBar 16 = .ok (.getfield 359, 3) := by decide +kernel
theorem dX12_addBar_19 : decode cX12_addBar 19 = .ok (.iload_n 2, 1) := by decide +kernel
theorem dX12_addBar_20 : decode cX12_addBar 20 = .ok (.iaload, 1) := by decide +kernel
theorem dX12_addBar_21 : decode cX12_addBar 21 = .ok (.iload_n 1, 1) := by decide +kernel
theorem dX12_addBar_22 : decode cX12_addBar 22 = .ok (.invokestatic 203, 3) := by decide +kernel
theorem dX12_addBar_25 : decode cX12_addBar 25 = .ok (.ifCond .eq 11, 3) := by decide +kernel
theorem dX12_addBar_28 : decode cX12_addBar 28 = .ok (.new 331, 3) := by decide +kernel
theorem dX12_addBar_31 : decode cX12_addBar 31 = .ok (.dup, 1) := by decide +kernel
theorem dX12_addBar_32 : decode cX12_addBar 32 = .ok (.invokespecial 333, 3) := by decide +kernel
theorem dX12_addBar_35 : decode cX12_addBar 35 = .ok (.athrow, 1) := by decide +kernel
theorem dX12_addBar_36 : decode cX12_addBar 36 = .ok (.aload_n 0, 1) := by decide +kernel
theorem dX12_addBar_37 : decode cX12_addBar 37 = .ok (.invokevirtual 325, 3) := by decide +kernel
theorem dX12_addBar_40 : decode cX12_addBar 40 = .ok (.aload_n 0, 1) := by decide +kernel
theorem dX12_addBar_41 : decode cX12_addBar 41 = .ok (.getfield 35, 3) := by decide +kernel
theorem dX12_addBar_44 : decode cX12_addBar 44 = .ok (.getfield 359, 3) := by decide +kernel
theorem dX12_addBar_47 : decode cX12_addBar 47 = .ok (.iload_n 2, 1) := by decide +kernel
theorem dX12_addBar_48 : decode cX12_addBar 48 = .ok (.dup2, 1) := by decide +kernel
theorem dX12_addBar_49 : decode cX12_addBar 49 = .ok (.iaload, 1) := by decide +kernel
theorem dX12_addBar_50 : decode cX12_addBar 50 = .ok (.iconst 1, 1) := by decide +kernel
theorem dX12_addBar_51 : decode cX12_addBar 51 = .ok (.iload_n 1, 1) := by decide +kernel
theorem dX12_addBar_52 : decode cX12_addBar 52 = .ok (.ishl, 1) := by decide +kernel
theorem dX12_addBar_53 : decode cX12_addBar 53 = .ok (.ior, 1) := by decide +kernel
theorem dX12_addBar_54 : decode cX12_addBar 54 = .ok (.iastore, 1) := by decide +kernel
theorem dX12_addBar_55 : decode cX12_addBar 55 = .ok (.aload_n 0, 1) := by decide +kernel
theorem dX12_addBar_56 : decode cX12_addBar 56 = .ok (.getfield 35, 3) := by decide +kernel
theorem dX12_addBar_59 : decode cX12_addBar 59 = .ok (.getfield 213, 3) := by decide +kernel
theorem dX12_addBar_62 : decode cX12_addBar 62 = .ok (.iload_n 2, 1) := by decide +kernel
theorem dX12_addBar_63 : decode cX12_addBar 63 = .ok (.aaload, 1) := by decide +kernel
theorem dX12_addBar_64 : decode cX12_addBar 64 = .ok (.astore_n 3, 1) := by decide +kernel
theorem dX12_addBar_65 : decode cX12_addBar 65 = .ok (.aload_n 3, 1) := by decide +kernel
theorem dX12_addBar_66 : decode cX12_addBar 66 = .ok (.getfield 236, 3) := by decide +kernel
theorem dX12_addBar_69 : decode cX12_addBar 69 = .ok (.iconst 1, 1) := by decide +kernel
theorem dX12_addBar_70 : decode cX12_addBar 70 = .ok (.if_icmp .ne 15, 3) := by decide +kernel
theorem dX12_addBar_73 : decode cX12_addBar 73 = .ok (.aload_n 3, 1) := by decide +kernel
theorem dX12_addBar_74 : decode cX12_addBar 74 = .ok (.getfield 263, 3) := by decide +kernel
theorem dX12_addBar_77 : decode cX12_addBar 77 = .ok (.iload_n 1, 1) := by decide +kernel
theorem dX12_addBar_78 : decode cX12_addBar 78 = .ok (.if_icmp .ne 7, 3) := by decide +kernel
theorem dX12_addBar_81 : decode cX12_addBar 81 = .ok (.iconst 1, 1) := by decide +kernel
theorem dX12_addBar_82 : decode cX12_addBar 82 = .ok (.goto 4, 3) := by decide +kernel
theorem dX12_addBar_85 : decode cX12_addBar 85 = .ok (.iconst 0, 1) := by decide +kernel
theorem dX12_addBar_86 : decode cX12_addBar 86 = .ok (.istore 4, 2) := by decide +kernel
theorem dX12_addBar_88 : decode cX12_addBar 88 = .ok (.iload 4, 2) := by decide +kernel
theorem dX12_addBar_90 : decode cX12_addBar 90 = .ok (.ifCond .eq 12, 3) := by decide +kernel
theorem dX12_addBar_93 : decode cX12_addBar 93 = .ok (.aload_n 0, 1) := by decide +kernel
theorem dX12_addBar_94 : decode cX12_addBar 94 = .ok (.getfield 35, 3) := by decide +kernel
theorem dX12_addBar_97 : decode cX12_addBar 97 = .ok (.iload_n 2, 1) := by decide +kernel
theorem dX12_addBar_98 : decode cX12_addBar 98 = .ok (.iconst 1, 1) := by decide +kernel
theorem dX12_addBar_99 : decode cX12_addBar 99 = .ok (.invokevirtual 345, 3) := by decide +kernel
theorem dX12_addBar_102 : decode cX12_addBar 102 = .ok (.iload 4, 2) := by decide +kernel
theorem dX12_addBar_104 : decode cX12_addBar 104 = .ok (.ireturn, 1) := by decide +kernel
theorem hd_X12_addBar : yX12_addBar.cls = RX12 ∧ yX12_addBar.cls ≠ "java/lang/invoke/MethodHandle" ∧ yX12_addBar.cls ≠ "java/lang/invoke/VarHandle" ∧ (parseMethodDescriptor yX12_addBar.desc).map (fun d => d.parameters.length) = some 2 := by decide +kernel
theorem hs_X12_addBar : yX12_addBar.cls ≠ "java/lang/invoke/MethodHandle" ∧ yX12_addBar.cls ≠ "java/lang/invoke/VarHandle" ∧ (parseMethodDescriptor yX12_addBar.desc).map (fun d => d.parameters.length) = some 2 := by decide +kernel
set_option maxHeartbeats 4000000 in
set_option maxRecDepth 100000 in
theorem k_X12_addBar (l : Launch) (hls : l.stackTraces = false) (E : Ev) (K : Kd) (z : Nat) (o : Nat) (a_1 : Int32) (a_2 : Int32) (w : Wd) (ho : K o = some (10, 0)) {r : Bool ⊕ Nat} {w' : Wd} (hf : f_X12_addBar K o a_1 a_2 w = some (r, w')) : vx_Met l yX12_addBar (Cond.code yX12_addBar cX12_addBar 5 (Option.some Jvm.ClassFile.FieldType.boolean) :: bt) ({ frames := 7, cells := 3, slots := 18, locals := 125 } : Room) (va_Pc [rv E (some o), .int a_1, .int a_2] (HB E K w z)) (XZ E K z w' r) (XX E K w' r) 3 18 (hA E) := by
  refine vx_ofW (cc := cX12_addBar) (maxL := 5) (ret := (Option.some Jvm.ClassFile.FieldType.boolean)) (by decide) rfl ?_
  intro p e s m args below meth c s₁ B hml hout hv
  obtain ⟨rfl, hz, hP, hKs, hT, hb0⟩ := hv
  have C : CX p l e s m _ meth c cX12_addBar 5 RX12 (Option.some Jvm.ClassFile.FieldType.boolean) E := ⟨B.exec, B.bytes, hml, findClass_of_methodNamed B.named, fun w h => atoms_spec (ws := Cond.code yX12_addBar cX12_addBar 5 (Option.some Jvm.ClassFile.FieldType.boolean) :: bt) B.pre w (List.mem_cons_of_mem _ h), hKs, hT, by rw [hz]; exact hb0, B.notSynchronized, B.returns⟩
  have hH : HQ E K z w s s.heap [] := ⟨hP, va_S.rf, hz⟩
  obtain ⟨hx, hb, hml, hown, hts, hKs, hT, hb0, hlocks, hret⟩ := id C
  have hl := lv_entry [rv E (some o), .int a_1, .int a_2] (n := 5) (by simp [lg_len_nil, lg_len_i, lg_len_j, lg_len_q, lg_len_f, lg_len_d, lg_len_r])
  rw [lg_entry_eq]
  generalize (lg_sl [rv E (some o), .int a_1, .int a_2] ++ List.replicate (5 - (lg_sl [rv E (some o), .int a_1, .int a_2]).length) Slot.unset).toArray = ls at hl ⊢
  replace hl : lv_has ls 5 [(0, rv E (some o)), (1, .int a_1), (2, .int a_2)] := by simpa only [lv_args, cat_q, cat_i, cat_j, reduceIte, Nat.reduceEqDiff, Nat.reduceAdd, Nat.zero_add] using hl
  generalize s.heap = H at hH ⊢
  unfold f_X12_addBar at hf
  refine hl_aload_n hx hb dX12_addBar_0 rfl (lv_at hl 0 rfl) ?_
  refine lv_iconst (v := 1) hx hb dX12_addBar_1 (by decide) ?_
  refine lv_iload_n hx hb dX12_addBar_2 rfl (lv_at hl 1 rfl) ?_
  obtain ⟨q1, hq1, hf⟩ := bnd hf
  refine hxV_v hx hb hml hown hts hKs hT hb0 hH (As := [.int 1, .int a_1]) (rest := []) (k_X12_requireExisting l hls E K H.size o 1 a_1 w ho hq1) (gV m5_91 m5_93 ms_37 m1_1 m5_94) hd_X12_requireExisting ⟨Nat.le_of_ble_eq_true rfl, Nat.le_of_ble_eq_true rfl, rfl, rfl⟩ rfl ho rfl rfl rfl hl.1 rfl rc0 rfl dX12_addBar_3 ⟨Nat.le_of_ble_eq_true rfl, Nat.le_of_ble_eq_true rfl⟩ ⟨Nat.le_of_ble_eq_true rfl, Nat.le_of_ble_eq_true rfl⟩ hout hlocks (fun x hx9 => (fun h9 => ⟨(congrArg Prod.fst h9).symm, (congrArg Prod.snd h9).symm⟩) (Option.some.inj ((xk_inr hx9).symm.trans hf))) (fun v2 hv2 H locs hH => ?_)
  replace hf := (xk_inl hv2).symm.trans hf
  refine hl_aload_n hx hb dX12_addBar_6 rfl (lv_at hl 0 rfl) ?_
  refine lv_iconst (v := 3) hx hb dX12_addBar_7 (by decide) ?_
  refine lv_iload_n hx hb dX12_addBar_8 rfl (lv_at hl 2 rfl) ?_
  obtain ⟨q3, hq3, hf⟩ := bnd hf
  refine hxV_v hx hb hml hown hts hKs hT hb0 hH (As := [.int 3, .int a_2]) (rest := []) (k_X12_requireExisting l hls E K H.size o 3 a_2 q1.2 ho hq3) (gV m5_91 m5_93 ms_37 m1_1 m5_94) hd_X12_requireExisting ⟨Nat.le_of_ble_eq_true rfl, Nat.le_of_ble_eq_true rfl, rfl, rfl⟩ rfl ho rfl rfl rfl hl.1 rfl rc0 rfl dX12_addBar_9 ⟨Nat.le_of_ble_eq_true rfl, Nat.le_of_ble_eq_true rfl⟩ ⟨Nat.le_of_ble_eq_true rfl, Nat.le_of_ble_eq_true rfl⟩ hout hlocks (fun x hx9 => (fun h9 => ⟨(congrArg Prod.fst h9).symm, (congrArg Prod.snd h9).symm⟩) (Option.some.inj ((xk_inr hx9).symm.trans hf))) (fun v4 hv4 H locs hH => ?_)
  replace hf := (xk_inl hv4).symm.trans hf
  refine hl_aload_n hx hb dX12_addBar_12 rfl (lv_at hl 0 rfl) ?_
  refine g12_5 hx hb hts hown hKs hH rfl ho m2_224 dX12_addBar_13 ?_
  obtain ⟨a5, ha5, hf⟩ := bnd hf
  replace ha5 := chk_some ha5
  refine gn10_4 hx hb hts hown hKs hH ha5.1 ha5.2 m2_132 dX12_addBar_16 ?_
  refine lv_iload_n hx hb dX12_addBar_19 rfl (lv_at hl 2 rfl) ?_
  obtain ⟨a6, ha6, hf⟩ := bnd hf
  replace ha6 := cha_some ha6
  obtain ⟨j7, hj7, hf⟩ := bnd hf
  refine hw_iald hx hb hKs hH ha6.1 ha6.2 hj7 dX12_addBar_20 ?_
  refine lv_iload_n hx hb dX12_addBar_21 rfl (lv_at hl 1 rfl) ?_
  obtain ⟨q8, hq8, hf⟩ := bnd hf
  refine hcS_i hx hb hml hown hts hKs hT hb0 hH (As := [.int ((aI q3.2 a6.1 j7)), .int a_1]) (rest := []) (k_X12_has l E K H.size (aI q3.2 a6.1 j7) a_1 q3.2 hq8) (gS m5_130 m3_194 m1_1 m3_195) hs_X12_has ⟨Nat.le_of_ble_eq_true rfl, Nat.le_of_ble_eq_true rfl, rfl, rfl⟩ hl.1 rfl rc0 rfl dX12_addBar_22 ⟨Nat.le_of_ble_eq_true rfl, Nat.le_of_ble_eq_true rfl⟩ (fun H locs hH => ?_)
  refine lv_if_eq (tgt := 36) hx hb dX12_addBar_25 (by decide) (fun c9 => ?_) (fun c9 => ?_)
  · replace hf := (if_pos c9).symm.trans hf
    refine hl_aload_n hx hb dX12_addBar_36 rfl (lv_at hl 0 rfl) ?_
    obtain ⟨q10, hq10, hf⟩ := bnd hf
    refine hcV_v hx hb hml hown hts hKs hT hb0 hH (As := []) (rest := []) (k_X12_remember l E K H.size o q8.2 ho hq10) (gV m4_83 m4_85 ms_24 m1_1 m4_86) hd_X12_remember ⟨Nat.le_of_ble_eq_true rfl, Nat.le_of_ble_eq_true rfl, rfl, rfl⟩ rfl ho rfl rfl rfl hl.1 rfl rc0 rfl dX12_addBar_37 ⟨Nat.le_of_ble_eq_true rfl, Nat.le_of_ble_eq_true rfl⟩ (fun H locs hH => ?_)
    refine hl_aload_n hx hb dX12_addBar_40 rfl (lv_at hl 0 rfl) ?_
    refine g12_5 hx hb hts hown hKs hH rfl ho m2_224 dX12_addBar_41 ?_
    obtain ⟨a11, ha11, hf⟩ := bnd hf
    replace ha11 := chk_some ha11
    refine gn10_4 hx hb hts hown hKs hH ha11.1 ha11.2 m2_132 dX12_addBar_44 ?_
    refine lv_iload_n hx hb dX12_addBar_47 rfl (lv_at hl 2 rfl) ?_
    refine lv_dup2_11 hx hb dX12_addBar_48 rfl rv_cat ?_
    obtain ⟨a12, ha12, hf⟩ := bnd hf
    replace ha12 := cha_some ha12
    obtain ⟨j13, hj13, hf⟩ := bnd hf
    refine hw_iald hx hb hKs hH ha12.1 ha12.2 hj13 dX12_addBar_49 ?_
    refine lv_iconst (v := 1) hx hb dX12_addBar_50 (by decide) ?_
    refine lv_iload_n hx hb dX12_addBar_51 rfl (lv_at hl 1 rfl) ?_
    refine lv_ishl hx hb dX12_addBar_52 ?_
    refine lv_ior hx hb dX12_addBar_53 ?_
    obtain ⟨j14, hj14, hf⟩ := bnd hf
    obtain ⟨w15, hw15, hf⟩ := bnd hf
    replace hw15 := Option.some.inj hw15
    refine hw_iast (x := ((aI q10 a12.1 j13) ||| (1 <<< (a_1 &&& 31)))) hx hb hKs hH ha12.1 ha12.2 hj14 dX12_addBar_54 (fun H locs hH => ?_)
    rw [hw15] at hH
    refine hl_aload_n hx hb dX12_addBar_55 rfl (lv_at hl 0 rfl) ?_
    refine g12_5 hx hb hts hown hKs hH rfl ho m2_224 dX12_addBar_56 ?_
    obtain ⟨a16, ha16, hf⟩ := bnd hf
    replace ha16 := chk_some ha16
    refine gn10_5 hx hb hts hown hKs hH ha16.1 ha16.2 m2_135 dX12_addBar_59 ?_
    refine lv_iload_n hx hb dX12_addBar_62 rfl (lv_at hl 2 rfl) ?_
    obtain ⟨a17, ha17, hf⟩ := bnd hf
    replace ha17 := cha_some ha17
    obtain ⟨j18, hj18, hf⟩ := bnd hf
    refine hw_aald27 hx hb hKs hH ha17.1 ha17.2 hj18 dX12_addBar_63 ?_
    refine hl_astore_n (lv' := [(3, rv E (aR w15 a17.1 j18)), (0, rv E (some o)), (1, .int a_1), (2, .int a_2)]) hx hb dX12_addBar_64 rfl hl (by decide) rfl (fun ls hl => ?_)
    refine hl_aload_n hx hb dX12_addBar_65 rfl (lv_at hl 0 rfl) ?_
    obtain ⟨a19, ha19, hf⟩ := bnd hf
    replace ha19 := chk_some ha19
    refine gn7_0 hx hb hts hown hKs hH ha19.1 ha19.2 m2_71 dX12_addBar_66 ?_
    refine lv_iconst (v := 1) hx hb dX12_addBar_69 (by decide) ?_
    refine lv_icmp_ne (tgt := 85) hx hb dX12_addBar_70 (by decide) (fun c20 => ?_) (fun c20 => ?_)
    · replace hf := (if_neg c20).symm.trans hf
      refine lv_iconst (v := 0) hx hb dX12_addBar_85 (by decide) ?_
      refine lv_istore (lv' := [(4, .int 0), (3, rv E (aR w15 a17.1 j18)), (0, rv E (some o)), (1, .int a_1), (2, .int a_2)]) hx hb dX12_addBar_86 hl (by decide) (by simp [List.filter_cons, cat_q, cat_i, cat_j]) (fun ls hl => ?_)
      refine lv_iload hx hb dX12_addBar_88 (lv_at hl 0 rfl) ?_
      refine lv_if_eq (tgt := 102) hx hb dX12_addBar_90 (by decide) (fun c21 => ?_) (fun c21 => ?_)
      · skip
        refine lv_iload hx hb dX12_addBar_102 (lv_at hl 0 rfl) ?_
        exact hx_zret hx hb (Nat.le_of_ble_eq_true rfl) (Nat.le_of_ble_eq_true rfl) hret rfl hf hH hlocks dX12_addBar_104
      · exact (by revert c21; decide : False).elim
    · replace hf := (if_pos c20).symm.trans hf
      refine hl_aload_n hx hb dX12_addBar_73 rfl (lv_at hl 0 rfl) ?_
      refine gn7_5 hx hb hts hown hKs hH ha19.1 ha19.2 m2_88 dX12_addBar_74 ?_
      refine lv_iload_n hx hb dX12_addBar_77 rfl (lv_at hl 2 rfl) ?_
      refine lv_icmp_ne (tgt := 85) hx hb dX12_addBar_78 (by decide) (fun c22 => ?_) (fun c22 => ?_)
      · replace hf := (if_neg c22).symm.trans hf
        refine lv_iconst (v := 0) hx hb dX12_addBar_85 (by decide) ?_
        refine lv_istore (lv' := [(4, .int 0), (3, rv E (aR w15 a17.1 j18)), (0, rv E (some o)), (1, .int a_1), (2, .int a_2)]) hx hb dX12_addBar_86 hl (by decide) (by simp [List.filter_cons, cat_q, cat_i, cat_j]) (fun ls hl => ?_)
        refine lv_iload hx hb dX12_addBar_88 (lv_at hl 0 rfl) ?_
        refine lv_if_eq (tgt := 102) hx hb dX12_addBar_90 (by decide) (fun c23 => ?_) (fun c23 => ?_)
        · skip
          refine lv_iload hx hb dX12_addBar_102 (lv_at hl 0 rfl) ?_
          exact hx_zret hx hb (Nat.le_of_ble_eq_true rfl) (Nat.le_of_ble_eq_true rfl) hret rfl hf hH hlocks dX12_addBar_104
        · exact (by revert c23; decide : False).elim
      · replace hf := (if_pos c22).symm.trans hf
        refine lv_iconst (v := 1) hx hb dX12_addBar_81 (by decide) ?_
        refine lv_goto (tgt := 86) hx hb dX12_addBar_82 (by decide) ?_
        refine lv_istore (lv' := [(4, .int 1), (3, rv E (aR w15 a17.1 j18)), (0, rv E (some o)), (1, .int a_1), (2, .int a_2)]) hx hb dX12_addBar_86 hl (by decide) (by simp [List.filter_cons, cat_q, cat_i, cat_j]) (fun ls hl => ?_)
        refine lv_iload hx hb dX12_addBar_88 (lv_at hl 0 rfl) ?_
        refine lv_if_eq (tgt := 102) hx hb dX12_addBar_90 (by decide) (fun c24 => ?_) (fun c24 => ?_)
        · exact (by revert c24; decide : False).elim
        · skip
          refine hl_aload_n hx hb dX12_addBar_93 rfl (lv_at hl 2 rfl) ?_
          refine g12_5 hx hb hts hown hKs hH rfl ho m2_224 dX12_addBar_94 ?_
          refine lv_iload_n hx hb dX12_addBar_97 rfl (lv_at hl 4 rfl) ?_
          refine lv_iconst (v := 1) hx hb dX12_addBar_98 (by decide) ?_
          obtain ⟨q25, hq25, hf⟩ := bnd hf
          refine hcV_v hx hb hml hown hts hKs hT hb0 hH (As := [.int a_2, .int 1]) (rest := []) (k_X10_takeAway l E K H.size a16 a_2 1 w15 ha16.2 hq25) (gV m6_81 m6_82 m6_83 m1_12 m6_84) hd_X10_takeAway ⟨Nat.le_of_ble_eq_true rfl, Nat.le_of_ble_eq_true rfl, rfl, rfl⟩ ha16.1 ha16.2 rfl rfl rfl hl.1 rfl rc0 rfl dX12_addBar_99 ⟨Nat.le_of_ble_eq_true rfl, Nat.le_of_ble_eq_true rfl⟩ (fun H locs hH => ?_)
          refine lv_iload hx hb dX12_addBar_102 (lv_at hl 0 rfl) ?_
          exact hx_zret hx hb (Nat.le_of_ble_eq_true rfl) (Nat.le_of_ble_eq_true rfl) hret rfl hf hH hlocks dX12_addBar_104
  · replace hf := (if_neg c9).symm.trans hf
    exact hx_throw hx hb hls (code := 3) hml hl.1 hown hts hKs hT hb0 hH (by decide) rfl m5_195 m1_29 hat_RX12_333 dX12_addBar_28 dX12_addBar_31 dX12_addBar_32 dX12_addBar_35 hout (Nat.le_of_ble_eq_true rfl) rc0 (Nat.le_of_ble_eq_true rfl) (Nat.le_of_ble_eq_true rfl) (Nat.le_of_ble_eq_true rfl) hlocks hf (Nat.le_of_ble_eq_true rfl) (Nat.le_of_ble_eq_true rfl)

theorem dX12_printHearing_0 : decode cX12_printHearing 0 = .ok (.aload_n 0, 1) := by decide +kernel
theorem dX12_printHearing_1 : decode cX12_printHearing 1 = .ok (.getfield 35, 3) := by decide +kernel
theorem dX12_printHearing_4 : decode cX12_printHearing 4 = .ok (.getfield 213, 3) := by decide +kernel
theorem dX12_printHearing_7 : decode cX12_printHearing 7 = .ok (.iload_n 1, 1) := by decide +kernel
theorem dX12_printHearing_8 : decode cX12_printHearing 8 = .ok (.aaload, 1) := by decide +kernel
theorem dX12_printHearing_9 : decode cX12_printHearing 9 = .ok (.astore_n 2, 1) := by decide +kernel
theorem dX12_printHearing_10 : decode cX12_printHearing 10 = .ok (.aload_n 0, 1) := by decide +kernel
theorem dX12_printHearing_11 : decode cX12_printHearing 11 = .ok (.bipush 48, 2) := by decide +kernel
theorem dX12_printHearing_13 : decode cX12_printHearing 13 = .ok (.aload_n 2, 1) := by decide +kernel
theorem dX12_printHearing_14 : decode cX12_printHearing 14 = .ok (.getfield 257, 3) := by decide +kernel
theorem dX12_printHearing_17 : decode cX12_printHearing 17 = .ok (.iadd, 1) := by decide +kernel
theorem dX12_printHearing_18 : decode cX12_printHearing 18 = .ok (.i2b, 1) := by decide +kernel
theorem dX12_printHearing_19 : decode cX12_printHearing 19 = .ok (.invokevirtual 375, 3) := by decide +kernel
theorem dX12_printHearing_22 : decode cX12_printHearing 22 = .ok (.aload_n 0, 1) := by decide +kernel
theorem dX12_printHearing_23 : decode cX12_printHearing 23 = .ok (.bipush 32, 2) := by decide +kernel
theorem dX12_printHearing_25 : decode cX12_printHearing 25 = .ok (.invokevirtual 375, 3) := by decide +kernel
theorem dX12_printHearing_28 : decode cX12_printHearing 28 = .ok (.aload_n 0, 1) := by decide +kernel
theorem dX12_printHearing_29 : decode cX12_printHearing 29 = .ok (.iconst 0, 1) := by decide +kernel
theorem dX12_printHearing_30 : decode cX12_printHearing 30 = .ok (.aload_n 2, 1) := by decide +kernel
theorem dX12_printHearing_31 : decode cX12_printHearing 31 = .ok (.getfield 260, 3) := by decide +kernel
theorem dX12_printHearing_34 : decode cX12_printHearing 34 = .ok (.invokevirtual 379, 3) := by decide +kernel
theorem dX12_printHearing_37 : decode cX12_printHearing 37 = .ok (.aload_n 0, 1) := by decide +kernel
theorem dX12_printHearing_38 : decode cX12_printHearing 38 = .ok (.bipush 32, 2) := by decide +kernel
theorem dX12_printHearing_40 : decode cX12_printHearing 40 = .ok (.invokevirtual 375, 3) := by decide +kernel
theorem dX12_printHearing_43 : decode cX12_printHearing 43 = .ok (.aload_n 0, 1) := by decide +kernel
theorem dX12_printHearing_44 : decode cX12_printHearing 44 = .ok (.iconst 3, 1) := by decide +kernel
theorem dX12_printHearing_45 : decode cX12_printHearing 45 = .ok (.iload_n 1, 1) := by decide +kernel
theorem dX12_printHearing_46 : decode cX12_printHearing 46 = .ok (.invokevirtual 379, 3) := by decide +kernel
theorem dX12_printHearing_49 : decode cX12_printHearing 49 = .ok (.aload_n 0, 1) := by decide +kernel
theorem dX12_printHearing_50 : decode cX12_printHearing 50 = .ok (.bipush 32, 2) := by decide +kernel
theorem dX12_printHearing_52 : decode cX12_printHearing 52 = .ok (.invokevirtual 375, 3) := by decide +kernel
theorem dX12_printHearing_55 : decode cX12_printHearing 55 = .ok (.aload_n 0, 1) := by decide +kernel
theorem dX12_printHearing_56 : decode cX12_printHearing 56 = .ok (.iconst 1, 1) := by decide +kernel
theorem dX12_printHearing_57 : decode cX12_printHearing 57 = .ok (.aload_n 2, 1) := by decide +kernel
theorem dX12_printHearing_58 : decode cX12_printHearing 58 = .ok (.getfield 263, 3) := by decide +kernel
theorem dX12_printHearing_61 : decode cX12_printHearing 61 = .ok (.invokevirtual 379, 3) := by decide +kernel
theorem dX12_printHearing_64 : decode cX12_printHearing 64 = .ok (.aload_n 0, 1) := by decide +kernel
theorem dX12_printHearing_65 : decode cX12_printHearing 65 = .ok (.bipush 10, 2) := by decide +kernel
theorem dX12_printHearing_67 : decode cX12_printHearing 67 = .ok (.invokevirtual 375, 3) := by decide +kernel
theorem dX12_printHearing_70 : decode cX12_printHearing 70 = .ok (.return_, 1) := by decide +kernel
theorem hd_X12_printHearing : yX12_printHearing.cls = RX12 ∧ yX12_printHearing.cls ≠ "java/lang/invoke/MethodHandle" ∧ yX12_printHearing.cls ≠ "java/lang/invoke/VarHandle" ∧ (parseMethodDescriptor yX12_printHearing.desc).map (fun d => d.parameters.length) = some 1 := by decide +kernel
theorem hs_X12_printHearing : yX12_printHearing.cls ≠ "java/lang/invoke/MethodHandle" ∧ yX12_printHearing.cls ≠ "java/lang/invoke/VarHandle" ∧ (parseMethodDescriptor yX12_printHearing.desc).map (fun d => d.parameters.length) = some 1 := by decide +kernel
set_option maxHeartbeats 4000000 in
set_option maxRecDepth 100000 in
theorem k_X12_printHearing (l : Launch) (E : Ev) (K : Kd) (z : Nat) (o : Nat) (a_1 : Int32) (w : Wd) (ho : K o = some (10, 0)) {w' : Wd} (hf : f_X12_printHearing K o a_1 w = some w') : Met l yX12_printHearing (Cond.code yX12_printHearing cX12_printHearing 3 (Option.none : Option Jvm.ClassFile.FieldType) :: bt) ({ frames := 2, cells := 0, slots := 0, locals := 47 } : Room) (va_Pc [rv E (some o), .int a_1] (HB E K w z)) (QV E K z w') 0 0 (hA E) := by
  refine Met.ofW (cc := cX12_printHearing) (maxL := 3) (ret := (Option.none : Option Jvm.ClassFile.FieldType)) (by decide) rfl ?_
  intro p e s m args below meth c s₁ B hml hv
  obtain ⟨rfl, hz, hP, hKs, hT, hb0⟩ := hv
  have C : CX p l e s m _ meth c cX12_printHearing 3 RX12 (Option.none : Option Jvm.ClassFile.FieldType) E := ⟨B.exec, B.bytes, hml, findClass_of_methodNamed B.named, fun w h => atoms_spec (ws := Cond.code yX12_printHearing cX12_printHearing 3 (Option.none : Option Jvm.ClassFile.FieldType) :: bt) B.pre w (List.mem_cons_of_mem _ h), hKs, hT, by rw [hz]; exact hb0, B.notSynchronized, B.returns⟩
  have hH : HQ E K z w s s.heap [] := ⟨hP, va_S.rf, hz⟩
  obtain ⟨hx, hb, hml, hown, hts, hKs, hT, hb0, hlocks, hret⟩ := id C
  have hl := lv_entry [rv E (some o), .int a_1] (n := 3) (by simp [lg_len_nil, lg_len_i, lg_len_j, lg_len_q, lg_len_f, lg_len_d, lg_len_r])
  rw [lg_entry_eq]
  generalize (lg_sl [rv E (some o), .int a_1] ++ List.replicate (3 - (lg_sl [rv E (some o), .int a_1]).length) Slot.unset).toArray = ls at hl ⊢
  replace hl : lv_has ls 3 [(0, rv E (some o)), (1, .int a_1)] := by simpa only [lv_args, cat_q, cat_i, cat_j, reduceIte, Nat.reduceEqDiff, Nat.reduceAdd, Nat.zero_add] using hl
  generalize s.heap = H at hH ⊢
  unfold f_X12_printHearing at hf
  refine hl_aload_n hx hb dX12_printHearing_0 rfl (lv_at hl 0 rfl) ?_
  refine g12_5 hx hb hts hown hKs hH rfl ho m2_224 dX12_printHearing_1 ?_
  obtain ⟨a1, ha1, hf⟩ := bnd hf
  replace ha1 := chk_some ha1
  refine gn10_5 hx hb hts hown hKs hH ha1.1 ha1.2 m2_135 dX12_printHearing_4 ?_
  refine lv_iload_n hx hb dX12_printHearing_7 rfl (lv_at hl 1 rfl) ?_
  obtain ⟨a2, ha2, hf⟩ := bnd hf
  replace ha2 := cha_some ha2
  obtain ⟨j3, hj3, hf⟩ := bnd hf
  refine hw_aald27 hx hb hKs hH ha2.1 ha2.2 hj3 dX12_printHearing_8 ?_
  refine hl_astore_n (lv' := [(2, rv E (aR w a2.1 j3)), (0, rv E (some o)), (1, .int a_1)]) hx hb dX12_printHearing_9 rfl hl (by decide) rfl (fun ls hl => ?_)
  refine hl_aload_n hx hb dX12_printHearing_10 rfl (lv_at hl 1 rfl) ?_
  refine lv_bipush (v := 48) hx hb dX12_printHearing_11 (by decide) ?_
  refine hl_aload_n hx hb dX12_printHearing_13 rfl (lv_at hl 0 rfl) ?_
  obtain ⟨a4, ha4, hf⟩ := bnd hf
  replace ha4 := chk_some ha4
  refine gn7_3 hx hb hts hown hKs hH ha4.1 ha4.2 m2_80 dX12_printHearing_14 ?_
  refine lv_iadd hx hb dX12_printHearing_17 ?_
  refine lv_i2b (v := ((48 + (wI w 703 a4)).toInt8.toInt32)) hx hb dX12_printHearing_18 rfl ?_
  obtain ⟨q5, hq5, hf⟩ := bnd hf
  refine hcV_v hx hb hml hown hts hKs hT hb0 hH (As := [.int (((48 + (wI w 703 a4)).toInt8.toInt32))]) (rest := []) (k_X12_print l E K H.size o ((48 + (wI w 703 a4)).toInt8.toInt32) w ho hq5) (gV m6_143 m6_145 ms_44 m1_1 m6_146) hd_X12_print ⟨Nat.le_of_ble_eq_true rfl, Nat.le_of_ble_eq_true rfl, rfl, rfl⟩ rfl ho rfl rfl rfl hl.1 rfl rc0 rfl dX12_printHearing_19 ⟨Nat.zero_le _, Nat.zero_le _⟩ (fun H locs hH => ?_)
  refine hl_aload_n hx hb dX12_printHearing_22 rfl (lv_at hl 1 rfl) ?_
  refine lv_bipush (v := 32) hx hb dX12_printHearing_23 (by decide) ?_
  obtain ⟨q6, hq6, hf⟩ := bnd hf
  refine hcV_v hx hb hml hown hts hKs hT hb0 hH (As := [.int 32]) (rest := []) (k_X12_print l E K H.size o 32 q5 ho hq6) (gV m6_143 m6_145 ms_44 m1_1 m6_146) hd_X12_print ⟨Nat.le_of_ble_eq_true rfl, Nat.le_of_ble_eq_true rfl, rfl, rfl⟩ rfl ho rfl rfl rfl hl.1 rfl rc0 rfl dX12_printHearing_25 ⟨Nat.zero_le _, Nat.zero_le _⟩ (fun H locs hH => ?_)
  refine hl_aload_n hx hb dX12_printHearing_28 rfl (lv_at hl 1 rfl) ?_
  refine lv_iconst (v := 0) hx hb dX12_printHearing_29 (by decide) ?_
  refine hl_aload_n hx hb dX12_printHearing_30 rfl (lv_at hl 0 rfl) ?_
  refine gn7_4 hx hb hts hown hKs hH ha4.1 ha4.2 m2_84 dX12_printHearing_31 ?_
  obtain ⟨q7, hq7, hf⟩ := bnd hf
  refine hcV_v hx hb hml hown hts hKs hT hb0 hH (As := [.int 0, .int ((wI q6 704 a4))]) (rest := []) (k_X12_printName l E K H.size o 0 (wI q6 704 a4) q6 ho hq7) (gV m6_147 m6_149 ms_45 m1_1 m6_150) hd_X12_printName ⟨Nat.le_of_ble_eq_true rfl, Nat.le_of_ble_eq_true rfl, rfl, rfl⟩ rfl ho rfl rfl rfl hl.1 rfl rc0 rfl dX12_printHearing_34 ⟨Nat.zero_le _, Nat.zero_le _⟩ (fun H locs hH => ?_)
  refine hl_aload_n hx hb dX12_printHearing_37 rfl (lv_at hl 1 rfl) ?_
  refine lv_bipush (v := 32) hx hb dX12_printHearing_38 (by decide) ?_
  obtain ⟨q8, hq8, hf⟩ := bnd hf
  refine hcV_v hx hb hml hown hts hKs hT hb0 hH (As := [.int 32]) (rest := []) (k_X12_print l E K H.size o 32 q7 ho hq8) (gV m6_143 m6_145 ms_44 m1_1 m6_146) hd_X12_print ⟨Nat.le_of_ble_eq_true rfl, Nat.le_of_ble_eq_true rfl, rfl, rfl⟩ rfl ho rfl rfl rfl hl.1 rfl rc0 rfl dX12_printHearing_40 ⟨Nat.zero_le _, Nat.zero_le _⟩ (fun H locs hH => ?_)
  refine hl_aload_n hx hb dX12_printHearing_43 rfl (lv_at hl 1 rfl) ?_
  refine lv_iconst (v := 3) hx hb dX12_printHearing_44 (by decide) ?_
  refine lv_iload_n hx hb dX12_printHearing_45 rfl (lv_at hl 2 rfl) ?_
  obtain ⟨q9, hq9, hf⟩ := bnd hf
  refine hcV_v hx hb hml hown hts hKs hT hb0 hH (As := [.int 3, .int a_1]) (rest := []) (k_X12_printName l E K H.size o 3 a_1 q8 ho hq9) (gV m6_147 m6_149 ms_45 m1_1 m6_150) hd_X12_printName ⟨Nat.le_of_ble_eq_true rfl, Nat.le_of_ble_eq_true rfl, rfl, rfl⟩ rfl ho rfl rfl rfl hl.1 rfl rc0 rfl dX12_printHearing_46 ⟨Nat.zero_le _, Nat.zero_le _⟩ (fun H locs hH => ?_)
  refine hl_aload_n hx hb dX12_printHearing_49 rfl (lv_at hl 1 rfl) ?_
  refine lv_bipush (v := 32) hx hb dX12_printHearing_50 (by decide) ?_
  obtain ⟨q10, hq10, hf⟩ := bnd hf
  refine hcV_v hx hb hml hown hts hKs hT hb0 hH (As := [.int 32]) (rest := []) (k_X12_print l E K H.size o 32 q9 ho hq10) (gV m6_143 m6_145 ms_44 m1_1 m6_146) hd_X12_print ⟨Nat.le_of_ble_eq_true rfl, Nat.le_of_ble_eq_true rfl, rfl, rfl⟩ rfl ho rfl rfl rfl hl.1 rfl rc0 rfl dX12_printHearing_52 ⟨Nat.zero_le _, Nat.zero_le _⟩ (fun H locs hH => ?_)
  refine hl_aload_n hx hb dX12_printHearing_55 rfl (lv_at hl 1 rfl) ?_
  refine lv_iconst (v := 1) hx hb dX12_printHearing_56 (by decide) ?_
  refine hl_aload_n hx hb dX12_printHearing_57 rfl (lv_at hl 0 rfl) ?_
  refine gn7_5 hx hb hts hown hKs hH ha4.1 ha4.2 m2_88 dX12_printHearing_58 ?_
  obtain ⟨q11, hq11, hf⟩ := bnd hf
  refine hcV_v hx hb hml hown hts hKs hT hb0 hH (As := [.int 1, .int ((wI q10 705 a4))]) (rest := []) (k_X12_printName l E K H.size o 1 (wI q10 705 a4) q10 ho hq11) (gV m6_147 m6_149 ms_45 m1_1 m6_150) hd_X12_printName ⟨Nat.le_of_ble_eq_true rfl, Nat.le_of_ble_eq_true rfl, rfl, rfl⟩ rfl ho rfl rfl rfl hl.1 rfl rc0 rfl dX12_printHearing_61 ⟨Nat.zero_le _, Nat.zero_le _⟩ (fun H locs hH => ?_)
  refine hl_aload_n hx hb dX12_printHearing_64 rfl (lv_at hl 1 rfl) ?_
  refine lv_bipush (v := 10) hx hb dX12_printHearing_65 (by decide) ?_
  obtain ⟨q12, hq12, hf⟩ := bnd hf
  refine hcV_v hx hb hml hown hts hKs hT hb0 hH (As := [.int 10]) (rest := []) (k_X12_print l E K H.size o 10 q11 ho hq12) (gV m6_143 m6_145 ms_44 m1_1 m6_146) hd_X12_print ⟨Nat.le_of_ble_eq_true rfl, Nat.le_of_ble_eq_true rfl, rfl, rfl⟩ rfl ho rfl rfl rfl hl.1 rfl rc0 rfl dX12_printHearing_67 ⟨Nat.zero_le _, Nat.zero_le _⟩ (fun H locs hH => ?_)
  exact hw_vret hx hb hret hf hH hlocks dX12_printHearing_70

theorem dX1_gives_0 : decode cX1_gives 0 = .ok (.iload_n 2, 1) := by decide +kernel
theorem dX1_gives_1 : decode cX1_gives 1 = .ok (.ifCond .ne 5, 3) := by decide +kernel
theorem dX1_gives_4 : decode cX1_gives 4 = .ok (.iconst 1, 1) := by decide +kernel
theorem dX1_gives_5 : decode cX1_gives 5 = .ok (.ireturn, 1) := by decide +kernel
theorem dX1_gives_6 : decode cX1_gives 6 = .ok (.iload_n 1, 1) := by decide +kernel
theorem dX1_gives_7 : decode cX1_gives 7 = .ok (.bipush 12, 2) := by decide +kernel
theorem dX1_gives_9 : decode cX1_gives 9 = .ok (.if_icmp .lt 5, 3) := by decide +kernel
theorem dX1_gives_12 : decode cX1_gives 12 = .ok (.iconst 0, 1) := by decide +kernel
theorem dX1_gives_13 : decode cX1_gives 13 = .ok (.ireturn, 1) := by decide +kernel
theorem dX1_gives_14 : decode cX1_gives 14 = .ok (.iload_n 3, 1) := by decide +kernel
theorem dX1_gives_15 : decode cX1_gives 15 = .ok (.invokestatic 72, 3) := by decide +kernel
theorem dX1_gives_18 : decode cX1_gives 18 = .ok (.iload 4, 2) := by decide +kernel
theorem dX1_gives_20 : decode cX1_gives 20 = .ok (.if_icmp .ge 13, 3) := by decide +kernel
theorem dX1_gives_23 : decode cX1_gives 23 = .ok (.aload_n 0, 1) := by decide +kernel
theorem dX1_gives_24 : decode cX1_gives 24 = .ok (.getfield 25, 3) := by decide +kernel
theorem dX1_gives_27 : decode cX1_gives 27 = .ok (.invokestatic 32, 3) := by decide +kernel
theorem dX1_gives_30 : decode cX1_gives 30 = .ok (.goto 4, 3) := by decide +kernel
theorem dX1_gives_33 : decode cX1_gives 33 = .ok (.iload_n 3, 1) := by decide +kernel
theorem dX1_gives_34 : decode cX1_gives 34 = .ok (.istore 5, 2) := by decide +kernel
theorem dX1_gives_36 : decode cX1_gives 36 = .ok (.aload_n 0, 1) := by decide +kernel
theorem dX1_gives_37 : decode cX1_gives 37 = .ok (.iload_n 1, 1) := by decide +kernel
theorem dX1_gives_38 : decode cX1_gives 38 = .ok (.iload_n 2, 1) := by decide +kernel
theorem dX1_gives_39 : decode cX1_gives 39 = .ok (.iload 5, 2) := by decide +kernel
theorem dX1_gives_41 : decode cX1_gives 41 = .ok (.invokevirtual 77, 3) := by decide +kernel
theorem dX1_gives_44 : decode cX1_gives 44 = .ok (.istore 6, 2) := by decide +kernel
theorem dX1_gives_46 : decode cX1_gives 46 = .ok (.aload_n 0, 1) := by decide +kernel
theorem dX1_gives_47 : decode cX1_gives 47 = .ok (.getfield 18, 3) := by decide +kernel
theorem dX1_gives_50 : decode cX1_gives 50 = .ok (.iload_n 1, 1) := by decide +kernel
theorem dX1_gives_51 : decode cX1_gives 51 = .ok (.bipush 12, 2) := by decide +kernel
theorem dX1_gives_53 : decode cX1_gives 53 = .ok (.imul, 1) := by decide +kernel
theorem dX1_gives_54 : decode cX1_gives 54 = .ok (.iload 6, 2) := by decide +kernel
theorem dX1_gives_56 : decode cX1_gives 56 = .ok (.iadd, 1) := by decide +kernel
theorem dX1_gives_57 : decode cX1_gives 57 = .ok (.iaload, 1) := by decide +kernel
theorem dX1_gives_58 : decode cX1_gives 58 = .ok (.iload 5, 2) := by decide +kernel
theorem dX1_gives_60 : decode cX1_gives 60 = .ok (.iand, 1) := by decide +kernel
theorem dX1_gives_61 : decode cX1_gives 61 = .ok (.istore 7, 2) := by decide +kernel
theorem dX1_gives_63 : decode cX1_gives 63 = .ok (.iconst 0, 1) := by decide +kernel
theorem dX1_gives_64 : decode cX1_gives 64 = .ok (.istore 8, 2) := by decide +kernel
theorem dX1_gives_66 : decode cX1_gives 66 = .ok (.iload 8, 2) := by decide +kernel
theorem dX1_gives_68 : decode cX1_gives 68 = .ok (.aload_n 0, 1) := by decide +kernel
theorem dX1_gives_69 : decode cX1_gives 69 = .ok (.getfield 25, 3) := by decide +kernel
theorem dX1_gives_72 : decode cX1_gives 72 = .ok (.if_icmp .ge 67, 3) := by decide +kernel
theorem dX1_gives_75 : decode cX1_gives 75 = .ok (.iload 7, 2) := by decide +kernel
theorem dX1_gives_77 : decode cX1_gives 77 = .ok (.iload 8, 2) := by decide +kernel
theorem dX1_gives_79 : decode cX1_gives 79 = .ok (.invokestatic 68, 3) := by decide +kernel
theorem dX1_gives_82 : decode cX1_gives 82 = .ok (.ifCond .eq 51, 3) := by decide +kernel
theorem dX1_gives_85 : decode cX1_gives 85 = .ok (.aload_n 0, 1) := by decide +kernel
theorem dX1_gives_86 : decode cX1_gives 86 = .ok (.iload 8, 2) := by decide +kernel
theorem dX1_gives_88 : decode cX1_gives 88 = .ok (.iload_n 2, 1) := by decide +kernel
theorem dX1_gives_89 : decode cX1_gives 89 = .ok (.iload_n 3, 1) := by decide +kernel
theorem dX1_gives_90 : decode cX1_gives 90 = .ok (.invokevirtual 81, 3) := by decide +kernel
theorem dX1_gives_93 : decode cX1_gives 93 = .ok (.ifCond .ne 40, 3) := by decide +kernel
theorem dX1_gives_96 : decode cX1_gives 96 = .ok (.aload_n 0, 1) := by decide +kernel
theorem dX1_gives_97 : decode cX1_gives 97 = .ok (.iload_n 1, 1) := by decide +kernel
theorem dX1_gives_98 : decode cX1_gives 98 = .ok (.iload 6, 2) := by decide +kernel
theorem dX1_gives_100 : decode cX1_gives 100 = .ok (.iload 8, 2) := by decide +kernel
theorem dX1_gives_102 : decode cX1_gives 102 = .ok (.invokevirtual 85, 3) := by decide +kernel
theorem dX1_gives_105 : decode cX1_gives 105 = .ok (.aload_n 0, 1) := by decide +kernel
theorem dX1_gives_106 : decode cX1_gives 106 = .ok (.iload_n 1, 1) := by decide +kernel
theorem dX1_gives_107 : decode cX1_gives 107 = .ok (.iconst 1, 1) := by decide +kernel
theorem dX1_gives_108 : decode cX1_gives 108 = .ok (.iadd, 1) := by decide +kernel
theorem dX1_gives_109 : decode cX1_gives 109 = .ok (.iload_n 2, 1) := by decide +kernel
theorem dX1_gives_110 : decode cX1_gives 110 = .ok (.iconst 1, 1) := by decide +kernel
theorem dX1_gives_111 : decode cX1_gives 111 = .ok (.iload 6, 2) := by decide +kernel
theorem dX1_gives_113 : decode cX1_gives 113 = .ok (.ishl, 1) := by decide +kernel
theorem dX1_gives_114 : decode cX1_gives 114 = .ok (.iconst (-1), 1) := by decide +kernel
theorem dX1_gives_115 : decode cX1_gives 115 = .ok (.ixor, 1) := by decide +kernel
theorem dX1_gives_116 : decode cX1_gives 116 = .ok (.iand, 1) := by decide +kernel
theorem dX1_gives_117 : decode cX1_gives 117 = .ok (.iload_n 3, 1) := by decide +kernel
theorem dX1_gives_118 : decode cX1_gives 118 = .ok (.iconst 1, 1) := by decide +kernel
theorem dX1_gives_119 : decode cX1_gives 119 = .ok (.iload 8, 2) := by decide +kernel
theorem dX1_gives_121 : decode cX1_gives 121 = .ok (.ishl, 1) := by decide +kernel
theorem dX1_gives_122 : decode cX1_gives 122 = .ok (.ior, 1) := by decide +kernel
theorem dX1_gives_123 : decode cX1_gives 123 = .ok (.iload 4, 2) := by decide +kernel
theorem dX1_gives_125 : decode cX1_gives 125 = .ok (.invokevirtual 36, 3) := by decide +kernel
theorem dX1_gives_128 : decode cX1_gives 128 = .ok (.ifCond .eq 5, 3) := by decide +kernel
theorem dX1_gives_131 : decode cX1_gives 131 = .ok (.iconst 1, 1) := by decide +kernel
theorem dX1_gives_132 : decode cX1_gives 132 = .ok (.ireturn, 1) := by decide +kernel
theorem dX1_gives_133 : decode cX1_gives 133 = .ok (.iinc 8 1, 3) := by decide +kernel
theorem dX1_gives_136 : decode cX1_gives 136 = .ok (.goto (-70), 3) := by decide +kernel
theorem dX1_gives_139 : decode cX1_gives 139 = .ok (.iconst 0, 1) := by decide +kernel
theorem dX1_gives_140 : decode cX1_gives 140 = .ok (.ireturn, 1) := by decide +kernel
theorem hd_X1_gives : yX1_gives.cls = RX1 ∧ yX1_gives.cls ≠ "java/lang/invoke/MethodHandle" ∧ yX1_gives.cls ≠ "java/lang/invoke/VarHandle" ∧ (parseMethodDescriptor yX1_gives.desc).map (fun d => d.parameters.length) = some 4 := by decide +kernel
theorem hs_X1_gives : yX1_gives.cls ≠ "java/lang/invoke/MethodHandle" ∧ yX1_gives.cls ≠ "java/lang/invoke/VarHandle" ∧ (parseMethodDescriptor yX1_gives.desc).map (fun d => d.parameters.length) = some 4 := by decide +kernel
set_option maxHeartbeats 4000000 in
set_option maxRecDepth 100000 in
theorem l_X1_gives_L66 (C : CX p l e s m args meth c cX1_gives 9 RX1 (Option.some Jvm.ClassFile.FieldType.boolean) E) {o : Nat} (ho : K o = some (0, 0)) (n9 : Nat) {rc : Int32 → Int32 → Int32 → Int32 → Wd → Option (Bool × Wd)} (hrc : ∀ (b0 : Int32) (b1 : Int32) (b2 : Int32) (b3 : Int32) (w : Wd) {r : Bool} {w' : Wd} (z : Nat), rc b0 b1 b2 b3 w = some (r, w') → Met l yX1_gives (Cond.code yX1_gives cX1_gives 9 (Option.some Jvm.ClassFile.FieldType.boolean) :: bt) ({ frames := 2 + n9, cells := 0, slots := 0, locals := 49 + n9 * 28 } : Room) (va_Pc [rv E (some o), .int b0, .int b1, .int b2, .int b3] (HB E K w z)) (QI E K z w' (b2i r)) 0 0 (hA E)) {r : Bool} {w' : Wd} (k : Int32 → Int32 → Int32 → Int32 → Int32 → Int32 → Int32 → Int32 → Wd → Option (Bool × Wd)) (hk : ∀ (v1_66 : Int32) (v2_66 : Int32) (v3_66 : Int32) (v4_66 : Int32) (v5_66 : Int32) (v6_66 : Int32) (v7_66 : Int32) (v8_66 : Int32) (w : Wd) (H : Heap) (locs : List Loc) (ls : Array Slot), HQ E K z w s H locs → lv_has ls 9 [(1, .int v1_66), (2, .int v2_66), (3, .int v3_66), (4, .int v4_66), (5, .int v5_66), (6, .int v6_66), (7, .int v7_66), (8, .int v8_66), (0, rv E (some o))] → k v1_66 v2_66 v3_66 v4_66 v5_66 v6_66 v7_66 v8_66 w = some (r, w') → W p l e ({ frames := 2 + (n9 + 1), cells := 0, slots := 0, locals := 49 + (n9 + 1) * 28 } : Room) s m args below meth c H locs 0 0 (MQ below (QI E K z w' (b2i r)) args s 0 0 (hA E)) (F0 m 139 ls [])) : ∀ (n : Nat) (v1_66 : Int32) (v2_66 : Int32) (v3_66 : Int32) (v4_66 : Int32) (v5_66 : Int32) (v6_66 : Int32) (v7_66 : Int32) (v8_66 : Int32) (w : Wd) (H : Heap) (locs : List Loc) (ls : Array Slot), HQ E K z w s H locs → lv_has ls 9 [(1, .int v1_66), (2, .int v2_66), (3, .int v3_66), (4, .int v4_66), (5, .int v5_66), (6, .int v6_66), (7, .int v7_66), (8, .int v8_66), (0, rv E (some o))] → f_X1_gives_L66 K o rc k n v1_66 v2_66 v3_66 v4_66 v5_66 v6_66 v7_66 v8_66 w = some (r, w') → W p l e ({ frames := 2 + (n9 + 1), cells := 0, slots := 0, locals := 49 + (n9 + 1) * 28 } : Room) s m args below meth c H locs 0 0 (MQ below (QI E K z w' (b2i r)) args s 0 0 (hA E)) (F0 m 66 ls []) := by
  obtain ⟨hx, hb, hml, hown, hts, hKs, hT, hb0, hlocks, hret⟩ := id C
  intro n
  induction n with
  | zero =>
    intro v1_66 v2_66 v3_66 v4_66 v5_66 v6_66 v7_66 v8_66 w H locs ls hH hl hf
    cases hf
  | succ n ih =>
    intro v1_66 v2_66 v3_66 v4_66 v5_66 v6_66 v7_66 v8_66 w H locs ls hH hl hf
    rw [f_X1_gives_L66] at hf
    refine lv_iload hx hb dX1_gives_66 (lv_at hl 7 rfl) ?_
    refine hl_aload_n hx hb dX1_gives_68 rfl (lv_at hl 8 rfl) ?_
    refine g1_4 hx hb hts hown hKs hH rfl ho m2_207 dX1_gives_69 ?_
    refine lv_icmp_ge (tgt := 139) hx hb dX1_gives_72 (by decide) (fun c9 => ?_) (fun c9 => ?_)
    · replace hf := (if_pos c9).symm.trans hf
      exact hk v1_66 v2_66 v3_66 v4_66 v5_66 v6_66 v7_66 v8_66 _ _ _ _ hH (lv_sub hl [0, 1, 2, 3, 4, 5, 6, 7, 8] rfl) hf
    · replace hf := (if_neg c9).symm.trans hf
      refine lv_iload hx hb dX1_gives_75 (lv_at hl 6 rfl) ?_
      refine lv_iload hx hb dX1_gives_77 (lv_at hl 7 rfl) ?_
      obtain ⟨q10, hq10, hf⟩ := bnd hf
      refine hcM_i hx hb hml hown hts hKs hT hb0 hH (As := [.int v7_66, .int v8_66]) (rest := []) (k_X12_has l E K H.size v7_66 v8_66 w hq10) m4_40 m3_194 m1_1 m3_195 hs_X12_has ⟨Nat.le_trans (m := 2) (Nat.le_of_ble_eq_true rfl) (Nat.le_add_right _ _), Nat.le_trans (m := 49) (Nat.le_of_ble_eq_true rfl) (Nat.le_add_right _ _), rfl, rfl⟩ hl.1 rfl rc0 rfl dX1_gives_79 ⟨Nat.zero_le _, Nat.zero_le _⟩ (fun H locs hH => ?_)
      refine lv_if_eq (tgt := 133) hx hb dX1_gives_82 (by decide) (fun c11 => ?_) (fun c11 => ?_)
      · replace hf := (if_pos c11).symm.trans hf
        refine lv_iinc (v := (v8_66 + 1)) (lv' := [(8, .int ((v8_66 + 1))), (1, .int v1_66), (2, .int v2_66), (3, .int v3_66), (4, .int v4_66), (5, .int v5_66), (6, .int v6_66), (7, .int v7_66), (0, rv E (some o))]) hx hb dX1_gives_133 hl (k := 7) rfl rfl (by decide) rfl (fun ls hl => ?_)
        refine lv_goto (tgt := 66) hx hb dX1_gives_136 (by decide) ?_
        exact ih v1_66 v2_66 v3_66 v4_66 v5_66 v6_66 v7_66 (v8_66 + 1) _ _ _ _ hH (lv_sub hl [1, 2, 3, 4, 5, 6, 7, 0, 8] rfl) hf
      · replace hf := (if_neg c11).symm.trans hf
        refine hl_aload_n hx hb dX1_gives_85 rfl (lv_at hl 8 rfl) ?_
        refine lv_iload hx hb dX1_gives_86 (lv_at hl 7 rfl) ?_
        refine lv_iload_n hx hb dX1_gives_88 rfl (lv_at hl 1 rfl) ?_
        refine lv_iload_n hx hb dX1_gives_89 rfl (lv_at hl 2 rfl) ?_
        obtain ⟨q12, hq12, hf⟩ := bnd hf
        refine hcV_i hx hb hml hown hts hKs hT hb0 hH (As := [.int v8_66, .int v2_66, .int v3_66]) (rest := []) (k_X1_isSpare l E K H.size o v8_66 v2_66 v3_66 q10.2 ho hq12) (gV m4_50 m4_52 ms_22 m1_15 m4_53) hd_X1_isSpare ⟨Nat.le_trans (m := 2) (Nat.le_of_ble_eq_true rfl) (Nat.le_add_right _ _), Nat.le_trans (m := 49) (Nat.le_of_ble_eq_true rfl) (Nat.le_add_right _ _), rfl, rfl⟩ rfl ho rfl rfl rfl hl.1 rfl rc0 rfl dX1_gives_90 ⟨Nat.zero_le _, Nat.zero_le _⟩ (fun H locs hH => ?_)
        refine lv_if_ne (tgt := 133) hx hb dX1_gives_93 (by decide) (fun c13 => ?_) (fun c13 => ?_)
        · replace hf := (if_neg c13).symm.trans hf
          refine lv_iinc (v := (v8_66 + 1)) (lv' := [(8, .int ((v8_66 + 1))), (1, .int v1_66), (2, .int v2_66), (3, .int v3_66), (4, .int v4_66), (5, .int v5_66), (6, .int v6_66), (7, .int v7_66), (0, rv E (some o))]) hx hb dX1_gives_133 hl (k := 7) rfl rfl (by decide) rfl (fun ls hl => ?_)
          refine lv_goto (tgt := 66) hx hb dX1_gives_136 (by decide) ?_
          exact ih v1_66 v2_66 v3_66 v4_66 v5_66 v6_66 v7_66 (v8_66 + 1) _ _ _ _ hH (lv_sub hl [1, 2, 3, 4, 5, 6, 7, 0, 8] rfl) hf
        · replace hf := (if_pos c13).symm.trans hf
          refine hl_aload_n hx hb dX1_gives_96 rfl (lv_at hl 8 rfl) ?_
          refine lv_iload_n hx hb dX1_gives_97 rfl (lv_at hl 0 rfl) ?_
          refine lv_iload hx hb dX1_gives_98 (lv_at hl 5 rfl) ?_
          refine lv_iload hx hb dX1_gives_100 (lv_at hl 7 rfl) ?_
          obtain ⟨q14, hq14, hf⟩ := bnd hf
          refine hcV_v hx hb hml hown hts hKs hT hb0 hH (As := [.int v1_66, .int v6_66, .int v8_66]) (rest := []) (k_X1_giveTo l E K H.size o v1_66 v6_66 v8_66 q12.2 ho hq14) (gV m4_54 m4_56 ms_23 m1_15 m4_57) hd_X1_giveTo ⟨Nat.le_trans (m := 2) (Nat.le_of_ble_eq_true rfl) (Nat.le_add_right _ _), Nat.le_trans (m := 49) (Nat.le_of_ble_eq_true rfl) (Nat.le_add_right _ _), rfl, rfl⟩ rfl ho rfl rfl rfl hl.1 rfl rc0 rfl dX1_gives_102 ⟨Nat.zero_le _, Nat.zero_le _⟩ (fun H locs hH => ?_)
          refine hl_aload_n hx hb dX1_gives_105 rfl (lv_at hl 8 rfl) ?_
          refine lv_iload_n hx hb dX1_gives_106 rfl (lv_at hl 0 rfl) ?_
          refine lv_iconst (v := 1) hx hb dX1_gives_107 (by decide) ?_
          refine lv_iadd hx hb dX1_gives_108 ?_
          refine lv_iload_n hx hb dX1_gives_109 rfl (lv_at hl 1 rfl) ?_
          refine lv_iconst (v := 1) hx hb dX1_gives_110 (by decide) ?_
          refine lv_iload hx hb dX1_gives_111 (lv_at hl 5 rfl) ?_
          refine lv_ishl hx hb dX1_gives_113 ?_
          refine lv_iconst (v := (-1)) hx hb dX1_gives_114 (by decide) ?_
          refine lv_ixor hx hb dX1_gives_115 ?_
          refine lv_iand hx hb dX1_gives_116 ?_
          refine lv_iload_n hx hb dX1_gives_117 rfl (lv_at hl 2 rfl) ?_
          refine lv_iconst (v := 1) hx hb dX1_gives_118 (by decide) ?_
          refine lv_iload hx hb dX1_gives_119 (lv_at hl 7 rfl) ?_
          refine lv_ishl hx hb dX1_gives_121 ?_
          refine lv_ior hx hb dX1_gives_122 ?_
          refine lv_iload hx hb dX1_gives_123 (lv_at hl 3 rfl) ?_
          obtain ⟨q15, hq15, hf⟩ := bnd hf
          refine hcV_i hx hb hml hown hts hKs hT hb0 hH (As := [.int ((v1_66 + 1)), .int ((v2_66 &&& ((1 <<< (v6_66 &&& 31)) ^^^ (-1)))), .int ((v3_66 ||| (1 <<< (v8_66 &&& 31)))), .int v4_66]) (rest := []) (hrc (v1_66 + 1) (v2_66 &&& ((1 <<< (v6_66 &&& 31)) ^^^ (-1))) (v3_66 ||| (1 <<< (v8_66 &&& 31))) v4_66 q14 _ hq15) (gV m4_41 m4_43 ms_20 m1_15 m4_44) hd_X1_gives ⟨by show _ + n9 + 1 ≤ _ + (n9 + 1); omega, by show 8 + (9 + 11) + (_ + n9 * _) ≤ _ + (n9 + 1) * _; omega, rfl, rfl⟩ rfl ho rfl rfl rfl hl.1 rfl rc0 rfl dX1_gives_125 ⟨Nat.zero_le _, Nat.zero_le _⟩ (fun H locs hH => ?_)
          refine lv_if_eq (tgt := 133) hx hb dX1_gives_128 (by decide) (fun c16 => ?_) (fun c16 => ?_)
          · replace hf := (if_pos c16).symm.trans hf
            refine lv_iinc (v := (v8_66 + 1)) (lv' := [(8, .int ((v8_66 + 1))), (1, .int v1_66), (2, .int v2_66), (3, .int v3_66), (4, .int v4_66), (5, .int v5_66), (6, .int v6_66), (7, .int v7_66), (0, rv E (some o))]) hx hb dX1_gives_133 hl (k := 7) rfl rfl (by decide) rfl (fun ls hl => ?_)
            refine lv_goto (tgt := 66) hx hb dX1_gives_136 (by decide) ?_
            exact ih v1_66 v2_66 v3_66 v4_66 v5_66 v6_66 v7_66 (v8_66 + 1) _ _ _ _ hH (lv_sub hl [1, 2, 3, 4, 5, 6, 7, 0, 8] rfl) hf
          · replace hf := (if_neg c16).symm.trans hf
            refine lv_iconst (v := 1) hx hb dX1_gives_131 (by decide) ?_
            exact hw_zret hx hb hret rfl hf hH hlocks dX1_gives_132
set_option maxHeartbeats 4000000 in
set_option maxRecDepth 100000 in
theorem k_X1_gives (l : Launch) (E : Ev) (K : Kd) : ∀ (n9 : Nat) (z : Nat) (o : Nat) (a_1 : Int32) (a_2 : Int32) (a_3 : Int32) (a_4 : Int32) (w : Wd) (ho : K o = some (0, 0)) {r : Bool} {w' : Wd} (hf : f_X1_gives K o n9 a_1 a_2 a_3 a_4 w = some (r, w')), Met l yX1_gives (Cond.code yX1_gives cX1_gives 9 (Option.some Jvm.ClassFile.FieldType.boolean) :: bt) ({ frames := 2 + n9, cells := 0, slots := 0, locals := 49 + n9 * 28 } : Room) (va_Pc [rv E (some o), .int a_1, .int a_2, .int a_3, .int a_4] (HB E K w z)) (QI E K z w' (b2i r)) 0 0 (hA E) := by
  intro n9
  induction n9 with
  | zero => intro z o a_1 a_2 a_3 a_4 w ho r w' hf; cases hf
  | succ n9 ih =>
  intro z o a_1 a_2 a_3 a_4 w ho r w' hf
  have hrc : ∀ (b0 : Int32) (b1 : Int32) (b2 : Int32) (b3 : Int32) (w : Wd) {r : Bool} {w' : Wd} (z : Nat), f_X1_gives K o n9 b0 b1 b2 b3 w = some (r, w') → Met l yX1_gives (Cond.code yX1_gives cX1_gives 9 (Option.some Jvm.ClassFile.FieldType.boolean) :: bt) ({ frames := 2 + n9, cells := 0, slots := 0, locals := 49 + n9 * 28 } : Room) (va_Pc [rv E (some o), .int b0, .int b1, .int b2, .int b3] (HB E K w z)) (QI E K z w' (b2i r)) 0 0 (hA E) := fun a_1 a_2 a_3 a_4 w r w' z hq => ih z o a_1 a_2 a_3 a_4 w ho r w' hq
  refine Met.ofW (cc := cX1_gives) (maxL := 9) (ret := (Option.some Jvm.ClassFile.FieldType.boolean)) (by decide) rfl ?_
  intro p e s m args below meth c s₁ B hml hv
  obtain ⟨rfl, hz, hP, hKs, hT, hb0⟩ := hv
  have C : CX p l e s m _ meth c cX1_gives 9 RX1 (Option.some Jvm.ClassFile.FieldType.boolean) E := ⟨B.exec, B.bytes, hml, findClass_of_methodNamed B.named, fun w h => atoms_spec (ws := Cond.code yX1_gives cX1_gives 9 (Option.some Jvm.ClassFile.FieldType.boolean) :: bt) B.pre w (List.mem_cons_of_mem _ h), hKs, hT, by rw [hz]; exact hb0, B.notSynchronized, B.returns⟩
  have hH : HQ E K z w s s.heap [] := ⟨hP, va_S.rf, hz⟩
  obtain ⟨hx, hb, hml, hown, hts, hKs, hT, hb0, hlocks, hret⟩ := id C
  have hl := lv_entry [rv E (some o), .int a_1, .int a_2, .int a_3, .int a_4] (n := 9) (by simp [lg_len_nil, lg_len_i, lg_len_j, lg_len_q, lg_len_f, lg_len_d, lg_len_r])
  rw [lg_entry_eq]
  generalize (lg_sl [rv E (some o), .int a_1, .int a_2, .int a_3, .int a_4] ++ List.replicate (9 - (lg_sl [rv E (some o), .int a_1, .int a_2, .int a_3, .int a_4]).length) Slot.unset).toArray = ls at hl ⊢
  replace hl : lv_has ls 9 [(0, rv E (some o)), (1, .int a_1), (2, .int a_2), (3, .int a_3), (4, .int a_4)] := by simpa only [lv_args, cat_q, cat_i, cat_j, reduceIte, Nat.reduceEqDiff, Nat.reduceAdd, Nat.zero_add] using hl
  generalize s.heap = H at hH ⊢
  rw [f_X1_gives] at hf
  refine lv_iload_n hx hb dX1_gives_0 rfl (lv_at hl 2 rfl) ?_
  refine lv_if_ne (tgt := 6) hx hb dX1_gives_1 (by decide) (fun c1 => ?_) (fun c1 => ?_)
  · replace hf := (if_neg c1).symm.trans hf
    refine lv_iload_n hx hb dX1_gives_6 rfl (lv_at hl 1 rfl) ?_
    refine lv_bipush (v := 12) hx hb dX1_gives_7 (by decide) ?_
    refine lv_icmp_lt (tgt := 14) hx hb dX1_gives_9 (by decide) (fun c2 => ?_) (fun c2 => ?_)
    · replace hf := (if_pos c2).symm.trans hf
      refine lv_iload_n hx hb dX1_gives_14 rfl (lv_at hl 3 rfl) ?_
      obtain ⟨q3, hq3, hf⟩ := bnd hf
      refine hcS_i hx hb hml hown hts hKs hT hb0 hH (As := [.int a_3]) (rest := []) (k_J6_bitCount_0f7a4 l E K H.size a_3 w hq3) (gS m4_45 m4_8 m1_23 m4_9) hs_J6_bitCount_0f7a4 ⟨Nat.le_trans (m := 2) (Nat.le_of_ble_eq_true rfl) (Nat.le_add_right _ _), Nat.le_trans (m := 49) (Nat.le_of_ble_eq_true rfl) (Nat.le_add_right _ _), rfl, rfl⟩ hl.1 rfl rc0 rfl dX1_gives_15 ⟨Nat.zero_le _, Nat.zero_le _⟩ (fun H locs hH => ?_)
      refine lv_iload hx hb dX1_gives_18 (lv_at hl 4 rfl) ?_
      refine lv_icmp_ge (tgt := 33) hx hb dX1_gives_20 (by decide) (fun c4 => ?_) (fun c4 => ?_)
      · replace hf := (if_pos c4).symm.trans hf
        refine lv_iload_n hx hb dX1_gives_33 rfl (lv_at hl 3 rfl) ?_
        refine lv_istore (lv' := [(5, .int a_3), (0, rv E (some o)), (1, .int a_1), (2, .int a_2), (3, .int a_3), (4, .int a_4)]) hx hb dX1_gives_34 hl (by decide) rfl (fun ls hl => ?_)
        refine hl_aload_n hx hb dX1_gives_36 rfl (lv_at hl 1 rfl) ?_
        refine lv_iload_n hx hb dX1_gives_37 rfl (lv_at hl 2 rfl) ?_
        refine lv_iload_n hx hb dX1_gives_38 rfl (lv_at hl 3 rfl) ?_
        refine lv_iload hx hb dX1_gives_39 (lv_at hl 0 rfl) ?_
        obtain ⟨q5, hq5, hf⟩ := bnd hf
        refine hcV_i hx hb hml hown hts hKs hT hb0 hH (As := [.int a_1, .int a_2, .int a_3]) (rest := []) (k_X1_hardest l E K H.size o a_1 a_2 a_3 q3.2 ho hq5) (gV m4_46 m4_48 ms_21 m1_15 m4_49) hd_X1_hardest ⟨Nat.le_trans (m := 2) (Nat.le_of_ble_eq_true rfl) (Nat.le_add_right _ _), Nat.le_trans (m := 49) (Nat.le_of_ble_eq_true rfl) (Nat.le_add_right _ _), rfl, rfl⟩ rfl ho rfl rfl rfl hl.1 rfl rc0 rfl dX1_gives_41 ⟨Nat.zero_le _, Nat.zero_le _⟩ (fun H locs hH => ?_)
        refine lv_istore (lv' := [(6, .int (q5.1)), (5, .int a_3), (0, rv E (some o)), (1, .int a_1), (2, .int a_2), (3, .int a_3), (4, .int a_4)]) hx hb dX1_gives_44 hl (by decide) rfl (fun ls hl => ?_)
        refine hl_aload_n hx hb dX1_gives_46 rfl (lv_at hl 2 rfl) ?_
        refine g1_2 hx hb hts hown hKs hH rfl ho m2_205 dX1_gives_47 ?_
        refine lv_iload_n hx hb dX1_gives_50 rfl (lv_at hl 3 rfl) ?_
        refine lv_bipush (v := 12) hx hb dX1_gives_51 (by decide) ?_
        refine lv_imul hx hb dX1_gives_53 ?_
        refine lv_iload hx hb dX1_gives_54 (lv_at hl 0 rfl) ?_
        refine lv_iadd hx hb dX1_gives_56 ?_
        obtain ⟨a6, ha6, hf⟩ := bnd hf
        replace ha6 := cha_some ha6
        obtain ⟨j7, hj7, hf⟩ := bnd hf
        refine hw_iald hx hb hKs hH ha6.1 ha6.2 hj7 dX1_gives_57 ?_
        refine lv_iload hx hb dX1_gives_58 (lv_at hl 1 rfl) ?_
        refine lv_iand hx hb dX1_gives_60 ?_
        refine lv_istore (lv' := [(7, .int (((aI q5.2 a6.1 j7) &&& a_3))), (6, .int (q5.1)), (5, .int a_3), (0, rv E (some o)), (1, .int a_1), (2, .int a_2), (3, .int a_3), (4, .int a_4)]) hx hb dX1_gives_61 hl (by decide) rfl (fun ls hl => ?_)
        refine lv_iconst (v := 0) hx hb dX1_gives_63 (by decide) ?_
        refine lv_istore (lv' := [(8, .int 0), (7, .int (((aI q5.2 a6.1 j7) &&& a_3))), (6, .int (q5.1)), (5, .int a_3), (0, rv E (some o)), (1, .int a_1), (2, .int a_2), (3, .int a_3), (4, .int a_4)]) hx hb dX1_gives_64 hl (by decide) rfl (fun ls hl => ?_)
        refine l_X1_gives_L66  C ho n9 hrc _ (fun v1_66 v2_66 v3_66 v4_66 v5_66 v6_66 v7_66 v8_66 w8 H locs ls hH hl hf => ?_) fu a_1 a_2 a_3 a_4 a_3 q5.1 ((aI q5.2 a6.1 j7) &&& a_3) 0 q5.2 _ _ _ hH (lv_sub hl [5, 6, 7, 8, 3, 2, 1, 0, 4] rfl) hf
        refine lv_iconst (v := 0) hx hb dX1_gives_139 (by decide) ?_
        exact hw_zret hx hb hret rfl hf hH hlocks dX1_gives_140
      · replace hf := (if_neg c4).symm.trans hf
        refine hl_aload_n hx hb dX1_gives_23 rfl (lv_at hl 0 rfl) ?_
        refine g1_4 hx hb hts hown hKs hH rfl ho m2_207 dX1_gives_24 ?_
        obtain ⟨q17, hq17, hf⟩ := bnd hf
        refine hcM_i hx hb hml hown hts hKs hT hb0 hH (As := [.int ((wI q3.2 104 o))]) (rest := []) (k_X12_allOf l E K H.size (wI q3.2 104 o) q3.2 hq17) m4_37 m4_38 m1_1 m4_39 hs_X12_allOf ⟨Nat.le_trans (m := 2) (Nat.le_of_ble_eq_true rfl) (Nat.le_add_right _ _), Nat.le_trans (m := 49) (Nat.le_of_ble_eq_true rfl) (Nat.le_add_right _ _), rfl, rfl⟩ hl.1 rfl rc0 rfl dX1_gives_27 ⟨Nat.zero_le _, Nat.zero_le _⟩ (fun H locs hH => ?_)
        refine lv_goto (tgt := 34) hx hb dX1_gives_30 (by decide) ?_
        refine lv_istore (lv' := [(5, .int (q17.1)), (0, rv E (some o)), (1, .int a_1), (2, .int a_2), (3, .int a_3), (4, .int a_4)]) hx hb dX1_gives_34 hl (by decide) rfl (fun ls hl => ?_)
        refine hl_aload_n hx hb dX1_gives_36 rfl (lv_at hl 1 rfl) ?_
        refine lv_iload_n hx hb dX1_gives_37 rfl (lv_at hl 2 rfl) ?_
        refine lv_iload_n hx hb dX1_gives_38 rfl (lv_at hl 3 rfl) ?_
        refine lv_iload hx hb dX1_gives_39 (lv_at hl 0 rfl) ?_
        obtain ⟨q18, hq18, hf⟩ := bnd hf
        refine hcV_i hx hb hml hown hts hKs hT hb0 hH (As := [.int a_1, .int a_2, .int (q17.1)]) (rest := []) (k_X1_hardest l E K H.size o a_1 a_2 q17.1 q17.2 ho hq18) (gV m4_46 m4_48 ms_21 m1_15 m4_49) hd_X1_hardest ⟨Nat.le_trans (m := 2) (Nat.le_of_ble_eq_true rfl) (Nat.le_add_right _ _), Nat.le_trans (m := 49) (Nat.le_of_ble_eq_true rfl) (Nat.le_add_right _ _), rfl, rfl⟩ rfl ho rfl rfl rfl hl.1 rfl rc0 rfl dX1_gives_41 ⟨Nat.zero_le _, Nat.zero_le _⟩ (fun H locs hH => ?_)
        refine lv_istore (lv' := [(6, .int (q18.1)), (5, .int (q17.1)), (0, rv E (some o)), (1, .int a_1), (2, .int a_2), (3, .int a_3), (4, .int a_4)]) hx hb dX1_gives_44 hl (by decide) rfl (fun ls hl => ?_)
        refine hl_aload_n hx hb dX1_gives_46 rfl (lv_at hl 2 rfl) ?_
        refine g1_2 hx hb hts hown hKs hH rfl ho m2_205 dX1_gives_47 ?_
        refine lv_iload_n hx hb dX1_gives_50 rfl (lv_at hl 3 rfl) ?_
        refine lv_bipush (v := 12) hx hb dX1_gives_51 (by decide) ?_
        refine lv_imul hx hb dX1_gives_53 ?_
        refine lv_iload hx hb dX1_gives_54 (lv_at hl 0 rfl) ?_
        refine lv_iadd hx hb dX1_gives_56 ?_
        obtain ⟨a19, ha19, hf⟩ := bnd hf
        replace ha19 := cha_some ha19
        obtain ⟨j20, hj20, hf⟩ := bnd hf
        refine hw_iald hx hb hKs hH ha19.1 ha19.2 hj20 dX1_gives_57 ?_
        refine lv_iload hx hb dX1_gives_58 (lv_at hl 1 rfl) ?_
        refine lv_iand hx hb dX1_gives_60 ?_
        refine lv_istore (lv' := [(7, .int (((aI q18.2 a19.1 j20) &&& q17.1))), (6, .int (q18.1)), (5, .int (q17.1)), (0, rv E (some o)), (1, .int a_1), (2, .int a_2), (3, .int a_3), (4, .int a_4)]) hx hb dX1_gives_61 hl (by decide) rfl (fun ls hl => ?_)
        refine lv_iconst (v := 0) hx hb dX1_gives_63 (by decide) ?_
        refine lv_istore (lv' := [(8, .int 0), (7, .int (((aI q18.2 a19.1 j20) &&& q17.1))), (6, .int (q18.1)), (5, .int (q17.1)), (0, rv E (some o)), (1, .int a_1), (2, .int a_2), (3, .int a_3), (4, .int a_4)]) hx hb dX1_gives_64 hl (by decide) rfl (fun ls hl => ?_)
        refine l_X1_gives_L66  C ho n9 hrc _ (fun v1_66 v2_66 v3_66 v4_66 v5_66 v6_66 v7_66 v8_66 w21 H locs ls hH hl hf => ?_) fu a_1 a_2 a_3 a_4 q17.1 q18.1 ((aI q18.2 a19.1 j20) &&& q17.1) 0 q18.2 _ _ _ hH (lv_sub hl [5, 6, 7, 8, 3, 2, 1, 0, 4] rfl) hf
        refine lv_iconst (v := 0) hx hb dX1_gives_139 (by decide) ?_
        exact hw_zret hx hb hret rfl hf hH hlocks dX1_gives_140
    · replace hf := (if_neg c2).symm.trans hf
      refine lv_iconst (v := 0) hx hb dX1_gives_12 (by decide) ?_
      exact hw_zret hx hb hret rfl hf hH hlocks dX1_gives_13
  · replace hf := (if_pos c1).symm.trans hf
    refine lv_iconst (v := 1) hx hb dX1_gives_4 (by decide) ?_
    exact hw_zret hx hb hret rfl hf hH hlocks dX1_gives_5

theorem dX5_takesHoliday_0 : decode cX5_takesHoliday 0 = .ok (.aload_n 0, 1) := by decide +kernel
theorem dX5_takesHoliday_1 : decode cX5_takesHoliday 1 = .ok (.getfield 21, 3) := by decide +kernel
theorem dX5_takesHoliday_4 : decode cX5_takesHoliday 4 = .ok (.getfield 103, 3) := by decide +kernel
theorem dX5_takesHoliday_7 : decode cX5_takesHoliday 7 = .ok (.getfield 107, 3) := by decide +kernel
theorem dX5_takesHoliday_10 : decode cX5_takesHoliday 10 = .ok (.bipush 20, 2) := by decide +kernel
theorem dX5_takesHoliday_12 : decode cX5_takesHoliday 12 = .ok (.if_icmp .lt 9, 3) := by decide +kernel
theorem dX5_takesHoliday_15 : decode cX5_takesHoliday 15 = .ok (.aload_n 0, 1) := by decide +kernel
theorem dX5_takesHoliday_16 : decode cX5_takesHoliday 16 = .ok (.iconst 4, 1) := by decide +kernel
theorem dX5_takesHoliday_17 : decode cX5_takesHoliday 17 = .ok (.invokevirtual 99, 3) := by decide +kernel
theorem dX5_takesHoliday_20 : decode cX5_takesHoliday 20 = .ok (.ireturn, 1) := by decide +kernel
theorem dX5_takesHoliday_21 : decode cX5_takesHoliday 21 = .ok (.aload_n 0, 1) := by decide +kernel
theorem dX5_takesHoliday_22 : decode cX5_takesHoliday 22 = .ok (.getfield 12, 3) := by decide +kernel
theorem dX5_takesHoliday_25 : decode cX5_takesHoliday 25 = .ok (.invokevirtual 112, 3) := by decide +kernel
theorem dX5_takesHoliday_28 : decode cX5_takesHoliday 28 = .ok (.aload_n 0, 1) := by decide +kernel
theorem dX5_takesHoliday_29 : decode cX5_takesHoliday 29 = .ok (.iconst 0, 1) := by decide +kernel
theorem dX5_takesHoliday_30 : decode cX5_takesHoliday 30 = .ok (.sipush 599, 3) := by decide +kernel
theorem dX5_takesHoliday_33 : decode cX5_takesHoliday 33 = .ok (.invokevirtual 115, 3) := by decide +kernel
theorem dX5_takesHoliday_36 : decode cX5_takesHoliday 36 = .ok (.ifCond .ne 5, 3) := by decide +kernel
theorem dX5_takesHoliday_39 : decode cX5_takesHoliday 39 = .ok (.iconst 0, 1) := by decide +kernel
theorem dX5_takesHoliday_40 : decode cX5_takesHoliday 40 = .ok (.ireturn, 1) := by decide +kernel
theorem dX5_takesHoliday_41 : decode cX5_takesHoliday 41 = .ok (.aload_n 0, 1) := by decide +kernel
theorem dX5_takesHoliday_42 : decode cX5_takesHoliday 42 = .ok (.getfield 21, 3) := by decide +kernel
theorem dX5_takesHoliday_45 : decode cX5_takesHoliday 45 = .ok (.getfield 103, 3) := by decide +kernel
theorem dX5_takesHoliday_48 : decode cX5_takesHoliday 48 = .ok (.aload_n 0, 1) := by decide +kernel
theorem dX5_takesHoliday_49 : decode cX5_takesHoliday 49 = .ok (.getfield 12, 3) := by decide +kernel
theorem dX5_takesHoliday_52 : decode cX5_takesHoliday 52 = .ok (.getfield 119, 3) := by decide +kernel
theorem dX5_takesHoliday_55 : decode cX5_takesHoliday 55 = .ok (.invokevirtual 122, 3) := by decide +kernel
theorem dX5_takesHoliday_58 : decode cX5_takesHoliday 58 = .ok (.ifCond .eq 9, 3) := by decide +kernel
theorem dX5_takesHoliday_61 : decode cX5_takesHoliday 61 = .ok (.aload_n 0, 1) := by decide +kernel
theorem dX5_takesHoliday_62 : decode cX5_takesHoliday 62 = .ok (.iconst 3, 1) := by decide +kernel
theorem dX5_takesHoliday_63 : decode cX5_takesHoliday 63 = .ok (.invokevirtual 99, 3) := by decide +kernel
theorem dX5_takesHoliday_66 : decode cX5_takesHoliday 66 = .ok (.ireturn, 1) := by decide +kernel
theorem dX5_takesHoliday_67 : decode cX5_takesHoliday 67 = .ok (.aload_n 0, 1) := by decide +kernel
theorem dX5_takesHoliday_68 : decode cX5_takesHoliday 68 = .ok (.getfield 21, 3) := by decide +kernel
theorem dX5_takesHoliday_71 : decode cX5_takesHoliday 71 = .ok (.getfield 103, 3) := by decide +kernel
theorem dX5_takesHoliday_74 : decode cX5_takesHoliday 74 = .ok (.aload_n 0, 1) := by decide +kernel
theorem dX5_takesHoliday_75 : decode cX5_takesHoliday 75 = .ok (.getfield 12, 3) := by decide +kernel
theorem dX5_takesHoliday_78 : decode cX5_takesHoliday 78 = .ok (.getfield 119, 3) := by decide +kernel
theorem dX5_takesHoliday_81 : decode cX5_takesHoliday 81 = .ok (.invokevirtual 125, 3) := by decide +kernel
theorem dX5_takesHoliday_84 : decode cX5_takesHoliday 84 = .ok (.aload_n 0, 1) := by decide +kernel
theorem dX5_takesHoliday_85 : decode cX5_takesHoliday 85 = .ok (.getfield 12, 3) := by decide +kernel
theorem dX5_takesHoliday_88 : decode cX5_takesHoliday 88 = .ok (.invokevirtual 112, 3) := by decide +kernel
theorem dX5_takesHoliday_91 : decode cX5_takesHoliday 91 = .ok (.iconst 1, 1) := by decide +kernel
theorem dX5_takesHoliday_92 : decode cX5_takesHoliday 92 = .ok (.ireturn, 1) := by decide +kernel
theorem hd_X5_takesHoliday : yX5_takesHoliday.cls = RX5 ∧ yX5_takesHoliday.cls ≠ "java/lang/invoke/MethodHandle" ∧ yX5_takesHoliday.cls ≠ "java/lang/invoke/VarHandle" ∧ (parseMethodDescriptor yX5_takesHoliday.desc).map (fun d => d.parameters.length) = some 0 := by decide +kernel
theorem hs_X5_takesHoliday : yX5_takesHoliday.cls ≠ "java/lang/invoke/MethodHandle" ∧ yX5_takesHoliday.cls ≠ "java/lang/invoke/VarHandle" ∧ (parseMethodDescriptor yX5_takesHoliday.desc).map (fun d => d.parameters.length) = some 0 := by decide +kernel
set_option maxHeartbeats 4000000 in
set_option maxRecDepth 100000 in
theorem k_X5_takesHoliday (l : Launch) (E : Ev) (K : Kd) (z : Nat) (o : Nat) (w : Wd) (ho : K o = some (4, 0)) {r : Bool} {w' : Wd} (hf : f_X5_takesHoliday K o w = some (r, w')) : Met l yX5_takesHoliday (Cond.code yX5_takesHoliday cX5_takesHoliday 1 (Option.some Jvm.ClassFile.FieldType.boolean) :: bt) ({ frames := 2, cells := 0, slots := 0, locals := 43 } : Room) (va_Pc [rv E (some o)] (HB E K w z)) (QI E K z w' (b2i r)) 0 0 (hA E) := by
  refine Met.ofW (cc := cX5_takesHoliday) (maxL := 1) (ret := (Option.some Jvm.ClassFile.FieldType.boolean)) (by decide) rfl ?_
  intro p e s m args below meth c s₁ B hml hv
  obtain ⟨rfl, hz, hP, hKs, hT, hb0⟩ := hv
  have C : CX p l e s m _ meth c cX5_takesHoliday 1 RX5 (Option.some Jvm.ClassFile.FieldType.boolean) E := ⟨B.exec, B.bytes, hml, findClass_of_methodNamed B.named, fun w h => atoms_spec (ws := Cond.code yX5_takesHoliday cX5_takesHoliday 1 (Option.some Jvm.ClassFile.FieldType.boolean) :: bt) B.pre w (List.mem_cons_of_mem _ h), hKs, hT, by rw [hz]; exact hb0, B.notSynchronized, B.returns⟩
  have hH : HQ E K z w s s.heap [] := ⟨hP, va_S.rf, hz⟩
  obtain ⟨hx, hb, hml, hown, hts, hKs, hT, hb0, hlocks, hret⟩ := id C
  have hl := lv_entry [rv E (some o)] (n := 1) (by simp [lg_len_nil, lg_len_i, lg_len_j, lg_len_q, lg_len_f, lg_len_d, lg_len_r])
  rw [lg_entry_eq]
  generalize (lg_sl [rv E (some o)] ++ List.replicate (1 - (lg_sl [rv E (some o)]).length) Slot.unset).toArray = ls at hl ⊢
  replace hl : lv_has ls 1 [(0, rv E (some o))] := by simpa only [lv_args, cat_q, cat_i, cat_j, reduceIte, Nat.reduceEqDiff, Nat.reduceAdd, Nat.zero_add] using hl
  generalize s.heap = H at hH ⊢
  unfold f_X5_takesHoliday at hf
  refine hl_aload_n hx hb dX5_takesHoliday_0 rfl (lv_at hl 0 rfl) ?_
  refine g5_1 hx hb hts hown hKs hH rfl ho m2_31 dX5_takesHoliday_1 ?_
  obtain ⟨a1, ha1, hf⟩ := bnd hf
  replace ha1 := chk_some ha1
  refine gn9_10 hx hb hts hown hKs hH ha1.1 ha1.2 m1_183 dX5_takesHoliday_4 ?_
  obtain ⟨a2, ha2, hf⟩ := bnd hf
  replace ha2 := chk_some ha2
  refine gn2_1 hx hb hts hown hKs hH ha2.1 ha2.2 m1_57 dX5_takesHoliday_7 ?_
  refine lv_bipush (v := 20) hx hb dX5_takesHoliday_10 (by decide) ?_
  refine lv_icmp_lt (tgt := 21) hx hb dX5_takesHoliday_12 (by decide) (fun c3 => ?_) (fun c3 => ?_)
  · replace hf := (if_pos c3).symm.trans hf
    refine hl_aload_n hx hb dX5_takesHoliday_21 rfl (lv_at hl 0 rfl) ?_
    refine g5_0 hx hb hts hown hKs hH rfl ho m2_30 dX5_takesHoliday_22 ?_
    obtain ⟨a4, ha4, hf⟩ := bnd hf
    replace ha4 := chk_some ha4
    obtain ⟨q5, hq5, hf⟩ := bnd hf
    refine hcV_v hx hb hml hown hts hKs hT hb0 hH (As := []) (rest := []) (k_X8_advance l E K H.size a4 w ha4.2 hq5) (gV m3_100 m3_57 m3_58 m1_9 m3_59) hd_X8_advance ⟨Nat.le_of_ble_eq_true rfl, Nat.le_of_ble_eq_true rfl, rfl, rfl⟩ ha4.1 ha4.2 rfl rfl rfl hl.1 rfl rc0 rfl dX5_takesHoliday_25 ⟨Nat.zero_le _, Nat.zero_le _⟩ (fun H locs hH => ?_)
    refine hl_aload_n hx hb dX5_takesHoliday_28 rfl (lv_at hl 0 rfl) ?_
    refine lv_iconst (v := 0) hx hb dX5_takesHoliday_29 (by decide) ?_
    refine lv_sipush (v := 599) hx hb dX5_takesHoliday_30 (by decide) ?_
    obtain ⟨q6, hq6, hf⟩ := bnd hf
    refine hcV_i hx hb hml hown hts hKs hT hb0 hH (As := [.int 0, .int 599]) (rest := []) (k_X5_seesNumber l E K H.size o 0 599 q5 ho hq6) (gV m3_101 m3_103 ms_4 m1_8 m3_104) hd_X5_seesNumber ⟨Nat.le_of_ble_eq_true rfl, Nat.le_of_ble_eq_true rfl, rfl, rfl⟩ rfl ho rfl rfl rfl hl.1 rfl rc0 rfl dX5_takesHoliday_33 ⟨Nat.zero_le _, Nat.zero_le _⟩ (fun H locs hH => ?_)
    refine lv_if_ne (tgt := 41) hx hb dX5_takesHoliday_36 (by decide) (fun c7 => ?_) (fun c7 => ?_)
    · replace hf := (if_neg c7).symm.trans hf
      refine hl_aload_n hx hb dX5_takesHoliday_41 rfl (lv_at hl 0 rfl) ?_
      refine g5_1 hx hb hts hown hKs hH rfl ho m2_31 dX5_takesHoliday_42 ?_
      obtain ⟨a8, ha8, hf⟩ := bnd hf
      replace ha8 := chk_some ha8
      refine gn9_10 hx hb hts hown hKs hH ha8.1 ha8.2 m1_183 dX5_takesHoliday_45 ?_
      refine hl_aload_n hx hb dX5_takesHoliday_48 rfl (lv_at hl 0 rfl) ?_
      refine g5_0 hx hb hts hown hKs hH rfl ho m2_30 dX5_takesHoliday_49 ?_
      obtain ⟨a9, ha9, hf⟩ := bnd hf
      replace ha9 := chk_some ha9
      refine gn8_6 hx hb hts hown hKs hH ha9.1 ha9.2 m2_11 dX5_takesHoliday_52 ?_
      obtain ⟨a10, ha10, hf⟩ := bnd hf
      replace ha10 := chk_some ha10
      obtain ⟨q11, hq11, hf⟩ := bnd hf
      refine hcV_i hx hb hml hown hts hKs hT hb0 hH (As := [.int ((wI q6.2 806 a9))]) (rest := []) (k_X2_contains l E K H.size a10 (wI q6.2 806 a9) q6.2 ha10.2 hq11) (gV m3_106 m3_107 m3_108 m1_3 m3_109) hd_X2_contains ⟨Nat.le_of_ble_eq_true rfl, Nat.le_of_ble_eq_true rfl, rfl, rfl⟩ ha10.1 ha10.2 rfl rfl rfl hl.1 rfl rc0 rfl dX5_takesHoliday_55 ⟨Nat.zero_le _, Nat.zero_le _⟩ (fun H locs hH => ?_)
      refine lv_if_eq (tgt := 67) hx hb dX5_takesHoliday_58 (by decide) (fun c12 => ?_) (fun c12 => ?_)
      · replace hf := (if_pos c12).symm.trans hf
        refine hl_aload_n hx hb dX5_takesHoliday_67 rfl (lv_at hl 0 rfl) ?_
        refine g5_1 hx hb hts hown hKs hH rfl ho m2_31 dX5_takesHoliday_68 ?_
        obtain ⟨a13, ha13, hf⟩ := bnd hf
        replace ha13 := chk_some ha13
        refine gn9_10 hx hb hts hown hKs hH ha13.1 ha13.2 m1_183 dX5_takesHoliday_71 ?_
        refine hl_aload_n hx hb dX5_takesHoliday_74 rfl (lv_at hl 0 rfl) ?_
        refine g5_0 hx hb hts hown hKs hH rfl ho m2_30 dX5_takesHoliday_75 ?_
        obtain ⟨a14, ha14, hf⟩ := bnd hf
        replace ha14 := chk_some ha14
        refine gn8_6 hx hb hts hown hKs hH ha14.1 ha14.2 m2_11 dX5_takesHoliday_78 ?_
        obtain ⟨a15, ha15, hf⟩ := bnd hf
        replace ha15 := chk_some ha15
        obtain ⟨q16, hq16, hf⟩ := bnd hf
        refine hcV_v hx hb hml hown hts hKs hT hb0 hH (As := [.int ((wI q11.2 806 a14))]) (rest := []) (k_X2_add l E K H.size a15 (wI q11.2 806 a14) q11.2 ha15.2 hq16) (gV m3_110 m3_111 m3_112 m1_3 m3_113) hd_X2_add ⟨Nat.le_of_ble_eq_true rfl, Nat.le_of_ble_eq_true rfl, rfl, rfl⟩ ha15.1 ha15.2 rfl rfl rfl hl.1 rfl rc0 rfl dX5_takesHoliday_81 ⟨Nat.zero_le _, Nat.zero_le _⟩ (fun H locs hH => ?_)
        refine hl_aload_n hx hb dX5_takesHoliday_84 rfl (lv_at hl 0 rfl) ?_
        refine g5_0 hx hb hts hown hKs hH rfl ho m2_30 dX5_takesHoliday_85 ?_
        obtain ⟨a17, ha17, hf⟩ := bnd hf
        replace ha17 := chk_some ha17
        obtain ⟨q18, hq18, hf⟩ := bnd hf
        refine hcV_v hx hb hml hown hts hKs hT hb0 hH (As := []) (rest := []) (k_X8_advance l E K H.size a17 q16 ha17.2 hq18) (gV m3_100 m3_57 m3_58 m1_9 m3_59) hd_X8_advance ⟨Nat.le_of_ble_eq_true rfl, Nat.le_of_ble_eq_true rfl, rfl, rfl⟩ ha17.1 ha17.2 rfl rfl rfl hl.1 rfl rc0 rfl dX5_takesHoliday_88 ⟨Nat.zero_le _, Nat.zero_le _⟩ (fun H locs hH => ?_)
        refine lv_iconst (v := 1) hx hb dX5_takesHoliday_91 (by decide) ?_
        exact hw_zret hx hb hret rfl hf hH hlocks dX5_takesHoliday_92
      · replace hf := (if_neg c12).symm.trans hf
        refine hl_aload_n hx hb dX5_takesHoliday_61 rfl (lv_at hl 0 rfl) ?_
        refine lv_iconst (v := 3) hx hb dX5_takesHoliday_62 (by decide) ?_
        obtain ⟨q19, hq19, hf⟩ := bnd hf
        refine hcV_i hx hb hml hown hts hKs hT hb0 hH (As := [.int 3]) (rest := []) (k_X5_fail l E K H.size o 3 q11.2 ho hq19) (gV m3_96 m3_98 ms_3 m1_8 m3_99) hd_X5_fail ⟨Nat.le_of_ble_eq_true rfl, Nat.le_of_ble_eq_true rfl, rfl, rfl⟩ rfl ho rfl rfl rfl hl.1 rfl rc0 rfl dX5_takesHoliday_63 ⟨Nat.zero_le _, Nat.zero_le _⟩ (fun H locs hH => ?_)
        exact hw_zret hx hb hret rfl hf hH hlocks dX5_takesHoliday_66
    · replace hf := (if_pos c7).symm.trans hf
      refine lv_iconst (v := 0) hx hb dX5_takesHoliday_39 (by decide) ?_
      exact hw_zret hx hb hret rfl hf hH hlocks dX5_takesHoliday_40
  · replace hf := (if_neg c3).symm.trans hf
    refine hl_aload_n hx hb dX5_takesHoliday_15 rfl (lv_at hl 0 rfl) ?_
    refine lv_iconst (v := 4) hx hb dX5_takesHoliday_16 (by decide) ?_
    obtain ⟨q20, hq20, hf⟩ := bnd hf
    refine hcV_i hx hb hml hown hts hKs hT hb0 hH (As := [.int 4]) (rest := []) (k_X5_fail l E K H.size o 4 w ho hq20) (gV m3_96 m3_98 ms_3 m1_8 m3_99) hd_X5_fail ⟨Nat.le_of_ble_eq_true rfl, Nat.le_of_ble_eq_true rfl, rfl, rfl⟩ rfl ho rfl rfl rfl hl.1 rfl rc0 rfl dX5_takesHoliday_17 ⟨Nat.zero_le _, Nat.zero_le _⟩ (fun H locs hH => ?_)
    exact hw_zret hx hb hret rfl hf hH hlocks dX5_takesHoliday_20

theorem dX5_takesNeeds_0 : decode cX5_takesNeeds 0 = .ok (.iconst 0, 1) := by decide +kernel
theorem dX5_takesNeeds_1 : decode cX5_takesNeeds 1 = .ok (.istore_n 2, 1) := by decide +kernel
theorem dX5_takesNeeds_2 : decode cX5_takesNeeds 2 = .ok (.aload_n 0, 1) := by decide +kernel
theorem dX5_takesNeeds_3 : decode cX5_takesNeeds 3 = .ok (.getfield 12, 3) := by decide +kernel
theorem dX5_takesNeeds_6 : decode cX5_takesNeeds 6 = .ok (.getfield 39, 3) := by decide +kernel
theorem dX5_takesNeeds_9 : decode cX5_takesNeeds 9 = .ok (.getstatic 214, 3) := by decide +kernel
theorem dX5_takesNeeds_12 : decode cX5_takesNeeds 12 = .ok (.if_acmp .ne 79, 3) := by decide +kernel
theorem dX5_takesNeeds_15 : decode cX5_takesNeeds 15 = .ok (.iload_n 2, 1) := by decide +kernel
theorem dX5_takesNeeds_16 : decode cX5_takesNeeds 16 = .ok (.iconst 4, 1) := by decide +kernel
theorem dX5_takesNeeds_17 : decode cX5_takesNeeds 17 = .ok (.if_icmp .lt 9, 3) := by decide +kernel
theorem dX5_takesNeeds_20 : decode cX5_takesNeeds 20 = .ok (.aload_n 0, 1) := by decide +kernel
theorem dX5_takesNeeds_21 : decode cX5_takesNeeds 21 = .ok (.iconst 4, 1) := by decide +kernel
theorem dX5_takesNeeds_22 : decode cX5_takesNeeds 22 = .ok (.invokevirtual 99, 3) := by decide +kernel
theorem dX5_takesNeeds_25 : decode cX5_takesNeeds 25 = .ok (.ireturn, 1) := by decide +kernel
theorem dX5_takesNeeds_26 : decode cX5_takesNeeds 26 = .ok (.aload_n 0, 1) := by decide +kernel
theorem dX5_takesNeeds_27 : decode cX5_takesNeeds 27 = .ok (.getfield 12, 3) := by decide +kernel
theorem dX5_takesNeeds_30 : decode cX5_takesNeeds 30 = .ok (.invokevirtual 112, 3) := by decide +kernel
theorem dX5_takesNeeds_33 : decode cX5_takesNeeds 33 = .ok (.aload_n 0, 1) := by decide +kernel
theorem dX5_takesNeeds_34 : decode cX5_takesNeeds 34 = .ok (.iconst 2, 1) := by decide +kernel
theorem dX5_takesNeeds_35 : decode cX5_takesNeeds 35 = .ok (.invokevirtual 217, 3) := by decide +kernel
theorem dX5_takesNeeds_38 : decode cX5_takesNeeds 38 = .ok (.ifCond .ne 5, 3) := by decide +kernel
theorem dX5_takesNeeds_41 : decode cX5_takesNeeds 41 = .ok (.iconst 0, 1) := by decide +kernel
theorem dX5_takesNeeds_42 : decode cX5_takesNeeds 42 = .ok (.ireturn, 1) := by decide +kernel
theorem dX5_takesNeeds_43 : decode cX5_takesNeeds 43 = .ok (.aload_n 1, 1) := by decide +kernel
theorem dX5_takesNeeds_44 : decode cX5_takesNeeds 44 = .ok (.getfield 220, 3) := by decide +kernel
theorem dX5_takesNeeds_47 : decode cX5_takesNeeds 47 = .ok (.aload_n 0, 1) := by decide +kernel
theorem dX5_takesNeeds_48 : decode cX5_takesNeeds 48 = .ok (.getfield 186, 3) := by decide +kernel
theorem dX5_takesNeeds_51 : decode cX5_takesNeeds 51 = .ok (.invokestatic 223, 3) := by decide +kernel
theorem dX5_takesNeeds_54 : decode cX5_takesNeeds 54 = .ok (.ifCond .eq 9, 3) := by decide +kernel
theorem dX5_takesNeeds_57 : decode cX5_takesNeeds 57 = .ok (.aload_n 0, 1) := by decide +kernel
theorem dX5_takesNeeds_58 : decode cX5_takesNeeds 58 = .ok (.iconst 3, 1) := by decide +kernel
theorem dX5_takesNeeds_59 : decode cX5_takesNeeds 59 = .ok (.invokevirtual 99, 3) := by decide +kernel
theorem dX5_takesNeeds_62 : decode cX5_takesNeeds 62 = .ok (.ireturn, 1) := by decide +kernel
theorem dX5_takesNeeds_63 : decode cX5_takesNeeds 63 = .ok (.aload_n 1, 1) := by decide +kernel
theorem dX5_takesNeeds_64 : decode cX5_takesNeeds 64 = .ok (.dup, 1) := by decide +kernel
theorem dX5_takesNeeds_65 : decode cX5_takesNeeds 65 = .ok (.getfield 220, 3) := by decide +kernel
theorem dX5_takesNeeds_68 : decode cX5_takesNeeds 68 = .ok (.iconst 1, 1) := by decide +kernel
theorem dX5_takesNeeds_69 : decode cX5_takesNeeds 69 = .ok (.aload_n 0, 1) := by decide +kernel
theorem dX5_takesNeeds_70 : decode cX5_takesNeeds 70 = .ok (.getfield 186, 3) := by decide +kernel
theorem dX5_takesNeeds_73 : decode cX5_takesNeeds 73 = .ok (.ishl, 1) := by decide +kernel
theorem dX5_takesNeeds_74 : decode cX5_takesNeeds 74 = .ok (.ior, 1) := by decide +kernel
theorem dX5_takesNeeds_75 : decode cX5_takesNeeds 75 = .ok (.putfield 220, 3) := by decide +kernel
theorem dX5_takesNeeds_78 : decode cX5_takesNeeds 78 = .ok (.aload_n 0, 1) := by decide +kernel
theorem dX5_takesNeeds_79 : decode cX5_takesNeeds 79 = .ok (.getfield 12, 3) := by decide +kernel
theorem dX5_takesNeeds_82 : decode cX5_takesNeeds 82 = .ok (.invokevirtual 112, 3) := by decide +kernel
theorem dX5_takesNeeds_85 : decode cX5_takesNeeds 85 = .ok (.iinc 2 1, 3) := by decide +kernel
theorem dX5_takesNeeds_88 : decode cX5_takesNeeds 88 = .ok (.goto (-86), 3) := by decide +kernel
theorem dX5_takesNeeds_91 : decode cX5_takesNeeds 91 = .ok (.iconst 1, 1) := by decide +kernel
theorem dX5_takesNeeds_92 : decode cX5_takesNeeds 92 = .ok (.ireturn, 1) := by decide +kernel
theorem hd_X5_takesNeeds : yX5_takesNeeds.cls = RX5 ∧ yX5_takesNeeds.cls ≠ "java/lang/invoke/MethodHandle" ∧ yX5_takesNeeds.cls ≠ "java/lang/invoke/VarHandle" ∧ (parseMethodDescriptor yX5_takesNeeds.desc).map (fun d => d.parameters.length) = some 1 := by decide +kernel
theorem hs_X5_takesNeeds : yX5_takesNeeds.cls ≠ "java/lang/invoke/MethodHandle" ∧ yX5_takesNeeds.cls ≠ "java/lang/invoke/VarHandle" ∧ (parseMethodDescriptor yX5_takesNeeds.desc).map (fun d => d.parameters.length) = some 1 := by decide +kernel
set_option maxHeartbeats 4000000 in
set_option maxRecDepth 100000 in
theorem l_X5_takesNeeds_L2 (C : CX p l e s m args meth c cX5_takesNeeds 3 RX5 (Option.some Jvm.ClassFile.FieldType.boolean) E) {o : Nat} (ho : K o = some (4, 0)) {r : Bool} {w' : Wd} (k : Option Nat → Int32 → Wd → Option (Bool × Wd)) (hk : ∀ (v1_2 : Option Nat) (v2_2 : Int32) (w : Wd) (H : Heap) (locs : List Loc) (ls : Array Slot), HQ E K z w s H locs → lv_has ls 3 [(1, rv E v1_2), (2, .int v2_2), (0, rv E (some o))] → k v1_2 v2_2 w = some (r, w') → W p l e ({ frames := 2, cells := 0, slots := 0, locals := 44 } : Room) s m args below meth c H locs 0 0 (MQ below (QI E K z w' (b2i r)) args s 0 0 (hA E)) (F0 m 91 ls [])) : ∀ (n : Nat) (v1_2 : Option Nat) (v2_2 : Int32) (w : Wd) (H : Heap) (locs : List Loc) (ls : Array Slot), HQ E K z w s H locs → lv_has ls 3 [(1, rv E v1_2), (2, .int v2_2), (0, rv E (some o))] → f_X5_takesNeeds_L2 K o k n v1_2 v2_2 w = some (r, w') → W p l e ({ frames := 2, cells := 0, slots := 0, locals := 44 } : Room) s m args below meth c H locs 0 0 (MQ below (QI E K z w' (b2i r)) args s 0 0 (hA E)) (F0 m 2 ls []) := by
  obtain ⟨hx, hb, hml, hown, hts, hKs, hT, hb0, hlocks, hret⟩ := id C
  intro n
  induction n with
  | zero =>
    intro v1_2 v2_2 w H locs ls hH hl hf
    cases hf
  | succ n ih =>
    intro v1_2 v2_2 w H locs ls hH hl hf
    rw [f_X5_takesNeeds_L2] at hf
    refine hl_aload_n hx hb dX5_takesNeeds_2 rfl (lv_at hl 2 rfl) ?_
    refine g5_0 hx hb hts hown hKs hH rfl ho m2_30 dX5_takesNeeds_3 ?_
    obtain ⟨a2, ha2, hf⟩ := bnd hf
    replace ha2 := chk_some ha2
    refine gn8_4 hx hb hts hown hKs hH ha2.1 ha2.2 m2_7 dX5_takesNeeds_6 ?_
    refine hw_tok hx hb 11 (by decide) hts hown hT hH m3_187 dX5_takesNeeds_9 ?_
    obtain ⟨_, hg3, hf⟩ := bnd hf
    refine hw_acmp_ne (tgt := 91) hx hb hT (grd_some hg3) rfl dX5_takesNeeds_12 (by decide) (fun c4 => ?_) (fun c4 => ?_)
    · replace hf := (if_neg c4).symm.trans hf
      exact hk v1_2 v2_2 _ _ _ _ hH (lv_sub hl [0, 1, 2] rfl) hf
    · replace hf := (if_pos c4).symm.trans hf
      refine lv_iload_n hx hb dX5_takesNeeds_15 rfl (lv_at hl 1 rfl) ?_
      refine lv_iconst (v := 4) hx hb dX5_takesNeeds_16 (by decide) ?_
      refine lv_icmp_lt (tgt := 26) hx hb dX5_takesNeeds_17 (by decide) (fun c5 => ?_) (fun c5 => ?_)
      · replace hf := (if_pos c5).symm.trans hf
        refine hl_aload_n hx hb dX5_takesNeeds_26 rfl (lv_at hl 2 rfl) ?_
        refine g5_0 hx hb hts hown hKs hH rfl ho m2_30 dX5_takesNeeds_27 ?_
        obtain ⟨q6, hq6, hf⟩ := bnd hf
        refine hcV_v hx hb hml hown hts hKs hT hb0 hH (As := []) (rest := []) (k_X8_advance l E K H.size a2 w ha2.2 hq6) (gV m3_100 m3_57 m3_58 m1_9 m3_59) hd_X8_advance ⟨Nat.le_of_ble_eq_true rfl, Nat.le_of_ble_eq_true rfl, rfl, rfl⟩ ha2.1 ha2.2 rfl rfl rfl hl.1 rfl rc0 rfl dX5_takesNeeds_30 ⟨Nat.zero_le _, Nat.zero_le _⟩ (fun H locs hH => ?_)
        refine hl_aload_n hx hb dX5_takesNeeds_33 rfl (lv_at hl 2 rfl) ?_
        refine lv_iconst (v := 2) hx hb dX5_takesNeeds_34 (by decide) ?_
        obtain ⟨q7, hq7, hf⟩ := bnd hf
        refine hcV_i hx hb hml hown hts hKs hT hb0 hH (As := [.int 2]) (rest := []) (k_X5_seesToldName l E K H.size o 2 q6 ho hq7) (gV m3_189 m3_191 ms_14 m1_8 m3_192) hd_X5_seesToldName ⟨Nat.le_of_ble_eq_true rfl, Nat.le_of_ble_eq_true rfl, rfl, rfl⟩ rfl ho rfl rfl rfl hl.1 rfl rc0 rfl dX5_takesNeeds_35 ⟨Nat.zero_le _, Nat.zero_le _⟩ (fun H locs hH => ?_)
        refine lv_if_ne (tgt := 43) hx hb dX5_takesNeeds_38 (by decide) (fun c8 => ?_) (fun c8 => ?_)
        · replace hf := (if_neg c8).symm.trans hf
          refine hl_aload_n hx hb dX5_takesNeeds_43 rfl (lv_at hl 0 rfl) ?_
          obtain ⟨a9, ha9, hf⟩ := bnd hf
          replace ha9 := chk_some ha9
          refine gn3_4 hx hb hts hown hKs hH ha9.1 ha9.2 m1_107 dX5_takesNeeds_44 ?_
          refine hl_aload_n hx hb dX5_takesNeeds_47 rfl (lv_at hl 2 rfl) ?_
          refine g5_4 hx hb hts hown hKs hH rfl ho m2_36 dX5_takesNeeds_48 ?_
          obtain ⟨q10, hq10, hf⟩ := bnd hf
          refine hcM_i hx hb hml hown hts hKs hT hb0 hH (As := [.int ((wI q7.2 304 a9)), .int ((wI q7.2 504 o))]) (rest := []) (k_X12_has l E K H.size (wI q7.2 304 a9) (wI q7.2 504 o) q7.2 hq10) m3_193 m3_194 m1_1 m3_195 hs_X12_has ⟨Nat.le_of_ble_eq_true rfl, Nat.le_of_ble_eq_true rfl, rfl, rfl⟩ hl.1 rfl rc0 rfl dX5_takesNeeds_51 ⟨Nat.zero_le _, Nat.zero_le _⟩ (fun H locs hH => ?_)
          refine lv_if_eq (tgt := 63) hx hb dX5_takesNeeds_54 (by decide) (fun c11 => ?_) (fun c11 => ?_)
          · replace hf := (if_pos c11).symm.trans hf
            refine hl_aload_n hx hb dX5_takesNeeds_63 rfl (lv_at hl 0 rfl) ?_
            refine lv_dup hx hb dX5_takesNeeds_64 rv_cat ?_
            refine gn3_4 hx hb hts hown hKs hH ha9.1 ha9.2 m1_107 dX5_takesNeeds_65 ?_
            refine lv_iconst (v := 1) hx hb dX5_takesNeeds_68 (by decide) ?_
            refine hl_aload_n hx hb dX5_takesNeeds_69 rfl (lv_at hl 2 rfl) ?_
            refine g5_4 hx hb hts hown hKs hH rfl ho m2_36 dX5_takesNeeds_70 ?_
            refine lv_ishl hx hb dX5_takesNeeds_73 ?_
            refine lv_ior hx hb dX5_takesNeeds_74 ?_
            obtain ⟨w12, hw12, hf⟩ := bnd hf
            replace hw12 := Option.some.inj hw12
            refine pn3_4 (v := ((wI q10.2 304 a9) ||| (1 <<< ((wI q10.2 504 o) &&& 31)))) hx hb hts hown hKs hH ha9.1 ha9.2 m1_107 dX5_takesNeeds_75 (fun H locs hH => ?_)
            rw [hw12] at hH
            refine hl_aload_n hx hb dX5_takesNeeds_78 rfl (lv_at hl 2 rfl) ?_
            refine g5_0 hx hb hts hown hKs hH rfl ho m2_30 dX5_takesNeeds_79 ?_
            obtain ⟨a13, ha13, hf⟩ := bnd hf
            replace ha13 := chk_some ha13
            obtain ⟨q14, hq14, hf⟩ := bnd hf
            refine hcV_v hx hb hml hown hts hKs hT hb0 hH (As := []) (rest := []) (k_X8_advance l E K H.size a13 w12 ha13.2 hq14) (gV m3_100 m3_57 m3_58 m1_9 m3_59) hd_X8_advance ⟨Nat.le_of_ble_eq_true rfl, Nat.le_of_ble_eq_true rfl, rfl, rfl⟩ ha13.1 ha13.2 rfl rfl rfl hl.1 rfl rc0 rfl dX5_takesNeeds_82 ⟨Nat.zero_le _, Nat.zero_le _⟩ (fun H locs hH => ?_)
            refine lv_iinc (v := (v2_2 + 1)) (lv' := [(2, .int ((v2_2 + 1))), (1, rv E v1_2), (0, rv E (some o))]) hx hb dX5_takesNeeds_85 hl (k := 1) rfl rfl (by decide) (by simp [List.filter_cons, cat_q, cat_i, cat_j]) (fun ls hl => ?_)
            refine lv_goto (tgt := 2) hx hb dX5_takesNeeds_88 (by decide) ?_
            exact ih v1_2 (v2_2 + 1) _ _ _ _ hH (lv_sub hl [1, 0, 2] rfl) hf
          · replace hf := (if_neg c11).symm.trans hf
            refine hl_aload_n hx hb dX5_takesNeeds_57 rfl (lv_at hl 2 rfl) ?_
            refine lv_iconst (v := 3) hx hb dX5_takesNeeds_58 (by decide) ?_
            obtain ⟨q15, hq15, hf⟩ := bnd hf
            refine hcV_i hx hb hml hown hts hKs hT hb0 hH (As := [.int 3]) (rest := []) (k_X5_fail l E K H.size o 3 q10.2 ho hq15) (gV m3_96 m3_98 ms_3 m1_8 m3_99) hd_X5_fail ⟨Nat.le_of_ble_eq_true rfl, Nat.le_of_ble_eq_true rfl, rfl, rfl⟩ rfl ho rfl rfl rfl hl.1 rfl rc0 rfl dX5_takesNeeds_59 ⟨Nat.zero_le _, Nat.zero_le _⟩ (fun H locs hH => ?_)
            exact hw_zret hx hb hret rfl hf hH hlocks dX5_takesNeeds_62
        · replace hf := (if_pos c8).symm.trans hf
          refine lv_iconst (v := 0) hx hb dX5_takesNeeds_41 (by decide) ?_
          exact hw_zret hx hb hret rfl hf hH hlocks dX5_takesNeeds_42
      · replace hf := (if_neg c5).symm.trans hf
        refine hl_aload_n hx hb dX5_takesNeeds_20 rfl (lv_at hl 2 rfl) ?_
        refine lv_iconst (v := 4) hx hb dX5_takesNeeds_21 (by decide) ?_
        obtain ⟨q16, hq16, hf⟩ := bnd hf
        refine hcV_i hx hb hml hown hts hKs hT hb0 hH (As := [.int 4]) (rest := []) (k_X5_fail l E K H.size o 4 w ho hq16) (gV m3_96 m3_98 ms_3 m1_8 m3_99) hd_X5_fail ⟨Nat.le_of_ble_eq_true rfl, Nat.le_of_ble_eq_true rfl, rfl, rfl⟩ rfl ho rfl rfl rfl hl.1 rfl rc0 rfl dX5_takesNeeds_22 ⟨Nat.zero_le _, Nat.zero_le _⟩ (fun H locs hH => ?_)
        exact hw_zret hx hb hret rfl hf hH hlocks dX5_takesNeeds_25
set_option maxHeartbeats 4000000 in
set_option maxRecDepth 100000 in
theorem k_X5_takesNeeds (l : Launch) (E : Ev) (K : Kd) (z : Nat) (o : Nat) (a_1 : Option Nat) (w : Wd) (ho : K o = some (4, 0)) {r : Bool} {w' : Wd} (hf : f_X5_takesNeeds K o a_1 w = some (r, w')) : Met l yX5_takesNeeds (Cond.code yX5_takesNeeds cX5_takesNeeds 3 (Option.some Jvm.ClassFile.FieldType.boolean) :: bt) ({ frames := 2, cells := 0, slots := 0, locals := 44 } : Room) (va_Pc [rv E (some o), rv E a_1] (HB E K w z)) (QI E K z w' (b2i r)) 0 0 (hA E) := by
  refine Met.ofW (cc := cX5_takesNeeds) (maxL := 3) (ret := (Option.some Jvm.ClassFile.FieldType.boolean)) (by decide) rfl ?_
  intro p e s m args below meth c s₁ B hml hv
  obtain ⟨rfl, hz, hP, hKs, hT, hb0⟩ := hv
  have C : CX p l e s m _ meth c cX5_takesNeeds 3 RX5 (Option.some Jvm.ClassFile.FieldType.boolean) E := ⟨B.exec, B.bytes, hml, findClass_of_methodNamed B.named, fun w h => atoms_spec (ws := Cond.code yX5_takesNeeds cX5_takesNeeds 3 (Option.some Jvm.ClassFile.FieldType.boolean) :: bt) B.pre w (List.mem_cons_of_mem _ h), hKs, hT, by rw [hz]; exact hb0, B.notSynchronized, B.returns⟩
  have hH : HQ E K z w s s.heap [] := ⟨hP, va_S.rf, hz⟩
  obtain ⟨hx, hb, hml, hown, hts, hKs, hT, hb0, hlocks, hret⟩ := id C
  have hl := lv_entry [rv E (some o), rv E a_1] (n := 3) (by simp [lg_len_nil, lg_len_i, lg_len_j, lg_len_q, lg_len_f, lg_len_d, lg_len_r])
  rw [lg_entry_eq]
  generalize (lg_sl [rv E (some o), rv E a_1] ++ List.replicate (3 - (lg_sl [rv E (some o), rv E a_1]).length) Slot.unset).toArray = ls at hl ⊢
  replace hl : lv_has ls 3 [(0, rv E (some o)), (1, rv E a_1)] := by simpa only [lv_args, cat_q, cat_i, cat_j, reduceIte, Nat.reduceEqDiff, Nat.reduceAdd, Nat.zero_add] using hl
  generalize s.heap = H at hH ⊢
  unfold f_X5_takesNeeds at hf
  refine lv_iconst (v := 0) hx hb dX5_takesNeeds_0 (by decide) ?_
  refine lv_istore_n (lv' := [(2, .int 0), (0, rv E (some o)), (1, rv E a_1)]) hx hb dX5_takesNeeds_1 rfl hl (by decide) (by simp [List.filter_cons, cat_q, cat_i, cat_j]) (fun ls hl => ?_)
  refine l_X5_takesNeeds_L2  C ho _ (fun v1_2 v2_2 w1 H locs ls hH hl hf => ?_) fu a_1 0 w _ _ _ hH (lv_sub hl [2, 0, 1] rfl) hf
  refine lv_iconst (v := 1) hx hb dX5_takesNeeds_91 (by decide) ?_
  exact hw_zret hx hb hret rfl hf hH hlocks dX5_takesNeeds_92

theorem dX5_takesBar_0 : decode cX5_takesBar 0 = .ok (.aload_n 0, 1) := by decide +kernel
theorem dX5_takesBar_1 : decode cX5_takesBar 1 = .ok (.getfield 12, 3) := by decide +kernel
theorem dX5_takesBar_4 : decode cX5_takesBar 4 = .ok (.invokevirtual 112, 3) := by decide +kernel
theorem dX5_takesBar_7 : decode cX5_takesBar 7 = .ok (.aload_n 0, 1) := by decide +kernel
theorem dX5_takesBar_8 : decode cX5_takesBar 8 = .ok (.iconst 1, 1) := by decide +kernel
theorem dX5_takesBar_9 : decode cX5_takesBar 9 = .ok (.invokevirtual 217, 3) := by decide +kernel
theorem dX5_takesBar_12 : decode cX5_takesBar 12 = .ok (.ifCond .ne 5, 3) := by decide +kernel
theorem dX5_takesBar_15 : decode cX5_takesBar 15 = .ok (.iconst 0, 1) := by decide +kernel
theorem dX5_takesBar_16 : decode cX5_takesBar 16 = .ok (.ireturn, 1) := by decide +kernel
theorem dX5_takesBar_17 : decode cX5_takesBar 17 = .ok (.aload_n 0, 1) := by decide +kernel
theorem dX5_takesBar_18 : decode cX5_takesBar 18 = .ok (.getfield 186, 3) := by decide +kernel
theorem dX5_takesBar_21 : decode cX5_takesBar 21 = .ok (.istore_n 1, 1) := by decide +kernel
theorem dX5_takesBar_22 : decode cX5_takesBar 22 = .ok (.aload_n 0, 1) := by decide +kernel
theorem dX5_takesBar_23 : decode cX5_takesBar 23 = .ok (.getfield 12, 3) := by decide +kernel
theorem dX5_takesBar_26 : decode cX5_takesBar 26 = .ok (.invokevirtual 112, 3) := by decide +kernel
theorem dX5_takesBar_29 : decode cX5_takesBar 29 = .ok (.aload_n 0, 1) := by decide +kernel
theorem dX5_takesBar_30 : decode cX5_takesBar 30 = .ok (.iconst 3, 1) := by decide +kernel
theorem dX5_takesBar_31 : decode cX5_takesBar 31 = .ok (.invokevirtual 217, 3) := by decide +kernel
theorem dX5_takesBar_34 : decode cX5_takesBar 34 = .ok (.ifCond .ne 5, 3) := by decide +kernel
theorem dX5_takesBar_37 : decode cX5_takesBar 37 = .ok (.iconst 0, 1) := by decide +kernel
theorem dX5_takesBar_38 : decode cX5_takesBar 38 = .ok (.ireturn, 1) := by decide +kernel
theorem dX5_takesBar_39 : decode cX5_takesBar 39 = .ok (.aload_n 0, 1) := by decide +kernel
theorem dX5_takesBar_40 : decode cX5_takesBar 40 = .ok (.getfield 21, 3) := by decide +kernel
theorem dX5_takesBar_43 : decode cX5_takesBar 43 = .ok (.getfield 176, 3) := by decide +kernel
theorem dX5_takesBar_46 : decode cX5_takesBar 46 = .ok (.aload_n 0, 1) := by decide +kernel
theorem dX5_takesBar_47 : decode cX5_takesBar 47 = .ok (.getfield 186, 3) := by decide +kernel
theorem dX5_takesBar_50 : decode cX5_takesBar 50 = .ok (.aaload, 1) := by decide +kernel
theorem dX5_takesBar_51 : decode cX5_takesBar 51 = .ok (.astore_n 2, 1) := by decide +kernel
theorem dX5_takesBar_52 : decode cX5_takesBar 52 = .ok (.aload_n 2, 1) := by decide +kernel
theorem dX5_takesBar_53 : decode cX5_takesBar 53 = .ok (.getfield 226, 3) := by decide +kernel
theorem dX5_takesBar_56 : decode cX5_takesBar 56 = .ok (.iload_n 1, 1) := by decide +kernel
theorem dX5_takesBar_57 : decode cX5_takesBar 57 = .ok (.invokestatic 223, 3) := by decide +kernel
theorem dX5_takesBar_60 : decode cX5_takesBar 60 = .ok (.ifCond .eq 9, 3) := by decide +kernel
theorem dX5_takesBar_63 : decode cX5_takesBar 63 = .ok (.aload_n 0, 1) := by decide +kernel
theorem dX5_takesBar_64 : decode cX5_takesBar 64 = .ok (.iconst 3, 1) := by decide +kernel
theorem dX5_takesBar_65 : decode cX5_takesBar 65 = .ok (.invokevirtual 99, 3) := by decide +kernel
theorem dX5_takesBar_68 : decode cX5_takesBar 68 = .ok (.ireturn, 1) := by decide +kernel
theorem dX5_takesBar_69 : decode cX5_takesBar 69 = .ok (.aload_n 2, 1) := by decide +kernel
theorem dX5_takesBar_70 : decode cX5_takesBar 70 = .ok (.dup, 1) := by decide +kernel
theorem dX5_takesBar_71 : decode cX5_takesBar 71 = .ok (.getfield 226, 3) := by decide +kernel
theorem dX5_takesBar_74 : decode cX5_takesBar 74 = .ok (.iconst 1, 1) := by decide +kernel
theorem dX5_takesBar_75 : decode cX5_takesBar 75 = .ok (.iload_n 1, 1) := by decide +kernel
theorem dX5_takesBar_76 : decode cX5_takesBar 76 = .ok (.ishl, 1) := by decide +kernel
theorem dX5_takesBar_77 : decode cX5_takesBar 77 = .ok (.ior, 1) := by decide +kernel
theorem dX5_takesBar_78 : decode cX5_takesBar 78 = .ok (.putfield 226, 3) := by decide +kernel
theorem dX5_takesBar_81 : decode cX5_takesBar 81 = .ok (.aload_n 0, 1) := by decide +kernel
theorem dX5_takesBar_82 : decode cX5_takesBar 82 = .ok (.getfield 12, 3) := by decide +kernel
theorem dX5_takesBar_85 : decode cX5_takesBar 85 = .ok (.invokevirtual 112, 3) := by decide +kernel
theorem dX5_takesBar_88 : decode cX5_takesBar 88 = .ok (.iconst 1, 1) := by decide +kernel
theorem dX5_takesBar_89 : decode cX5_takesBar 89 = .ok (.ireturn, 1) := by decide +kernel
theorem hd_X5_takesBar : yX5_takesBar.cls = RX5 ∧ yX5_takesBar.cls ≠ "java/lang/invoke/MethodHandle" ∧ yX5_takesBar.cls ≠ "java/lang/invoke/VarHandle" ∧ (parseMethodDescriptor yX5_takesBar.desc).map (fun d => d.parameters.length) = some 0 := by decide +kernel
theorem hs_X5_takesBar : yX5_takesBar.cls ≠ "java/lang/invoke/MethodHandle" ∧ yX5_takesBar.cls ≠ "java/lang/invoke/VarHandle" ∧ (parseMethodDescriptor yX5_takesBar.desc).map (fun d => d.parameters.length) = some 0 := by decide +kernel
set_option maxHeartbeats 4000000 in
set_option maxRecDepth 100000 in
theorem k_X5_takesBar (l : Launch) (E : Ev) (K : Kd) (z : Nat) (o : Nat) (w : Wd) (ho : K o = some (4, 0)) {r : Bool} {w' : Wd} (hf : f_X5_takesBar K o w = some (r, w')) : Met l yX5_takesBar (Cond.code yX5_takesBar cX5_takesBar 3 (Option.some Jvm.ClassFile.FieldType.boolean) :: bt) ({ frames := 2, cells := 0, slots := 0, locals := 44 } : Room) (va_Pc [rv E (some o)] (HB E K w z)) (QI E K z w' (b2i r)) 0 0 (hA E) := by
  refine Met.ofW (cc := cX5_takesBar) (maxL := 3) (ret := (Option.some Jvm.ClassFile.FieldType.boolean)) (by decide) rfl ?_
  intro p e s m args below meth c s₁ B hml hv
  obtain ⟨rfl, hz, hP, hKs, hT, hb0⟩ := hv
  have C : CX p l e s m _ meth c cX5_takesBar 3 RX5 (Option.some Jvm.ClassFile.FieldType.boolean) E := ⟨B.exec, B.bytes, hml, findClass_of_methodNamed B.named, fun w h => atoms_spec (ws := Cond.code yX5_takesBar cX5_takesBar 3 (Option.some Jvm.ClassFile.FieldType.boolean) :: bt) B.pre w (List.mem_cons_of_mem _ h), hKs, hT, by rw [hz]; exact hb0, B.notSynchronized, B.returns⟩
  have hH : HQ E K z w s s.heap [] := ⟨hP, va_S.rf, hz⟩
  obtain ⟨hx, hb, hml, hown, hts, hKs, hT, hb0, hlocks, hret⟩ := id C
  have hl := lv_entry [rv E (some o)] (n := 3) (by simp [lg_len_nil, lg_len_i, lg_len_j, lg_len_q, lg_len_f, lg_len_d, lg_len_r])
  rw [lg_entry_eq]
  generalize (lg_sl [rv E (some o)] ++ List.replicate (3 - (lg_sl [rv E (some o)]).length) Slot.unset).toArray = ls at hl ⊢
  replace hl : lv_has ls 3 [(0, rv E (some o))] := by simpa only [lv_args, cat_q, cat_i, cat_j, reduceIte, Nat.reduceEqDiff, Nat.reduceAdd, Nat.zero_add] using hl
  generalize s.heap = H at hH ⊢
  unfold f_X5_takesBar at hf
  refine hl_aload_n hx hb dX5_takesBar_0 rfl (lv_at hl 0 rfl) ?_
  refine g5_0 hx hb hts hown hKs hH rfl ho m2_30 dX5_takesBar_1 ?_
  obtain ⟨a1, ha1, hf⟩ := bnd hf
  replace ha1 := chk_some ha1
  obtain ⟨q2, hq2, hf⟩ := bnd hf
  refine hcV_v hx hb hml hown hts hKs hT hb0 hH (As := []) (rest := []) (k_X8_advance l E K H.size a1 w ha1.2 hq2) (gV m3_100 m3_57 m3_58 m1_9 m3_59) hd_X8_advance ⟨Nat.le_of_ble_eq_true rfl, Nat.le_of_ble_eq_true rfl, rfl, rfl⟩ ha1.1 ha1.2 rfl rfl rfl hl.1 rfl rc0 rfl dX5_takesBar_4 ⟨Nat.zero_le _, Nat.zero_le _⟩ (fun H locs hH => ?_)
  refine hl_aload_n hx hb dX5_takesBar_7 rfl (lv_at hl 0 rfl) ?_
  refine lv_iconst (v := 1) hx hb dX5_takesBar_8 (by decide) ?_
  obtain ⟨q3, hq3, hf⟩ := bnd hf
  refine hcV_i hx hb hml hown hts hKs hT hb0 hH (As := [.int 1]) (rest := []) (k_X5_seesToldName l E K H.size o 1 q2 ho hq3) (gV m3_189 m3_191 ms_14 m1_8 m3_192) hd_X5_seesToldName ⟨Nat.le_of_ble_eq_true rfl, Nat.le_of_ble_eq_true rfl, rfl, rfl⟩ rfl ho rfl rfl rfl hl.1 rfl rc0 rfl dX5_takesBar_9 ⟨Nat.zero_le _, Nat.zero_le _⟩ (fun H locs hH => ?_)
  refine lv_if_ne (tgt := 17) hx hb dX5_takesBar_12 (by decide) (fun c4 => ?_) (fun c4 => ?_)
  · replace hf := (if_neg c4).symm.trans hf
    refine hl_aload_n hx hb dX5_takesBar_17 rfl (lv_at hl 0 rfl) ?_
    refine g5_4 hx hb hts hown hKs hH rfl ho m2_36 dX5_takesBar_18 ?_
    refine lv_istore_n (lv' := [(1, .int ((wI q3.2 504 o))), (0, rv E (some o))]) hx hb dX5_takesBar_21 rfl hl (by decide) rfl (fun ls hl => ?_)
    refine hl_aload_n hx hb dX5_takesBar_22 rfl (lv_at hl 1 rfl) ?_
    refine g5_0 hx hb hts hown hKs hH rfl ho m2_30 dX5_takesBar_23 ?_
    obtain ⟨a5, ha5, hf⟩ := bnd hf
    replace ha5 := chk_some ha5
    obtain ⟨q6, hq6, hf⟩ := bnd hf
    refine hcV_v hx hb hml hown hts hKs hT hb0 hH (As := []) (rest := []) (k_X8_advance l E K H.size a5 q3.2 ha5.2 hq6) (gV m3_100 m3_57 m3_58 m1_9 m3_59) hd_X8_advance ⟨Nat.le_of_ble_eq_true rfl, Nat.le_of_ble_eq_true rfl, rfl, rfl⟩ ha5.1 ha5.2 rfl rfl rfl hl.1 rfl rc0 rfl dX5_takesBar_26 ⟨Nat.zero_le _, Nat.zero_le _⟩ (fun H locs hH => ?_)
    refine hl_aload_n hx hb dX5_takesBar_29 rfl (lv_at hl 1 rfl) ?_
    refine lv_iconst (v := 3) hx hb dX5_takesBar_30 (by decide) ?_
    obtain ⟨q7, hq7, hf⟩ := bnd hf
    refine hcV_i hx hb hml hown hts hKs hT hb0 hH (As := [.int 3]) (rest := []) (k_X5_seesToldName l E K H.size o 3 q6 ho hq7) (gV m3_189 m3_191 ms_14 m1_8 m3_192) hd_X5_seesToldName ⟨Nat.le_of_ble_eq_true rfl, Nat.le_of_ble_eq_true rfl, rfl, rfl⟩ rfl ho rfl rfl rfl hl.1 rfl rc0 rfl dX5_takesBar_31 ⟨Nat.zero_le _, Nat.zero_le _⟩ (fun H locs hH => ?_)
    refine lv_if_ne (tgt := 39) hx hb dX5_takesBar_34 (by decide) (fun c8 => ?_) (fun c8 => ?_)
    · replace hf := (if_neg c8).symm.trans hf
      refine hl_aload_n hx hb dX5_takesBar_39 rfl (lv_at hl 1 rfl) ?_
      refine g5_1 hx hb hts hown hKs hH rfl ho m2_31 dX5_takesBar_40 ?_
      obtain ⟨a9, ha9, hf⟩ := bnd hf
      replace ha9 := chk_some ha9
      refine gn9_9 hx hb hts hown hKs hH ha9.1 ha9.2 m1_179 dX5_takesBar_43 ?_
      refine hl_aload_n hx hb dX5_takesBar_46 rfl (lv_at hl 1 rfl) ?_
      refine g5_4 hx hb hts hown hKs hH rfl ho m2_36 dX5_takesBar_47 ?_
      obtain ⟨a10, ha10, hf⟩ := bnd hf
      replace ha10 := cha_some ha10
      obtain ⟨j11, hj11, hf⟩ := bnd hf
      refine hw_aald25 hx hb hKs hH ha10.1 ha10.2 hj11 dX5_takesBar_50 ?_
      refine hl_astore_n (lv' := [(2, rv E (aR q7.2 a10.1 j11)), (1, .int ((wI q3.2 504 o))), (0, rv E (some o))]) hx hb dX5_takesBar_51 rfl hl (by decide) rfl (fun ls hl => ?_)
      refine hl_aload_n hx hb dX5_takesBar_52 rfl (lv_at hl 0 rfl) ?_
      obtain ⟨a12, ha12, hf⟩ := bnd hf
      replace ha12 := chk_some ha12
      refine gn3_6 hx hb hts hown hKs hH ha12.1 ha12.2 m1_118 dX5_takesBar_53 ?_
      refine lv_iload_n hx hb dX5_takesBar_56 rfl (lv_at hl 1 rfl) ?_
      obtain ⟨q13, hq13, hf⟩ := bnd hf
      refine hcM_i hx hb hml hown hts hKs hT hb0 hH (As := [.int ((wI q7.2 306 a12)), .int ((wI q3.2 504 o))]) (rest := []) (k_X12_has l E K H.size (wI q7.2 306 a12) (wI q3.2 504 o) q7.2 hq13) m3_193 m3_194 m1_1 m3_195 hs_X12_has ⟨Nat.le_of_ble_eq_true rfl, Nat.le_of_ble_eq_true rfl, rfl, rfl⟩ hl.1 rfl rc0 rfl dX5_takesBar_57 ⟨Nat.zero_le _, Nat.zero_le _⟩ (fun H locs hH => ?_)
      refine lv_if_eq (tgt := 69) hx hb dX5_takesBar_60 (by decide) (fun c14 => ?_) (fun c14 => ?_)
      · replace hf := (if_pos c14).symm.trans hf
        refine hl_aload_n hx hb dX5_takesBar_69 rfl (lv_at hl 0 rfl) ?_
        refine lv_dup hx hb dX5_takesBar_70 rv_cat ?_
        refine gn3_6 hx hb hts hown hKs hH ha12.1 ha12.2 m1_118 dX5_takesBar_71 ?_
        refine lv_iconst (v := 1) hx hb dX5_takesBar_74 (by decide) ?_
        refine lv_iload_n hx hb dX5_takesBar_75 rfl (lv_at hl 1 rfl) ?_
        refine lv_ishl hx hb dX5_takesBar_76 ?_
        refine lv_ior hx hb dX5_takesBar_77 ?_
        obtain ⟨w15, hw15, hf⟩ := bnd hf
        replace hw15 := Option.some.inj hw15
        refine pn3_6 (v := ((wI q13.2 306 a12) ||| (1 <<< ((wI q3.2 504 o) &&& 31)))) hx hb hts hown hKs hH ha12.1 ha12.2 m1_118 dX5_takesBar_78 (fun H locs hH => ?_)
        rw [hw15] at hH
        refine hl_aload_n hx hb dX5_takesBar_81 rfl (lv_at hl 2 rfl) ?_
        refine g5_0 hx hb hts hown hKs hH rfl ho m2_30 dX5_takesBar_82 ?_
        obtain ⟨a16, ha16, hf⟩ := bnd hf
        replace ha16 := chk_some ha16
        obtain ⟨q17, hq17, hf⟩ := bnd hf
        refine hcV_v hx hb hml hown hts hKs hT hb0 hH (As := []) (rest := []) (k_X8_advance l E K H.size a16 w15 ha16.2 hq17) (gV m3_100 m3_57 m3_58 m1_9 m3_59) hd_X8_advance ⟨Nat.le_of_ble_eq_true rfl, Nat.le_of_ble_eq_true rfl, rfl, rfl⟩ ha16.1 ha16.2 rfl rfl rfl hl.1 rfl rc0 rfl dX5_takesBar_85 ⟨Nat.zero_le _, Nat.zero_le _⟩ (fun H locs hH => ?_)
        refine lv_iconst (v := 1) hx hb dX5_takesBar_88 (by decide) ?_
        exact hw_zret hx hb hret rfl hf hH hlocks dX5_takesBar_89
      · replace hf := (if_neg c14).symm.trans hf
        refine hl_aload_n hx hb dX5_takesBar_63 rfl (lv_at hl 2 rfl) ?_
        refine lv_iconst (v := 3) hx hb dX5_takesBar_64 (by decide) ?_
        obtain ⟨q18, hq18, hf⟩ := bnd hf
        refine hcV_i hx hb hml hown hts hKs hT hb0 hH (As := [.int 3]) (rest := []) (k_X5_fail l E K H.size o 3 q13.2 ho hq18) (gV m3_96 m3_98 ms_3 m1_8 m3_99) hd_X5_fail ⟨Nat.le_of_ble_eq_true rfl, Nat.le_of_ble_eq_true rfl, rfl, rfl⟩ rfl ho rfl rfl rfl hl.1 rfl rc0 rfl dX5_takesBar_65 ⟨Nat.zero_le _, Nat.zero_le _⟩ (fun H locs hH => ?_)
        exact hw_zret hx hb hret rfl hf hH hlocks dX5_takesBar_68
    · replace hf := (if_pos c8).symm.trans hf
      refine lv_iconst (v := 0) hx hb dX5_takesBar_37 (by decide) ?_
      exact hw_zret hx hb hret rfl hf hH hlocks dX5_takesBar_38
  · replace hf := (if_pos c4).symm.trans hf
    refine lv_iconst (v := 0) hx hb dX5_takesBar_15 (by decide) ?_
    exact hw_zret hx hb hret rfl hf hH hlocks dX5_takesBar_16

theorem dX5_takesConflict_0 : decode cX5_takesConflict 0 = .ok (.aload_n 0, 1) := by decide +kernel
theorem dX5_takesConflict_1 : decode cX5_takesConflict 1 = .ok (.getfield 12, 3) := by decide +kernel
theorem dX5_takesConflict_4 : decode cX5_takesConflict 4 = .ok (.invokevirtual 112, 3) := by decide +kernel
theorem dX5_takesConflict_7 : decode cX5_takesConflict 7 = .ok (.aload_n 0, 1) := by decide +kernel
theorem dX5_takesConflict_8 : decode cX5_takesConflict 8 = .ok (.iconst 3, 1) := by decide +kernel
theorem dX5_takesConflict_9 : decode cX5_takesConflict 9 = .ok (.invokevirtual 217, 3) := by decide +kernel
theorem dX5_takesConflict_12 : decode cX5_takesConflict 12 = .ok (.ifCond .ne 5, 3) := by decide +kernel
theorem dX5_takesConflict_15 : decode cX5_takesConflict 15 = .ok (.iconst 0, 1) := by decide +kernel
theorem dX5_takesConflict_16 : decode cX5_takesConflict 16 = .ok (.ireturn, 1) := by decide +kernel
theorem dX5_takesConflict_17 : decode cX5_takesConflict 17 = .ok (.aload_n 0, 1) := by decide +kernel
theorem dX5_takesConflict_18 : decode cX5_takesConflict 18 = .ok (.getfield 186, 3) := by decide +kernel
theorem dX5_takesConflict_21 : decode cX5_takesConflict 21 = .ok (.istore_n 1, 1) := by decide +kernel
theorem dX5_takesConflict_22 : decode cX5_takesConflict 22 = .ok (.aload_n 0, 1) := by decide +kernel
theorem dX5_takesConflict_23 : decode cX5_takesConflict 23 = .ok (.getfield 12, 3) := by decide +kernel
theorem dX5_takesConflict_26 : decode cX5_takesConflict 26 = .ok (.invokevirtual 112, 3) := by decide +kernel
theorem dX5_takesConflict_29 : decode cX5_takesConflict 29 = .ok (.aload_n 0, 1) := by decide +kernel
theorem dX5_takesConflict_30 : decode cX5_takesConflict 30 = .ok (.iconst 3, 1) := by decide +kernel
theorem dX5_takesConflict_31 : decode cX5_takesConflict 31 = .ok (.invokevirtual 217, 3) := by decide +kernel
theorem dX5_takesConflict_34 : decode cX5_takesConflict 34 = .ok (.ifCond .ne 5, 3) := by decide +kernel
theorem dX5_takesConflict_37 : decode cX5_takesConflict 37 = .ok (.iconst 0, 1) := by decide +kernel
theorem dX5_takesConflict_38 : decode cX5_takesConflict 38 = .ok (.ireturn, 1) := by decide +kernel
theorem dX5_takesConflict_39 : decode cX5_takesConflict 39 = .ok (.aload_n 0, 1) := by decide +kernel
theorem dX5_takesConflict_40 : decode cX5_takesConflict 40 = .ok (.getfield 186, 3) := by decide +kernel
theorem dX5_takesConflict_43 : decode cX5_takesConflict 43 = .ok (.istore_n 2, 1) := by decide +kernel
theorem dX5_takesConflict_44 : decode cX5_takesConflict 44 = .ok (.iload_n 2, 1) := by decide +kernel
theorem dX5_takesConflict_45 : decode cX5_takesConflict 45 = .ok (.iload_n 1, 1) := by decide +kernel
theorem dX5_takesConflict_46 : decode cX5_takesConflict 46 = .ok (.if_icmp .eq 22, 3) := by decide +kernel
theorem dX5_takesConflict_49 : decode cX5_takesConflict 49 = .ok (.aload_n 0, 1) := by decide +kernel
theorem dX5_takesConflict_50 : decode cX5_takesConflict 50 = .ok (.getfield 21, 3) := by decide +kernel
theorem dX5_takesConflict_53 : decode cX5_takesConflict 53 = .ok (.getfield 176, 3) := by decide +kernel
theorem dX5_takesConflict_56 : decode cX5_takesConflict 56 = .ok (.iload_n 1, 1) := by decide +kernel
theorem dX5_takesConflict_57 : decode cX5_takesConflict 57 = .ok (.aaload, 1) := by decide +kernel
theorem dX5_takesConflict_58 : decode cX5_takesConflict 58 = .ok (.getfield 229, 3) := by decide +kernel
theorem dX5_takesConflict_61 : decode cX5_takesConflict 61 = .ok (.iload_n 2, 1) := by decide +kernel
theorem dX5_takesConflict_62 : decode cX5_takesConflict 62 = .ok (.invokestatic 223, 3) := by decide +kernel
theorem dX5_takesConflict_65 : decode cX5_takesConflict 65 = .ok (.ifCond .eq 9, 3) := by decide +kernel
theorem dX5_takesConflict_68 : decode cX5_takesConflict 68 = .ok (.aload_n 0, 1) := by decide +kernel
theorem dX5_takesConflict_69 : decode cX5_takesConflict 69 = .ok (.iconst 3, 1) := by decide +kernel
theorem dX5_takesConflict_70 : decode cX5_takesConflict 70 = .ok (.invokevirtual 99, 3) := by decide +kernel
theorem dX5_takesConflict_73 : decode cX5_takesConflict 73 = .ok (.ireturn, 1) := by decide +kernel
theorem dX5_takesConflict_74 : decode cX5_takesConflict 74 = .ok (.aload_n 0, 1) := by decide +kernel
theorem dX5_takesConflict_75 : decode cX5_takesConflict 75 = .ok (.getfield 21, 3) := by decide +kernel
theorem dX5_takesConflict_78 : decode cX5_takesConflict 78 = .ok (.getfield 176, 3) := by decide +kernel
theorem dX5_takesConflict_81 : decode cX5_takesConflict 81 = .ok (.iload_n 1, 1) := by decide +kernel
theorem dX5_takesConflict_82 : decode cX5_takesConflict 82 = .ok (.aaload, 1) := by decide +kernel
theorem dX5_takesConflict_83 : decode cX5_takesConflict 83 = .ok (.dup, 1) := by decide +kernel
theorem dX5_takesConflict_84 : decode cX5_takesConflict 84 = .ok (.getfield 229, 3) := by decide +kernel
theorem dX5_takesConflict_87 : decode cX5_takesConflict 87 = .ok (.iconst 1, 1) := by decide +kernel
theorem dX5_takesConflict_88 : decode cX5_takesConflict 88 = .ok (.iload_n 2, 1) := by decide +kernel
theorem dX5_takesConflict_89 : decode cX5_takesConflict 89 = .ok (.ishl, 1) := by decide +kernel
theorem dX5_takesConflict_90 : decode cX5_takesConflict 90 = .ok (.ior, 1) := by decide +kernel
theorem dX5_takesConflict_91 : decode cX5_takesConflict 91 = .ok (.putfield 229, 3) := by decide +kernel
theorem dX5_takesConflict_94 : decode cX5_takesConflict 94 = .ok (.aload_n 0, 1) := by decide +kernel
theorem dX5_takesConflict_95 : decode cX5_takesConflict 95 = .ok (.getfield 21, 3) := by decide +kernel
theorem dX5_takesConflict_98 : decode cX5_takesConflict 98 = .ok (.getfield 176, 3) := by decide +kernel
theorem dX5_takesConflict_101 : decode cX5_takesConflict 101 = .ok (.iload_n 2, 1) := by decide +kernel
theorem dX5_takesConflict_102 : decode cX5_takesConflict 102 = .ok (.aaload, 1) := by decide +kernel
theorem dX5_takesConflict_103 : decode cX5_takesConflict 103 = .ok (.dup, 1) := by decide +kernel
theorem dX5_takesConflict_104 : decode cX5_takesConflict 104 = .ok (.getfield 229, 3) := by decide +kernel
theorem dX5_takesConflict_107 : decode cX5_takesConflict 107 = .ok (.iconst 1, 1) := by decide +kernel
theorem dX5_takesConflict_108 : decode cX5_takesConflict 108 = .ok (.iload_n 1, 1) := by decide +kernel
theorem dX5_takesConflict_109 : decode cX5_takesConflict 109 = .ok (.ishl, 1) := by decide +kernel
theorem dX5_takesConflict_110 : decode cX5_takesConflict 110 = .ok (.ior, 1) := by decide +kernel
theorem dX5_takesConflict_111 : decode cX5_takesConflict 111 = .ok (.putfield 229, 3) := by decide +kernel
theorem dX5_takesConflict_114 : decode cX5_takesConflict 114 = .ok (.aload_n 0, 1) := by decide +kernel
theorem dX5_takesConflict_115 : decode cX5_takesConflict 115 = .ok (.getfield 12, 3) := by decide +kernel
theorem dX5_takesConflict_118 : decode cX5_takesConflict 118 = .ok (.invokevirtual 112, 3) := by decide +kernel
theorem dX5_takesConflict_121 : decode cX5_takesConflict 121 = .ok (.iconst 1, 1) := by decide +kernel
theorem dX5_takesConflict_122 : decode cX5_takesConflict 122 = .ok (.ireturn, 1) := by decide +kernel
theorem hd_X5_takesConflict : yX5_takesConflict.cls = RX5 ∧ yX5_takesConflict.cls ≠ "java/lang/invoke/MethodHandle" ∧ yX5_takesConflict.cls ≠ "java/lang/invoke/VarHandle" ∧ (parseMethodDescriptor yX5_takesConflict.desc).map (fun d => d.parameters.length) = some 0 := by decide +kernel
theorem hs_X5_takesConflict : yX5_takesConflict.cls ≠ "java/lang/invoke/MethodHandle" ∧ yX5_takesConflict.cls ≠ "java/lang/invoke/VarHandle" ∧ (parseMethodDescriptor yX5_takesConflict.desc).map (fun d => d.parameters.length) = some 0 := by decide +kernel
set_option maxHeartbeats 4000000 in
set_option maxRecDepth 100000 in
theorem k_X5_takesConflict (l : Launch) (E : Ev) (K : Kd) (z : Nat) (o : Nat) (w : Wd) (ho : K o = some (4, 0)) {r : Bool} {w' : Wd} (hf : f_X5_takesConflict K o w = some (r, w')) : Met l yX5_takesConflict (Cond.code yX5_takesConflict cX5_takesConflict 3 (Option.some Jvm.ClassFile.FieldType.boolean) :: bt) ({ frames := 2, cells := 0, slots := 0, locals := 44 } : Room) (va_Pc [rv E (some o)] (HB E K w z)) (QI E K z w' (b2i r)) 0 0 (hA E) := by
  refine Met.ofW (cc := cX5_takesConflict) (maxL := 3) (ret := (Option.some Jvm.ClassFile.FieldType.boolean)) (by decide) rfl ?_
  intro p e s m args below meth c s₁ B hml hv
  obtain ⟨rfl, hz, hP, hKs, hT, hb0⟩ := hv
  have C : CX p l e s m _ meth c cX5_takesConflict 3 RX5 (Option.some Jvm.ClassFile.FieldType.boolean) E := ⟨B.exec, B.bytes, hml, findClass_of_methodNamed B.named, fun w h => atoms_spec (ws := Cond.code yX5_takesConflict cX5_takesConflict 3 (Option.some Jvm.ClassFile.FieldType.boolean) :: bt) B.pre w (List.mem_cons_of_mem _ h), hKs, hT, by rw [hz]; exact hb0, B.notSynchronized, B.returns⟩
  have hH : HQ E K z w s s.heap [] := ⟨hP, va_S.rf, hz⟩
  obtain ⟨hx, hb, hml, hown, hts, hKs, hT, hb0, hlocks, hret⟩ := id C
  have hl := lv_entry [rv E (some o)] (n := 3) (by simp [lg_len_nil, lg_len_i, lg_len_j, lg_len_q, lg_len_f, lg_len_d, lg_len_r])
  rw [lg_entry_eq]
  generalize (lg_sl [rv E (some o)] ++ List.replicate (3 - (lg_sl [rv E (some o)]).length) Slot.unset).toArray = ls at hl ⊢
  replace hl : lv_has ls 3 [(0, rv E (some o))] := by simpa only [lv_args, cat_q, cat_i, cat_j, reduceIte, Nat.reduceEqDiff, Nat.reduceAdd, Nat.zero_add] using hl
  generalize s.heap = H at hH ⊢
  unfold f_X5_takesConflict at hf
  refine hl_aload_n hx hb dX5_takesConflict_0 rfl (lv_at hl 0 rfl) ?_
  refine g5_0 hx hb hts hown hKs hH rfl ho m2_30 dX5_takesConflict_1 ?_
  obtain ⟨a1, ha1, hf⟩ := bnd hf
  replace ha1 := chk_some ha1
  obtain ⟨q2, hq2, hf⟩ := bnd hf
  refine hcV_v hx hb hml hown hts hKs hT hb0 hH (As := []) (rest := []) (k_X8_advance l E K H.size a1 w ha1.2 hq2) (gV m3_100 m3_57 m3_58 m1_9 m3_59) hd_X8_advance ⟨Nat.le_of_ble_eq_true rfl, Nat.le_of_ble_eq_true rfl, rfl, rfl⟩ ha1.1 ha1.2 rfl rfl rfl hl.1 rfl rc0 rfl dX5_takesConflict_4 ⟨Nat.zero_le _, Nat.zero_le _⟩ (fun H locs hH => ?_)
  refine hl_aload_n hx hb dX5_takesConflict_7 rfl (lv_at hl 0 rfl) ?_
  refine lv_iconst (v := 3) hx hb dX5_takesConflict_8 (by decide) ?_
  obtain ⟨q3, hq3, hf⟩ := bnd hf
  refine hcV_i hx hb hml hown hts hKs hT hb0 hH (As := [.int 3]) (rest := []) (k_X5_seesToldName l E K H.size o 3 q2 ho hq3) (gV m3_189 m3_191 ms_14 m1_8 m3_192) hd_X5_seesToldName ⟨Nat.le_of_ble_eq_true rfl, Nat.le_of_ble_eq_true rfl, rfl, rfl⟩ rfl ho rfl rfl rfl hl.1 rfl rc0 rfl dX5_takesConflict_9 ⟨Nat.zero_le _, Nat.zero_le _⟩ (fun H locs hH => ?_)
  refine lv_if_ne (tgt := 17) hx hb dX5_takesConflict_12 (by decide) (fun c4 => ?_) (fun c4 => ?_)
  · replace hf := (if_neg c4).symm.trans hf
    refine hl_aload_n hx hb dX5_takesConflict_17 rfl (lv_at hl 0 rfl) ?_
    refine g5_4 hx hb hts hown hKs hH rfl ho m2_36 dX5_takesConflict_18 ?_
    refine lv_istore_n (lv' := [(1, .int ((wI q3.2 504 o))), (0, rv E (some o))]) hx hb dX5_takesConflict_21 rfl hl (by decide) rfl (fun ls hl => ?_)
    refine hl_aload_n hx hb dX5_takesConflict_22 rfl (lv_at hl 1 rfl) ?_
    refine g5_0 hx hb hts hown hKs hH rfl ho m2_30 dX5_takesConflict_23 ?_
    obtain ⟨a5, ha5, hf⟩ := bnd hf
    replace ha5 := chk_some ha5
    obtain ⟨q6, hq6, hf⟩ := bnd hf
    refine hcV_v hx hb hml hown hts hKs hT hb0 hH (As := []) (rest := []) (k_X8_advance l E K H.size a5 q3.2 ha5.2 hq6) (gV m3_100 m3_57 m3_58 m1_9 m3_59) hd_X8_advance ⟨Nat.le_of_ble_eq_true rfl, Nat.le_of_ble_eq_true rfl, rfl, rfl⟩ ha5.1 ha5.2 rfl rfl rfl hl.1 rfl rc0 rfl dX5_takesConflict_26 ⟨Nat.zero_le _, Nat.zero_le _⟩ (fun H locs hH => ?_)
    refine hl_aload_n hx hb dX5_takesConflict_29 rfl (lv_at hl 1 rfl) ?_
    refine lv_iconst (v := 3) hx hb dX5_takesConflict_30 (by decide) ?_
    obtain ⟨q7, hq7, hf⟩ := bnd hf
    refine hcV_i hx hb hml hown hts hKs hT hb0 hH (As := [.int 3]) (rest := []) (k_X5_seesToldName l E K H.size o 3 q6 ho hq7) (gV m3_189 m3_191 ms_14 m1_8 m3_192) hd_X5_seesToldName ⟨Nat.le_of_ble_eq_true rfl, Nat.le_of_ble_eq_true rfl, rfl, rfl⟩ rfl ho rfl rfl rfl hl.1 rfl rc0 rfl dX5_takesConflict_31 ⟨Nat.zero_le _, Nat.zero_le _⟩ (fun H locs hH => ?_)
    refine lv_if_ne (tgt := 39) hx hb dX5_takesConflict_34 (by decide) (fun c8 => ?_) (fun c8 => ?_)
    · replace hf := (if_neg c8).symm.trans hf
      refine hl_aload_n hx hb dX5_takesConflict_39 rfl (lv_at hl 1 rfl) ?_
      refine g5_4 hx hb hts hown hKs hH rfl ho m2_36 dX5_takesConflict_40 ?_
      refine lv_istore_n (lv' := [(2, .int ((wI q7.2 504 o))), (1, .int ((wI q3.2 504 o))), (0, rv E (some o))]) hx hb dX5_takesConflict_43 rfl hl (by decide) rfl (fun ls hl => ?_)
      refine lv_iload_n hx hb dX5_takesConflict_44 rfl (lv_at hl 0 rfl) ?_
      refine lv_iload_n hx hb dX5_takesConflict_45 rfl (lv_at hl 1 rfl) ?_
      refine lv_icmp_eq (tgt := 68) hx hb dX5_takesConflict_46 (by decide) (fun c9 => ?_) (fun c9 => ?_)
      · replace hf := (if_pos c9).symm.trans hf
        refine hl_aload_n hx hb dX5_takesConflict_68 rfl (lv_at hl 2 rfl) ?_
        refine lv_iconst (v := 3) hx hb dX5_takesConflict_69 (by decide) ?_
        obtain ⟨q10, hq10, hf⟩ := bnd hf
        refine hcV_i hx hb hml hown hts hKs hT hb0 hH (As := [.int 3]) (rest := []) (k_X5_fail l E K H.size o 3 q7.2 ho hq10) (gV m3_96 m3_98 ms_3 m1_8 m3_99) hd_X5_fail ⟨Nat.le_of_ble_eq_true rfl, Nat.le_of_ble_eq_true rfl, rfl, rfl⟩ rfl ho rfl rfl rfl hl.1 rfl rc0 rfl dX5_takesConflict_70 ⟨Nat.zero_le _, Nat.zero_le _⟩ (fun H locs hH => ?_)
        exact hw_zret hx hb hret rfl hf hH hlocks dX5_takesConflict_73
      · replace hf := (if_neg c9).symm.trans hf
        refine hl_aload_n hx hb dX5_takesConflict_49 rfl (lv_at hl 2 rfl) ?_
        refine g5_1 hx hb hts hown hKs hH rfl ho m2_31 dX5_takesConflict_50 ?_
        obtain ⟨a11, ha11, hf⟩ := bnd hf
        replace ha11 := chk_some ha11
        refine gn9_9 hx hb hts hown hKs hH ha11.1 ha11.2 m1_179 dX5_takesConflict_53 ?_
        refine lv_iload_n hx hb dX5_takesConflict_56 rfl (lv_at hl 1 rfl) ?_
        obtain ⟨a12, ha12, hf⟩ := bnd hf
        replace ha12 := cha_some ha12
        obtain ⟨j13, hj13, hf⟩ := bnd hf
        refine hw_aald25 hx hb hKs hH ha12.1 ha12.2 hj13 dX5_takesConflict_57 ?_
        obtain ⟨a14, ha14, hf⟩ := bnd hf
        replace ha14 := chk_some ha14
        refine gn3_5 hx hb hts hown hKs hH ha14.1 ha14.2 m1_113 dX5_takesConflict_58 ?_
        refine lv_iload_n hx hb dX5_takesConflict_61 rfl (lv_at hl 0 rfl) ?_
        obtain ⟨q15, hq15, hf⟩ := bnd hf
        refine hcM_i hx hb hml hown hts hKs hT hb0 hH (As := [.int ((wI q7.2 305 a14)), .int ((wI q7.2 504 o))]) (rest := []) (k_X12_has l E K H.size (wI q7.2 305 a14) (wI q7.2 504 o) q7.2 hq15) m3_193 m3_194 m1_1 m3_195 hs_X12_has ⟨Nat.le_of_ble_eq_true rfl, Nat.le_of_ble_eq_true rfl, rfl, rfl⟩ hl.1 rfl rc0 rfl dX5_takesConflict_62 ⟨Nat.zero_le _, Nat.zero_le _⟩ (fun H locs hH => ?_)
        refine lv_if_eq (tgt := 74) hx hb dX5_takesConflict_65 (by decide) (fun c16 => ?_) (fun c16 => ?_)
        · replace hf := (if_pos c16).symm.trans hf
          refine hl_aload_n hx hb dX5_takesConflict_74 rfl (lv_at hl 2 rfl) ?_
          refine g5_1 hx hb hts hown hKs hH rfl ho m2_31 dX5_takesConflict_75 ?_
          obtain ⟨a17, ha17, hf⟩ := bnd hf
          replace ha17 := chk_some ha17
          refine gn9_9 hx hb hts hown hKs hH ha17.1 ha17.2 m1_179 dX5_takesConflict_78 ?_
          refine lv_iload_n hx hb dX5_takesConflict_81 rfl (lv_at hl 1 rfl) ?_
          obtain ⟨a18, ha18, hf⟩ := bnd hf
          replace ha18 := cha_some ha18
          obtain ⟨j19, hj19, hf⟩ := bnd hf
          refine hw_aald25 hx hb hKs hH ha18.1 ha18.2 hj19 dX5_takesConflict_82 ?_
          refine lv_dup hx hb dX5_takesConflict_83 rv_cat ?_
          obtain ⟨a20, ha20, hf⟩ := bnd hf
          replace ha20 := chk_some ha20
          refine gn3_5 hx hb hts hown hKs hH ha20.1 ha20.2 m1_113 dX5_takesConflict_84 ?_
          refine lv_iconst (v := 1) hx hb dX5_takesConflict_87 (by decide) ?_
          refine lv_iload_n hx hb dX5_takesConflict_88 rfl (lv_at hl 0 rfl) ?_
          refine lv_ishl hx hb dX5_takesConflict_89 ?_
          refine lv_ior hx hb dX5_takesConflict_90 ?_
          obtain ⟨w21, hw21, hf⟩ := bnd hf
          replace hw21 := Option.some.inj hw21
          refine pn3_5 (v := ((wI q15.2 305 a20) ||| (1 <<< ((wI q7.2 504 o) &&& 31)))) hx hb hts hown hKs hH ha20.1 ha20.2 m1_113 dX5_takesConflict_91 (fun H locs hH => ?_)
          rw [hw21] at hH
          refine hl_aload_n hx hb dX5_takesConflict_94 rfl (lv_at hl 2 rfl) ?_
          refine g5_1 hx hb hts hown hKs hH rfl ho m2_31 dX5_takesConflict_95 ?_
          obtain ⟨a22, ha22, hf⟩ := bnd hf
          replace ha22 := chk_some ha22
          refine gn9_9 hx hb hts hown hKs hH ha22.1 ha22.2 m1_179 dX5_takesConflict_98 ?_
          refine lv_iload_n hx hb dX5_takesConflict_101 rfl (lv_at hl 0 rfl) ?_
          obtain ⟨a23, ha23, hf⟩ := bnd hf
          replace ha23 := cha_some ha23
          obtain ⟨j24, hj24, hf⟩ := bnd hf
          refine hw_aald25 hx hb hKs hH ha23.1 ha23.2 hj24 dX5_takesConflict_102 ?_
          refine lv_dup hx hb dX5_takesConflict_103 rv_cat ?_
          obtain ⟨a25, ha25, hf⟩ := bnd hf
          replace ha25 := chk_some ha25
          refine gn3_5 hx hb hts hown hKs hH ha25.1 ha25.2 m1_113 dX5_takesConflict_104 ?_
          refine lv_iconst (v := 1) hx hb dX5_takesConflict_107 (by decide) ?_
          refine lv_iload_n hx hb dX5_takesConflict_108 rfl (lv_at hl 1 rfl) ?_
          refine lv_ishl hx hb dX5_takesConflict_109 ?_
          refine lv_ior hx hb dX5_takesConflict_110 ?_
          obtain ⟨w26, hw26, hf⟩ := bnd hf
          replace hw26 := Option.some.inj hw26
          refine pn3_5 (v := ((wI w21 305 a25) ||| (1 <<< ((wI q3.2 504 o) &&& 31)))) hx hb hts hown hKs hH ha25.1 ha25.2 m1_113 dX5_takesConflict_111 (fun H locs hH => ?_)
          rw [hw26] at hH
          refine hl_aload_n hx hb dX5_takesConflict_114 rfl (lv_at hl 2 rfl) ?_
          refine g5_0 hx hb hts hown hKs hH rfl ho m2_30 dX5_takesConflict_115 ?_
          obtain ⟨a27, ha27, hf⟩ := bnd hf
          replace ha27 := chk_some ha27
          obtain ⟨q28, hq28, hf⟩ := bnd hf
          refine hcV_v hx hb hml hown hts hKs hT hb0 hH (As := []) (rest := []) (k_X8_advance l E K H.size a27 w26 ha27.2 hq28) (gV m3_100 m3_57 m3_58 m1_9 m3_59) hd_X8_advance ⟨Nat.le_of_ble_eq_true rfl, Nat.le_of_ble_eq_true rfl, rfl, rfl⟩ ha27.1 ha27.2 rfl rfl rfl hl.1 rfl rc0 rfl dX5_takesConflict_118 ⟨Nat.zero_le _, Nat.zero_le _⟩ (fun H locs hH => ?_)
          refine lv_iconst (v := 1) hx hb dX5_takesConflict_121 (by decide) ?_
          exact hw_zret hx hb hret rfl hf hH hlocks dX5_takesConflict_122
        · replace hf := (if_neg c16).symm.trans hf
          refine hl_aload_n hx hb dX5_takesConflict_68 rfl (lv_at hl 2 rfl) ?_
          refine lv_iconst (v := 3) hx hb dX5_takesConflict_69 (by decide) ?_
          obtain ⟨q29, hq29, hf⟩ := bnd hf
          refine hcV_i hx hb hml hown hts hKs hT hb0 hH (As := [.int 3]) (rest := []) (k_X5_fail l E K H.size o 3 q15.2 ho hq29) (gV m3_96 m3_98 ms_3 m1_8 m3_99) hd_X5_fail ⟨Nat.le_of_ble_eq_true rfl, Nat.le_of_ble_eq_true rfl, rfl, rfl⟩ rfl ho rfl rfl rfl hl.1 rfl rc0 rfl dX5_takesConflict_70 ⟨Nat.zero_le _, Nat.zero_le _⟩ (fun H locs hH => ?_)
          exact hw_zret hx hb hret rfl hf hH hlocks dX5_takesConflict_73
    · replace hf := (if_pos c8).symm.trans hf
      refine lv_iconst (v := 0) hx hb dX5_takesConflict_37 (by decide) ?_
      exact hw_zret hx hb hret rfl hf hH hlocks dX5_takesConflict_38
  · replace hf := (if_pos c4).symm.trans hf
    refine lv_iconst (v := 0) hx hb dX5_takesConflict_15 (by decide) ?_
    exact hw_zret hx hb hret rfl hf hH hlocks dX5_takesConflict_16

theorem dX5_takes_0 : decode cX5_takes 0 = .ok (.aload_n 0, 1) := by decide +kernel
theorem dX5_takes_1 : decode cX5_takes 1 = .ok (.getfield 12, 3) := by decide +kernel
theorem dX5_takes_4 : decode cX5_takes 4 = .ok (.getfield 39, 3) := by decide +kernel
theorem dX5_takes_7 : decode cX5_takes 7 = .ok (.aload_n 1, 1) := by decide +kernel
theorem dX5_takes_8 : decode cX5_takes 8 = .ok (.if_acmp .eq 9, 3) := by decide +kernel
theorem dX5_takes_11 : decode cX5_takes 11 = .ok (.aload_n 0, 1) := by decide +kernel
theorem dX5_takes_12 : decode cX5_takes 12 = .ok (.iconst 1, 1) := by decide +kernel
theorem dX5_takes_13 : decode cX5_takes 13 = .ok (.invokevirtual 99, 3) := by decide +kernel
theorem dX5_takes_16 : decode cX5_takes 16 = .ok (.ireturn, 1) := by decide +kernel
theorem dX5_takes_17 : decode cX5_takes 17 = .ok (.aload_n 0, 1) := by decide +kernel
theorem dX5_takes_18 : decode cX5_takes 18 = .ok (.getfield 12, 3) := by decide +kernel
theorem dX5_takes_21 : decode cX5_takes 21 = .ok (.invokevirtual 112, 3) := by decide +kernel
theorem dX5_takes_24 : decode cX5_takes 24 = .ok (.iconst 1, 1) := by decide +kernel
theorem dX5_takes_25 : decode cX5_takes 25 = .ok (.ireturn, 1) := by decide +kernel
theorem hd_X5_takes : yX5_takes.cls = RX5 ∧ yX5_takes.cls ≠ "java/lang/invoke/MethodHandle" ∧ yX5_takes.cls ≠ "java/lang/invoke/VarHandle" ∧ (parseMethodDescriptor yX5_takes.desc).map (fun d => d.parameters.length) = some 1 := by decide +kernel
theorem hs_X5_takes : yX5_takes.cls ≠ "java/lang/invoke/MethodHandle" ∧ yX5_takes.cls ≠ "java/lang/invoke/VarHandle" ∧ (parseMethodDescriptor yX5_takes.desc).map (fun d => d.parameters.length) = some 1 := by decide +kernel
set_option maxHeartbeats 4000000 in
set_option maxRecDepth 100000 in
theorem k_X5_takes (l : Launch) (E : Ev) (K : Kd) (z : Nat) (o : Nat) (a_1 : Option Nat) (w : Wd) (ho : K o = some (4, 0)) {r : Bool} {w' : Wd} (hf : f_X5_takes K o a_1 w = some (r, w')) : Met l yX5_takes (Cond.code yX5_takes cX5_takes 2 (Option.some Jvm.ClassFile.FieldType.boolean) :: bt) ({ frames := 2, cells := 0, slots := 0, locals := 42 } : Room) (va_Pc [rv E (some o), re E a_1] (HB E K w z)) (QI E K z w' (b2i r)) 0 0 (hA E) := by
  refine Met.ofW (cc := cX5_takes) (maxL := 2) (ret := (Option.some Jvm.ClassFile.FieldType.boolean)) (by decide) rfl ?_
  intro p e s m args below meth c s₁ B hml hv
  obtain ⟨rfl, hz, hP, hKs, hT, hb0⟩ := hv
  have C : CX p l e s m _ meth c cX5_takes 2 RX5 (Option.some Jvm.ClassFile.FieldType.boolean) E := ⟨B.exec, B.bytes, hml, findClass_of_methodNamed B.named, fun w h => atoms_spec (ws := Cond.code yX5_takes cX5_takes 2 (Option.some Jvm.ClassFile.FieldType.boolean) :: bt) B.pre w (List.mem_cons_of_mem _ h), hKs, hT, by rw [hz]; exact hb0, B.notSynchronized, B.returns⟩
  have hH : HQ E K z w s s.heap [] := ⟨hP, va_S.rf, hz⟩
  obtain ⟨hx, hb, hml, hown, hts, hKs, hT, hb0, hlocks, hret⟩ := id C
  have hl := lv_entry [rv E (some o), re E a_1] (n := 2) (by simp [lg_len_nil, lg_len_i, lg_len_j, lg_len_q, lg_len_f, lg_len_d, lg_len_r])
  rw [lg_entry_eq]
  generalize (lg_sl [rv E (some o), re E a_1] ++ List.replicate (2 - (lg_sl [rv E (some o), re E a_1]).length) Slot.unset).toArray = ls at hl ⊢
  replace hl : lv_has ls 2 [(0, rv E (some o)), (1, re E a_1)] := by simpa only [lv_args, cat_q, cat_i, cat_j, reduceIte, Nat.reduceEqDiff, Nat.reduceAdd, Nat.zero_add] using hl
  generalize s.heap = H at hH ⊢
  unfold f_X5_takes at hf
  refine hl_aload_n hx hb dX5_takes_0 rfl (lv_at hl 0 rfl) ?_
  refine g5_0 hx hb hts hown hKs hH rfl ho m2_30 dX5_takes_1 ?_
  obtain ⟨a1, ha1, hf⟩ := bnd hf
  replace ha1 := chk_some ha1
  refine gn8_4 hx hb hts hown hKs hH ha1.1 ha1.2 m2_7 dX5_takes_4 ?_
  refine hl_aload_n hx hb dX5_takes_7 rfl (lv_at hl 1 rfl) ?_
  obtain ⟨_, hg2, hf⟩ := bnd hf
  obtain ⟨_, hg3, hf⟩ := bnd hf
  refine hw_acmp_eq (tgt := 17) hx hb hT (grd_some hg2) (grd_some hg3) dX5_takes_8 (by decide) (fun c4 => ?_) (fun c4 => ?_)
  · replace hf := (if_pos c4).symm.trans hf
    refine hl_aload_n hx hb dX5_takes_17 rfl (lv_at hl 0 rfl) ?_
    refine g5_0 hx hb hts hown hKs hH rfl ho m2_30 dX5_takes_18 ?_
    obtain ⟨q5, hq5, hf⟩ := bnd hf
    refine hcV_v hx hb hml hown hts hKs hT hb0 hH (As := []) (rest := []) (k_X8_advance l E K H.size a1 w ha1.2 hq5) (gV m3_100 m3_57 m3_58 m1_9 m3_59) hd_X8_advance ⟨Nat.le_of_ble_eq_true rfl, Nat.le_of_ble_eq_true rfl, rfl, rfl⟩ ha1.1 ha1.2 rfl rfl rfl hl.1 rfl rc0 rfl dX5_takes_21 ⟨Nat.zero_le _, Nat.zero_le _⟩ (fun H locs hH => ?_)
    refine lv_iconst (v := 1) hx hb dX5_takes_24 (by decide) ?_
    exact hw_zret hx hb hret rfl hf hH hlocks dX5_takes_25
  · replace hf := (if_neg c4).symm.trans hf
    refine hl_aload_n hx hb dX5_takes_11 rfl (lv_at hl 0 rfl) ?_
    refine lv_iconst (v := 1) hx hb dX5_takes_12 (by decide) ?_
    obtain ⟨q6, hq6, hf⟩ := bnd hf
    refine hcV_i hx hb hml hown hts hKs hT hb0 hH (As := [.int 1]) (rest := []) (k_X5_fail l E K H.size o 1 w ho hq6) (gV m3_96 m3_98 ms_3 m1_8 m3_99) hd_X5_fail ⟨Nat.le_of_ble_eq_true rfl, Nat.le_of_ble_eq_true rfl, rfl, rfl⟩ rfl ho rfl rfl rfl hl.1 rfl rc0 rfl dX5_takes_13 ⟨Nat.zero_le _, Nat.zero_le _⟩ (fun H locs hH => ?_)
    exact hw_zret hx hb hret rfl hf hH hlocks dX5_takes_16

theorem dX5_takesNewName_0 : decode cX5_takesNewName 0 = .ok (.aload_n 0, 1) := by decide +kernel
theorem dX5_takesNewName_1 : decode cX5_takesNewName 1 = .ok (.getfield 21, 3) := by decide +kernel
theorem dX5_takesNewName_4 : decode cX5_takesNewName 4 = .ok (.getfield 244, 3) := by decide +kernel
theorem dX5_takesNewName_7 : decode cX5_takesNewName 7 = .ok (.iload_n 1, 1) := by decide +kernel
theorem dX5_takesNewName_8 : decode cX5_takesNewName 8 = .ok (.aaload, 1) := by decide +kernel
theorem dX5_takesNewName_9 : decode cX5_takesNewName 9 = .ok (.astore_n 2, 1) := by decide +kernel
theorem dX5_takesNewName_10 : decode cX5_takesNewName 10 = .ok (.aload_n 2, 1) := by decide +kernel
theorem dX5_takesNewName_11 : decode cX5_takesNewName 11 = .ok (.invokevirtual 248, 3) := by decide +kernel
theorem dX5_takesNewName_14 : decode cX5_takesNewName 14 = .ok (.ifCond .eq 9, 3) := by decide +kernel
theorem dX5_takesNewName_17 : decode cX5_takesNewName 17 = .ok (.aload_n 0, 1) := by decide +kernel
theorem dX5_takesNewName_18 : decode cX5_takesNewName 18 = .ok (.iconst 4, 1) := by decide +kernel
theorem dX5_takesNewName_19 : decode cX5_takesNewName 19 = .ok (.invokevirtual 99, 3) := by decide +kernel
theorem dX5_takesNewName_22 : decode cX5_takesNewName 22 = .ok (.ireturn, 1) := by decide +kernel
theorem dX5_takesNewName_23 : decode cX5_takesNewName 23 = .ok (.aload_n 0, 1) := by decide +kernel
theorem dX5_takesNewName_24 : decode cX5_takesNewName 24 = .ok (.getfield 12, 3) := by decide +kernel
theorem dX5_takesNewName_27 : decode cX5_takesNewName 27 = .ok (.invokevirtual 112, 3) := by decide +kernel
theorem dX5_takesNewName_30 : decode cX5_takesNewName 30 = .ok (.aload_n 0, 1) := by decide +kernel
theorem dX5_takesNewName_31 : decode cX5_takesNewName 31 = .ok (.getfield 12, 3) := by decide +kernel
theorem dX5_takesNewName_34 : decode cX5_takesNewName 34 = .ok (.getfield 39, 3) := by decide +kernel
theorem dX5_takesNewName_37 : decode cX5_takesNewName 37 = .ok (.getstatic 253, 3) := by decide +kernel
theorem dX5_takesNewName_40 : decode cX5_takesNewName 40 = .ok (.if_acmp .eq 9, 3) := by decide +kernel
theorem dX5_takesNewName_43 : decode cX5_takesNewName 43 = .ok (.aload_n 0, 1) := by decide +kernel
theorem dX5_takesNewName_44 : decode cX5_takesNewName 44 = .ok (.iconst 1, 1) := by decide +kernel
theorem dX5_takesNewName_45 : decode cX5_takesNewName 45 = .ok (.invokevirtual 99, 3) := by decide +kernel
theorem dX5_takesNewName_48 : decode cX5_takesNewName 48 = .ok (.ireturn, 1) := by decide +kernel
theorem dX5_takesNewName_49 : decode cX5_takesNewName 49 = .ok (.aload_n 2, 1) := by decide +kernel
theorem dX5_takesNewName_50 : decode cX5_takesNewName 50 = .ok (.aload_n 0, 1) := by decide +kernel
theorem dX5_takesNewName_51 : decode cX5_takesNewName 51 = .ok (.getfield 12, 3) := by decide +kernel
theorem dX5_takesNewName_54 : decode cX5_takesNewName 54 = .ok (.getfield 256, 3) := by decide +kernel
theorem dX5_takesNewName_57 : decode cX5_takesNewName 57 = .ok (.invokevirtual 260, 3) := by decide +kernel
theorem dX5_takesNewName_60 : decode cX5_takesNewName 60 = .ok (.iconst (-1), 1) := by decide +kernel
theorem dX5_takesNewName_61 : decode cX5_takesNewName 61 = .ok (.if_icmp .eq 9, 3) := by decide +kernel
theorem dX5_takesNewName_64 : decode cX5_takesNewName 64 = .ok (.aload_n 0, 1) := by decide +kernel
theorem dX5_takesNewName_65 : decode cX5_takesNewName 65 = .ok (.iconst 3, 1) := by decide +kernel
theorem dX5_takesNewName_66 : decode cX5_takesNewName 66 = .ok (.invokevirtual 99, 3) := by decide +kernel
theorem dX5_takesNewName_69 : decode cX5_takesNewName 69 = .ok (.ireturn, 1) := by decide +kernel
theorem dX5_takesNewName_70 : decode cX5_takesNewName 70 = .ok (.aload_n 2, 1) := by decide +kernel
theorem dX5_takesNewName_71 : decode cX5_takesNewName 71 = .ok (.aload_n 0, 1) := by decide +kernel
theorem dX5_takesNewName_72 : decode cX5_takesNewName 72 = .ok (.getfield 12, 3) := by decide +kernel
theorem dX5_takesNewName_75 : decode cX5_takesNewName 75 = .ok (.getfield 256, 3) := by decide +kernel
theorem dX5_takesNewName_78 : decode cX5_takesNewName 78 = .ok (.invokevirtual 264, 3) := by decide +kernel
theorem dX5_takesNewName_81 : decode cX5_takesNewName 81 = .ok (.aload_n 0, 1) := by decide +kernel
theorem dX5_takesNewName_82 : decode cX5_takesNewName 82 = .ok (.getfield 12, 3) := by decide +kernel
theorem dX5_takesNewName_85 : decode cX5_takesNewName 85 = .ok (.invokevirtual 112, 3) := by decide +kernel
theorem dX5_takesNewName_88 : decode cX5_takesNewName 88 = .ok (.iconst 1, 1) := by decide +kernel
theorem dX5_takesNewName_89 : decode cX5_takesNewName 89 = .ok (.ireturn, 1) := by decide +kernel
theorem hd_X5_takesNewName : yX5_takesNewName.cls = RX5 ∧ yX5_takesNewName.cls ≠ "java/lang/invoke/MethodHandle" ∧ yX5_takesNewName.cls ≠ "java/lang/invoke/VarHandle" ∧ (parseMethodDescriptor yX5_takesNewName.desc).map (fun d => d.parameters.length) = some 1 := by decide +kernel
theorem hs_X5_takesNewName : yX5_takesNewName.cls ≠ "java/lang/invoke/MethodHandle" ∧ yX5_takesNewName.cls ≠ "java/lang/invoke/VarHandle" ∧ (parseMethodDescriptor yX5_takesNewName.desc).map (fun d => d.parameters.length) = some 1 := by decide +kernel
set_option maxHeartbeats 4000000 in
set_option maxRecDepth 100000 in
theorem k_X5_takesNewName (l : Launch) (E : Ev) (K : Kd) (z : Nat) (o : Nat) (a_1 : Int32) (w : Wd) (ho : K o = some (4, 0)) {r : Bool} {w' : Wd} (hf : f_X5_takesNewName K o a_1 w = some (r, w')) : Met l yX5_takesNewName (Cond.code yX5_takesNewName cX5_takesNewName 3 (Option.some Jvm.ClassFile.FieldType.boolean) :: bt) ({ frames := 2, cells := 0, slots := 0, locals := 42 } : Room) (va_Pc [rv E (some o), .int a_1] (HB E K w z)) (QI E K z w' (b2i r)) 0 0 (hA E) := by
  refine Met.ofW (cc := cX5_takesNewName) (maxL := 3) (ret := (Option.some Jvm.ClassFile.FieldType.boolean)) (by decide) rfl ?_
  intro p e s m args below meth c s₁ B hml hv
  obtain ⟨rfl, hz, hP, hKs, hT, hb0⟩ := hv
  have C : CX p l e s m _ meth c cX5_takesNewName 3 RX5 (Option.some Jvm.ClassFile.FieldType.boolean) E := ⟨B.exec, B.bytes, hml, findClass_of_methodNamed B.named, fun w h => atoms_spec (ws := Cond.code yX5_takesNewName cX5_takesNewName 3 (Option.some Jvm.ClassFile.FieldType.boolean) :: bt) B.pre w (List.mem_cons_of_mem _ h), hKs, hT, by rw [hz]; exact hb0, B.notSynchronized, B.returns⟩
  have hH : HQ E K z w s s.heap [] := ⟨hP, va_S.rf, hz⟩
  obtain ⟨hx, hb, hml, hown, hts, hKs, hT, hb0, hlocks, hret⟩ := id C
  have hl := lv_entry [rv E (some o), .int a_1] (n := 3) (by simp [lg_len_nil, lg_len_i, lg_len_j, lg_len_q, lg_len_f, lg_len_d, lg_len_r])
  rw [lg_entry_eq]
  generalize (lg_sl [rv E (some o), .int a_1] ++ List.replicate (3 - (lg_sl [rv E (some o), .int a_1]).length) Slot.unset).toArray = ls at hl ⊢
  replace hl : lv_has ls 3 [(0, rv E (some o)), (1, .int a_1)] := by simpa only [lv_args, cat_q, cat_i, cat_j, reduceIte, Nat.reduceEqDiff, Nat.reduceAdd, Nat.zero_add] using hl
  generalize s.heap = H at hH ⊢
  unfold f_X5_takesNewName at hf
  refine hl_aload_n hx hb dX5_takesNewName_0 rfl (lv_at hl 0 rfl) ?_
  refine g5_1 hx hb hts hown hKs hH rfl ho m2_31 dX5_takesNewName_1 ?_
  obtain ⟨a1, ha1, hf⟩ := bnd hf
  replace ha1 := chk_some ha1
  refine gn9_0 hx hb hts hown hKs hH ha1.1 ha1.2 m1_152 dX5_takesNewName_4 ?_
  refine lv_iload_n hx hb dX5_takesNewName_7 rfl (lv_at hl 1 rfl) ?_
  obtain ⟨a2, ha2, hf⟩ := bnd hf
  replace ha2 := cha_some ha2
  obtain ⟨j3, hj3, hf⟩ := bnd hf
  refine hw_aald26 hx hb hKs hH ha2.1 ha2.2 hj3 dX5_takesNewName_8 ?_
  refine hl_astore_n (lv' := [(2, rv E (aR w a2.1 j3)), (0, rv E (some o)), (1, .int a_1)]) hx hb dX5_takesNewName_9 rfl hl (by decide) rfl (fun ls hl => ?_)
  refine hl_aload_n hx hb dX5_takesNewName_10 rfl (lv_at hl 0 rfl) ?_
  obtain ⟨a4, ha4, hf⟩ := bnd hf
  replace ha4 := chk_some ha4
  obtain ⟨q5, hq5, hf⟩ := bnd hf
  refine hcV_i hx hb hml hown hts hKs hT hb0 hH (As := []) (rest := []) (k_X4_isFull l E K H.size a4 w ha4.2 hq5) (gV m3_123 m3_124 m3_125 m1_4 m3_126) hd_X4_isFull ⟨Nat.le_of_ble_eq_true rfl, Nat.le_of_ble_eq_true rfl, rfl, rfl⟩ ha4.1 ha4.2 rfl rfl rfl hl.1 rfl rc0 rfl dX5_takesNewName_11 ⟨Nat.zero_le _, Nat.zero_le _⟩ (fun H locs hH => ?_)
  refine lv_if_eq (tgt := 23) hx hb dX5_takesNewName_14 (by decide) (fun c6 => ?_) (fun c6 => ?_)
  · replace hf := (if_pos c6).symm.trans hf
    refine hl_aload_n hx hb dX5_takesNewName_23 rfl (lv_at hl 1 rfl) ?_
    refine g5_0 hx hb hts hown hKs hH rfl ho m2_30 dX5_takesNewName_24 ?_
    obtain ⟨a7, ha7, hf⟩ := bnd hf
    replace ha7 := chk_some ha7
    obtain ⟨q8, hq8, hf⟩ := bnd hf
    refine hcV_v hx hb hml hown hts hKs hT hb0 hH (As := []) (rest := []) (k_X8_advance l E K H.size a7 q5.2 ha7.2 hq8) (gV m3_100 m3_57 m3_58 m1_9 m3_59) hd_X8_advance ⟨Nat.le_of_ble_eq_true rfl, Nat.le_of_ble_eq_true rfl, rfl, rfl⟩ ha7.1 ha7.2 rfl rfl rfl hl.1 rfl rc0 rfl dX5_takesNewName_27 ⟨Nat.zero_le _, Nat.zero_le _⟩ (fun H locs hH => ?_)
    refine hl_aload_n hx hb dX5_takesNewName_30 rfl (lv_at hl 1 rfl) ?_
    refine g5_0 hx hb hts hown hKs hH rfl ho m2_30 dX5_takesNewName_31 ?_
    obtain ⟨a9, ha9, hf⟩ := bnd hf
    replace ha9 := chk_some ha9
    refine gn8_4 hx hb hts hown hKs hH ha9.1 ha9.2 m2_7 dX5_takesNewName_34 ?_
    refine hw_tok hx hb 16 (by decide) hts hown hT hH m3_127 dX5_takesNewName_37 ?_
    obtain ⟨_, hg10, hf⟩ := bnd hf
    refine hw_acmp_eq (tgt := 49) hx hb hT (grd_some hg10) rfl dX5_takesNewName_40 (by decide) (fun c11 => ?_) (fun c11 => ?_)
    · replace hf := (if_pos c11).symm.trans hf
      refine hl_aload_n hx hb dX5_takesNewName_49 rfl (lv_at hl 0 rfl) ?_
      refine hl_aload_n hx hb dX5_takesNewName_50 rfl (lv_at hl 1 rfl) ?_
      refine g5_0 hx hb hts hown hKs hH rfl ho m2_30 dX5_takesNewName_51 ?_
      refine gn8_5 hx hb hts hown hKs hH ha9.1 ha9.2 m2_9 dX5_takesNewName_54 ?_
      obtain ⟨q12, hq12, hf⟩ := bnd hf
      refine hcV_i hx hb hml hown hts hKs hT hb0 hH (As := [.long (wJ q8 805 a9)]) (rest := []) (k_X4_indexOf l E K H.size a4 (wJ q8 805 a9) q8 ha4.2 hq12) (gV m3_128 m3_129 m3_130 m1_4 m3_131) hd_X4_indexOf ⟨Nat.le_of_ble_eq_true rfl, Nat.le_of_ble_eq_true rfl, rfl, rfl⟩ ha4.1 ha4.2 rfl rfl rfl hl.1 rfl rc0 rfl dX5_takesNewName_57 ⟨Nat.zero_le _, Nat.zero_le _⟩ (fun H locs hH => ?_)
      refine lv_iconst (v := (-1)) hx hb dX5_takesNewName_60 (by decide) ?_
      refine lv_icmp_eq (tgt := 70) hx hb dX5_takesNewName_61 (by decide) (fun c13 => ?_) (fun c13 => ?_)
      · replace hf := (if_pos c13).symm.trans hf
        refine hl_aload_n hx hb dX5_takesNewName_70 rfl (lv_at hl 0 rfl) ?_
        refine hl_aload_n hx hb dX5_takesNewName_71 rfl (lv_at hl 1 rfl) ?_
        refine g5_0 hx hb hts hown hKs hH rfl ho m2_30 dX5_takesNewName_72 ?_
        obtain ⟨a14, ha14, hf⟩ := bnd hf
        replace ha14 := chk_some ha14
        refine gn8_5 hx hb hts hown hKs hH ha14.1 ha14.2 m2_9 dX5_takesNewName_75 ?_
        obtain ⟨q15, hq15, hf⟩ := bnd hf
        refine hcV_v hx hb hml hown hts hKs hT hb0 hH (As := [.long (wJ q12.2 805 a14)]) (rest := []) (k_X4_add l E K H.size a4 (wJ q12.2 805 a14) q12.2 ha4.2 hq15) (gV m3_132 m3_133 m3_134 m1_4 m3_135) hd_X4_add ⟨Nat.le_of_ble_eq_true rfl, Nat.le_of_ble_eq_true rfl, rfl, rfl⟩ ha4.1 ha4.2 rfl rfl rfl hl.1 rfl rc0 rfl dX5_takesNewName_78 ⟨Nat.zero_le _, Nat.zero_le _⟩ (fun H locs hH => ?_)
        refine hl_aload_n hx hb dX5_takesNewName_81 rfl (lv_at hl 1 rfl) ?_
        refine g5_0 hx hb hts hown hKs hH rfl ho m2_30 dX5_takesNewName_82 ?_
        obtain ⟨a16, ha16, hf⟩ := bnd hf
        replace ha16 := chk_some ha16
        obtain ⟨q17, hq17, hf⟩ := bnd hf
        refine hcV_v hx hb hml hown hts hKs hT hb0 hH (As := []) (rest := []) (k_X8_advance l E K H.size a16 q15 ha16.2 hq17) (gV m3_100 m3_57 m3_58 m1_9 m3_59) hd_X8_advance ⟨Nat.le_of_ble_eq_true rfl, Nat.le_of_ble_eq_true rfl, rfl, rfl⟩ ha16.1 ha16.2 rfl rfl rfl hl.1 rfl rc0 rfl dX5_takesNewName_85 ⟨Nat.zero_le _, Nat.zero_le _⟩ (fun H locs hH => ?_)
        refine lv_iconst (v := 1) hx hb dX5_takesNewName_88 (by decide) ?_
        exact hw_zret hx hb hret rfl hf hH hlocks dX5_takesNewName_89
      · replace hf := (if_neg c13).symm.trans hf
        refine hl_aload_n hx hb dX5_takesNewName_64 rfl (lv_at hl 1 rfl) ?_
        refine lv_iconst (v := 3) hx hb dX5_takesNewName_65 (by decide) ?_
        obtain ⟨q18, hq18, hf⟩ := bnd hf
        refine hcV_i hx hb hml hown hts hKs hT hb0 hH (As := [.int 3]) (rest := []) (k_X5_fail l E K H.size o 3 q12.2 ho hq18) (gV m3_96 m3_98 ms_3 m1_8 m3_99) hd_X5_fail ⟨Nat.le_of_ble_eq_true rfl, Nat.le_of_ble_eq_true rfl, rfl, rfl⟩ rfl ho rfl rfl rfl hl.1 rfl rc0 rfl dX5_takesNewName_66 ⟨Nat.zero_le _, Nat.zero_le _⟩ (fun H locs hH => ?_)
        exact hw_zret hx hb hret rfl hf hH hlocks dX5_takesNewName_69
    · replace hf := (if_neg c11).symm.trans hf
      refine hl_aload_n hx hb dX5_takesNewName_43 rfl (lv_at hl 1 rfl) ?_
      refine lv_iconst (v := 1) hx hb dX5_takesNewName_44 (by decide) ?_
      obtain ⟨q19, hq19, hf⟩ := bnd hf
      refine hcV_i hx hb hml hown hts hKs hT hb0 hH (As := [.int 1]) (rest := []) (k_X5_fail l E K H.size o 1 q8 ho hq19) (gV m3_96 m3_98 ms_3 m1_8 m3_99) hd_X5_fail ⟨Nat.le_of_ble_eq_true rfl, Nat.le_of_ble_eq_true rfl, rfl, rfl⟩ rfl ho rfl rfl rfl hl.1 rfl rc0 rfl dX5_takesNewName_45 ⟨Nat.zero_le _, Nat.zero_le _⟩ (fun H locs hH => ?_)
      exact hw_zret hx hb hret rfl hf hH hlocks dX5_takesNewName_48
  · replace hf := (if_neg c6).symm.trans hf
    refine hl_aload_n hx hb dX5_takesNewName_17 rfl (lv_at hl 1 rfl) ?_
    refine lv_iconst (v := 4) hx hb dX5_takesNewName_18 (by decide) ?_
    obtain ⟨q20, hq20, hf⟩ := bnd hf
    refine hcV_i hx hb hml hown hts hKs hT hb0 hH (As := [.int 4]) (rest := []) (k_X5_fail l E K H.size o 4 q5.2 ho hq20) (gV m3_96 m3_98 ms_3 m1_8 m3_99) hd_X5_fail ⟨Nat.le_of_ble_eq_true rfl, Nat.le_of_ble_eq_true rfl, rfl, rfl⟩ rfl ho rfl rfl rfl hl.1 rfl rc0 rfl dX5_takesNewName_19 ⟨Nat.zero_le _, Nat.zero_le _⟩ (fun H locs hH => ?_)
    exact hw_zret hx hb hret rfl hf hH hlocks dX5_takesNewName_22

theorem dX5_takesNumber_0 : decode cX5_takesNumber 0 = .ok (.aload_n 0, 1) := by decide +kernel
theorem dX5_takesNumber_1 : decode cX5_takesNumber 1 = .ok (.iload_n 1, 1) := by decide +kernel
theorem dX5_takesNumber_2 : decode cX5_takesNumber 2 = .ok (.iload_n 2, 1) := by decide +kernel
theorem dX5_takesNumber_3 : decode cX5_takesNumber 3 = .ok (.invokevirtual 115, 3) := by decide +kernel
theorem dX5_takesNumber_6 : decode cX5_takesNumber 6 = .ok (.ifCond .ne 5, 3) := by decide +kernel
theorem dX5_takesNumber_9 : decode cX5_takesNumber 9 = .ok (.iconst 0, 1) := by decide +kernel
theorem dX5_takesNumber_10 : decode cX5_takesNumber 10 = .ok (.ireturn, 1) := by decide +kernel
theorem dX5_takesNumber_11 : decode cX5_takesNumber 11 = .ok (.aload_n 0, 1) := by decide +kernel
theorem dX5_takesNumber_12 : decode cX5_takesNumber 12 = .ok (.aload_n 0, 1) := by decide +kernel
theorem dX5_takesNumber_13 : decode cX5_takesNumber 13 = .ok (.getfield 12, 3) := by decide +kernel
theorem dX5_takesNumber_16 : decode cX5_takesNumber 16 = .ok (.getfield 119, 3) := by decide +kernel
theorem dX5_takesNumber_19 : decode cX5_takesNumber 19 = .ok (.putfield 186, 3) := by decide +kernel
theorem dX5_takesNumber_22 : decode cX5_takesNumber 22 = .ok (.aload_n 0, 1) := by decide +kernel
theorem dX5_takesNumber_23 : decode cX5_takesNumber 23 = .ok (.getfield 12, 3) := by decide +kernel
theorem dX5_takesNumber_26 : decode cX5_takesNumber 26 = .ok (.invokevirtual 112, 3) := by decide +kernel
theorem dX5_takesNumber_29 : decode cX5_takesNumber 29 = .ok (.iconst 1, 1) := by decide +kernel
theorem dX5_takesNumber_30 : decode cX5_takesNumber 30 = .ok (.ireturn, 1) := by decide +kernel
theorem hd_X5_takesNumber : yX5_takesNumber.cls = RX5 ∧ yX5_takesNumber.cls ≠ "java/lang/invoke/MethodHandle" ∧ yX5_takesNumber.cls ≠ "java/lang/invoke/VarHandle" ∧ (parseMethodDescriptor yX5_takesNumber.desc).map (fun d => d.parameters.length) = some 2 := by decide +kernel
theorem hs_X5_takesNumber : yX5_takesNumber.cls ≠ "java/lang/invoke/MethodHandle" ∧ yX5_takesNumber.cls ≠ "java/lang/invoke/VarHandle" ∧ (parseMethodDescriptor yX5_takesNumber.desc).map (fun d => d.parameters.length) = some 2 := by decide +kernel
set_option maxHeartbeats 4000000 in
set_option maxRecDepth 100000 in
theorem k_X5_takesNumber (l : Launch) (E : Ev) (K : Kd) (z : Nat) (o : Nat) (a_1 : Int32) (a_2 : Int32) (w : Wd) (ho : K o = some (4, 0)) {r : Bool} {w' : Wd} (hf : f_X5_takesNumber K o a_1 a_2 w = some (r, w')) : Met l yX5_takesNumber (Cond.code yX5_takesNumber cX5_takesNumber 3 (Option.some Jvm.ClassFile.FieldType.boolean) :: bt) ({ frames := 2, cells := 0, slots := 0, locals := 43 } : Room) (va_Pc [rv E (some o), .int a_1, .int a_2] (HB E K w z)) (QI E K z w' (b2i r)) 0 0 (hA E) := by
  refine Met.ofW (cc := cX5_takesNumber) (maxL := 3) (ret := (Option.some Jvm.ClassFile.FieldType.boolean)) (by decide) rfl ?_
  intro p e s m args below meth c s₁ B hml hv
  obtain ⟨rfl, hz, hP, hKs, hT, hb0⟩ := hv
  have C : CX p l e s m _ meth c cX5_takesNumber 3 RX5 (Option.some Jvm.ClassFile.FieldType.boolean) E := ⟨B.exec, B.bytes, hml, findClass_of_methodNamed B.named, fun w h => atoms_spec (ws := Cond.code yX5_takesNumber cX5_takesNumber 3 (Option.some Jvm.ClassFile.FieldType.boolean) :: bt) B.pre w (List.mem_cons_of_mem _ h), hKs, hT, by rw [hz]; exact hb0, B.notSynchronized, B.returns⟩
  have hH : HQ E K z w s s.heap [] := ⟨hP, va_S.rf, hz⟩
  obtain ⟨hx, hb, hml, hown, hts, hKs, hT, hb0, hlocks, hret⟩ := id C
  have hl := lv_entry [rv E (some o), .int a_1, .int a_2] (n := 3) (by simp [lg_len_nil, lg_len_i, lg_len_j, lg_len_q, lg_len_f, lg_len_d, lg_len_r])
  rw [lg_entry_eq]
  generalize (lg_sl [rv E (some o), .int a_1, .int a_2] ++ List.replicate (3 - (lg_sl [rv E (some o), .int a_1, .int a_2]).length) Slot.unset).toArray = ls at hl ⊢
  replace hl : lv_has ls 3 [(0, rv E (some o)), (1, .int a_1), (2, .int a_2)] := by simpa only [lv_args, cat_q, cat_i, cat_j, reduceIte, Nat.reduceEqDiff, Nat.reduceAdd, Nat.zero_add] using hl
  generalize s.heap = H at hH ⊢
  unfold f_X5_takesNumber at hf
  refine hl_aload_n hx hb dX5_takesNumber_0 rfl (lv_at hl 0 rfl) ?_
  refine lv_iload_n hx hb dX5_takesNumber_1 rfl (lv_at hl 1 rfl) ?_
  refine lv_iload_n hx hb dX5_takesNumber_2 rfl (lv_at hl 2 rfl) ?_
  obtain ⟨q1, hq1, hf⟩ := bnd hf
  refine hcV_i hx hb hml hown hts hKs hT hb0 hH (As := [.int a_1, .int a_2]) (rest := []) (k_X5_seesNumber l E K H.size o a_1 a_2 w ho hq1) (gV m3_101 m3_103 ms_4 m1_8 m3_104) hd_X5_seesNumber ⟨Nat.le_of_ble_eq_true rfl, Nat.le_of_ble_eq_true rfl, rfl, rfl⟩ rfl ho rfl rfl rfl hl.1 rfl rc0 rfl dX5_takesNumber_3 ⟨Nat.zero_le _, Nat.zero_le _⟩ (fun H locs hH => ?_)
  refine lv_if_ne (tgt := 11) hx hb dX5_takesNumber_6 (by decide) (fun c2 => ?_) (fun c2 => ?_)
  · replace hf := (if_neg c2).symm.trans hf
    refine hl_aload_n hx hb dX5_takesNumber_11 rfl (lv_at hl 0 rfl) ?_
    refine hl_aload_n hx hb dX5_takesNumber_12 rfl (lv_at hl 0 rfl) ?_
    refine g5_0 hx hb hts hown hKs hH rfl ho m2_30 dX5_takesNumber_13 ?_
    obtain ⟨a3, ha3, hf⟩ := bnd hf
    replace ha3 := chk_some ha3
    refine gn8_6 hx hb hts hown hKs hH ha3.1 ha3.2 m2_11 dX5_takesNumber_16 ?_
    obtain ⟨w4, hw4, hf⟩ := bnd hf
    replace hw4 := Option.some.inj hw4
    refine p5_4 (v := (wI q1.2 806 a3)) hx hb hts hown hKs hH rfl ho m2_36 dX5_takesNumber_19 (fun H locs hH => ?_)
    rw [hw4] at hH
    refine hl_aload_n hx hb dX5_takesNumber_22 rfl (lv_at hl 0 rfl) ?_
    refine g5_0 hx hb hts hown hKs hH rfl ho m2_30 dX5_takesNumber_23 ?_
    obtain ⟨a5, ha5, hf⟩ := bnd hf
    replace ha5 := chk_some ha5
    obtain ⟨q6, hq6, hf⟩ := bnd hf
    refine hcV_v hx hb hml hown hts hKs hT hb0 hH (As := []) (rest := []) (k_X8_advance l E K H.size a5 w4 ha5.2 hq6) (gV m3_100 m3_57 m3_58 m1_9 m3_59) hd_X8_advance ⟨Nat.le_of_ble_eq_true rfl, Nat.le_of_ble_eq_true rfl, rfl, rfl⟩ ha5.1 ha5.2 rfl rfl rfl hl.1 rfl rc0 rfl dX5_takesNumber_26 ⟨Nat.zero_le _, Nat.zero_le _⟩ (fun H locs hH => ?_)
    refine lv_iconst (v := 1) hx hb dX5_takesNumber_29 (by decide) ?_
    exact hw_zret hx hb hret rfl hf hH hlocks dX5_takesNumber_30
  · replace hf := (if_pos c2).symm.trans hf
    refine lv_iconst (v := 0) hx hb dX5_takesNumber_9 (by decide) ?_
    exact hw_zret hx hb hret rfl hf hH hlocks dX5_takesNumber_10

theorem dX5_takesSpan_0 : decode cX5_takesSpan 0 = .ok (.aload_n 0, 1) := by decide +kernel
theorem dX5_takesSpan_1 : decode cX5_takesSpan 1 = .ok (.iconst 0, 1) := by decide +kernel
theorem dX5_takesSpan_2 : decode cX5_takesSpan 2 = .ok (.iload_n 1, 1) := by decide +kernel
theorem dX5_takesSpan_3 : decode cX5_takesSpan 3 = .ok (.invokevirtual 183, 3) := by decide +kernel
theorem dX5_takesSpan_6 : decode cX5_takesSpan 6 = .ok (.ifCond .ne 5, 3) := by decide +kernel
theorem dX5_takesSpan_9 : decode cX5_takesSpan 9 = .ok (.iconst 0, 1) := by decide +kernel
theorem dX5_takesSpan_10 : decode cX5_takesSpan 10 = .ok (.ireturn, 1) := by decide +kernel
theorem dX5_takesSpan_11 : decode cX5_takesSpan 11 = .ok (.aload_n 0, 1) := by decide +kernel
theorem dX5_takesSpan_12 : decode cX5_takesSpan 12 = .ok (.aload_n 0, 1) := by decide +kernel
theorem dX5_takesSpan_13 : decode cX5_takesSpan 13 = .ok (.getfield 186, 3) := by decide +kernel
theorem dX5_takesSpan_16 : decode cX5_takesSpan 16 = .ok (.putfield 144, 3) := by decide +kernel
theorem dX5_takesSpan_19 : decode cX5_takesSpan 19 = .ok (.aload_n 0, 1) := by decide +kernel
theorem dX5_takesSpan_20 : decode cX5_takesSpan 20 = .ok (.aload_n 0, 1) := by decide +kernel
theorem dX5_takesSpan_21 : decode cX5_takesSpan 21 = .ok (.getfield 144, 3) := by decide +kernel
theorem dX5_takesSpan_24 : decode cX5_takesSpan 24 = .ok (.iload_n 1, 1) := by decide +kernel
theorem dX5_takesSpan_25 : decode cX5_takesSpan 25 = .ok (.invokevirtual 183, 3) := by decide +kernel
theorem dX5_takesSpan_28 : decode cX5_takesSpan 28 = .ok (.ifCond .ne 5, 3) := by decide +kernel
theorem dX5_takesSpan_31 : decode cX5_takesSpan 31 = .ok (.iconst 0, 1) := by decide +kernel
theorem dX5_takesSpan_32 : decode cX5_takesSpan 32 = .ok (.ireturn, 1) := by decide +kernel
theorem dX5_takesSpan_33 : decode cX5_takesSpan 33 = .ok (.aload_n 0, 1) := by decide +kernel
theorem dX5_takesSpan_34 : decode cX5_takesSpan 34 = .ok (.aload_n 0, 1) := by decide +kernel
theorem dX5_takesSpan_35 : decode cX5_takesSpan 35 = .ok (.getfield 186, 3) := by decide +kernel
theorem dX5_takesSpan_38 : decode cX5_takesSpan 38 = .ok (.putfield 147, 3) := by decide +kernel
theorem dX5_takesSpan_41 : decode cX5_takesSpan 41 = .ok (.iconst 1, 1) := by decide +kernel
theorem dX5_takesSpan_42 : decode cX5_takesSpan 42 = .ok (.ireturn, 1) := by decide +kernel
theorem hd_X5_takesSpan : yX5_takesSpan.cls = RX5 ∧ yX5_takesSpan.cls ≠ "java/lang/invoke/MethodHandle" ∧ yX5_takesSpan.cls ≠ "java/lang/invoke/VarHandle" ∧ (parseMethodDescriptor yX5_takesSpan.desc).map (fun d => d.parameters.length) = some 1 := by decide +kernel
theorem hs_X5_takesSpan : yX5_takesSpan.cls ≠ "java/lang/invoke/MethodHandle" ∧ yX5_takesSpan.cls ≠ "java/lang/invoke/VarHandle" ∧ (parseMethodDescriptor yX5_takesSpan.desc).map (fun d => d.parameters.length) = some 1 := by decide +kernel
set_option maxHeartbeats 4000000 in
set_option maxRecDepth 100000 in
theorem k_X5_takesSpan (l : Launch) (E : Ev) (K : Kd) (z : Nat) (o : Nat) (a_1 : Int32) (w : Wd) (ho : K o = some (4, 0)) {r : Bool} {w' : Wd} (hf : f_X5_takesSpan K o a_1 w = some (r, w')) : Met l yX5_takesSpan (Cond.code yX5_takesSpan cX5_takesSpan 2 (Option.some Jvm.ClassFile.FieldType.boolean) :: bt) ({ frames := 3, cells := 0, slots := 0, locals := 65 } : Room) (va_Pc [rv E (some o), .int a_1] (HB E K w z)) (QI E K z w' (b2i r)) 0 0 (hA E) := by
  refine Met.ofW (cc := cX5_takesSpan) (maxL := 2) (ret := (Option.some Jvm.ClassFile.FieldType.boolean)) (by decide) rfl ?_
  intro p e s m args below meth c s₁ B hml hv
  obtain ⟨rfl, hz, hP, hKs, hT, hb0⟩ := hv
  have C : CX p l e s m _ meth c cX5_takesSpan 2 RX5 (Option.some Jvm.ClassFile.FieldType.boolean) E := ⟨B.exec, B.bytes, hml, findClass_of_methodNamed B.named, fun w h => atoms_spec (ws := Cond.code yX5_takesSpan cX5_takesSpan 2 (Option.some Jvm.ClassFile.FieldType.boolean) :: bt) B.pre w (List.mem_cons_of_mem _ h), hKs, hT, by rw [hz]; exact hb0, B.notSynchronized, B.returns⟩
  have hH : HQ E K z w s s.heap [] := ⟨hP, va_S.rf, hz⟩
  obtain ⟨hx, hb, hml, hown, hts, hKs, hT, hb0, hlocks, hret⟩ := id C
  have hl := lv_entry [rv E (some o), .int a_1] (n := 2) (by simp [lg_len_nil, lg_len_i, lg_len_j, lg_len_q, lg_len_f, lg_len_d, lg_len_r])
  rw [lg_entry_eq]
  generalize (lg_sl [rv E (some o), .int a_1] ++ List.replicate (2 - (lg_sl [rv E (some o), .int a_1]).length) Slot.unset).toArray = ls at hl ⊢
  replace hl : lv_has ls 2 [(0, rv E (some o)), (1, .int a_1)] := by simpa only [lv_args, cat_q, cat_i, cat_j, reduceIte, Nat.reduceEqDiff, Nat.reduceAdd, Nat.zero_add] using hl
  generalize s.heap = H at hH ⊢
  unfold f_X5_takesSpan at hf
  refine hl_aload_n hx hb dX5_takesSpan_0 rfl (lv_at hl 0 rfl) ?_
  refine lv_iconst (v := 0) hx hb dX5_takesSpan_1 (by decide) ?_
  refine lv_iload_n hx hb dX5_takesSpan_2 rfl (lv_at hl 1 rfl) ?_
  obtain ⟨q1, hq1, hf⟩ := bnd hf
  refine hcV_i hx hb hml hown hts hKs hT hb0 hH (As := [.int 0, .int a_1]) (rest := []) (k_X5_takesNumber l E K H.size o 0 a_1 w ho hq1) (gV m3_146 m3_148 ms_9 m1_8 m3_149) hd_X5_takesNumber ⟨Nat.le_of_ble_eq_true rfl, Nat.le_of_ble_eq_true rfl, rfl, rfl⟩ rfl ho rfl rfl rfl hl.1 rfl rc0 rfl dX5_takesSpan_3 ⟨Nat.zero_le _, Nat.zero_le _⟩ (fun H locs hH => ?_)
  refine lv_if_ne (tgt := 11) hx hb dX5_takesSpan_6 (by decide) (fun c2 => ?_) (fun c2 => ?_)
  · replace hf := (if_neg c2).symm.trans hf
    refine hl_aload_n hx hb dX5_takesSpan_11 rfl (lv_at hl 0 rfl) ?_
    refine hl_aload_n hx hb dX5_takesSpan_12 rfl (lv_at hl 0 rfl) ?_
    refine g5_4 hx hb hts hown hKs hH rfl ho m2_36 dX5_takesSpan_13 ?_
    obtain ⟨w3, hw3, hf⟩ := bnd hf
    replace hw3 := Option.some.inj hw3
    refine p5_5 (v := (wI q1.2 504 o)) hx hb hts hown hKs hH rfl ho m2_37 dX5_takesSpan_16 (fun H locs hH => ?_)
    rw [hw3] at hH
    refine hl_aload_n hx hb dX5_takesSpan_19 rfl (lv_at hl 0 rfl) ?_
    refine hl_aload_n hx hb dX5_takesSpan_20 rfl (lv_at hl 0 rfl) ?_
    refine g5_5 hx hb hts hown hKs hH rfl ho m2_37 dX5_takesSpan_21 ?_
    refine lv_iload_n hx hb dX5_takesSpan_24 rfl (lv_at hl 1 rfl) ?_
    obtain ⟨q4, hq4, hf⟩ := bnd hf
    refine hcV_i hx hb hml hown hts hKs hT hb0 hH (As := [.int ((wI w3 505 o)), .int a_1]) (rest := []) (k_X5_takesNumber l E K H.size o (wI w3 505 o) a_1 w3 ho hq4) (gV m3_146 m3_148 ms_9 m1_8 m3_149) hd_X5_takesNumber ⟨Nat.le_of_ble_eq_true rfl, Nat.le_of_ble_eq_true rfl, rfl, rfl⟩ rfl ho rfl rfl rfl hl.1 rfl rc0 rfl dX5_takesSpan_25 ⟨Nat.zero_le _, Nat.zero_le _⟩ (fun H locs hH => ?_)
    refine lv_if_ne (tgt := 33) hx hb dX5_takesSpan_28 (by decide) (fun c5 => ?_) (fun c5 => ?_)
    · replace hf := (if_neg c5).symm.trans hf
      refine hl_aload_n hx hb dX5_takesSpan_33 rfl (lv_at hl 0 rfl) ?_
      refine hl_aload_n hx hb dX5_takesSpan_34 rfl (lv_at hl 0 rfl) ?_
      refine g5_4 hx hb hts hown hKs hH rfl ho m2_36 dX5_takesSpan_35 ?_
      obtain ⟨w6, hw6, hf⟩ := bnd hf
      replace hw6 := Option.some.inj hw6
      refine p5_6 (v := (wI q4.2 504 o)) hx hb hts hown hKs hH rfl ho m2_38 dX5_takesSpan_38 (fun H locs hH => ?_)
      rw [hw6] at hH
      refine lv_iconst (v := 1) hx hb dX5_takesSpan_41 (by decide) ?_
      exact hw_zret hx hb hret rfl hf hH hlocks dX5_takesSpan_42
    · replace hf := (if_pos c5).symm.trans hf
      refine lv_iconst (v := 0) hx hb dX5_takesSpan_31 (by decide) ?_
      exact hw_zret hx hb hret rfl hf hH hlocks dX5_takesSpan_32
  · replace hf := (if_pos c2).symm.trans hf
    refine lv_iconst (v := 0) hx hb dX5_takesSpan_9 (by decide) ?_
    exact hw_zret hx hb hret rfl hf hH hlocks dX5_takesSpan_10
end
