section
variable {p : Program} {l : Launch} {e : Env} {s : State} {m : MethodId} {args : Array Value} {below : List Frame} {meth : Method} {c : Code} {E : Ev} {K : Kd} {z : Nat}

theorem dX5_read_0 : decode cX5_read 0 = .ok (.aload_n 0, 1) := by decide +kernel
theorem dX5_read_1 : decode cX5_read 1 = .ok (.iconst 0, 1) := by decide +kernel
theorem dX5_read_2 : decode cX5_read 2 = .ok (.putfield 29, 3) := by decide +kernel
theorem dX5_read_5 : decode cX5_read 5 = .ok (.aload_n 0, 1) := by decide +kernel
theorem dX5_read_6 : decode cX5_read 6 = .ok (.iconst (-1), 1) := by decide +kernel
theorem dX5_read_7 : decode cX5_read 7 = .ok (.putfield 25, 3) := by decide +kernel
theorem dX5_read_10 : decode cX5_read 10 = .ok (.aload_n 0, 1) := by decide +kernel
theorem dX5_read_11 : decode cX5_read 11 = .ok (.getfield 21, 3) := by decide +kernel
theorem dX5_read_14 : decode cX5_read 14 = .ok (.invokevirtual 32, 3) := by decide +kernel
theorem dX5_read_17 : decode cX5_read 17 = .ok (.aload_n 0, 1) := by decide +kernel
theorem dX5_read_18 : decode cX5_read 18 = .ok (.getfield 12, 3) := by decide +kernel
theorem dX5_read_21 : decode cX5_read 21 = .ok (.aload_n 1, 1) := by decide +kernel
theorem dX5_read_22 : decode cX5_read 22 = .ok (.iload_n 2, 1) := by decide +kernel
theorem dX5_read_23 : decode cX5_read 23 = .ok (.invokevirtual 35, 3) := by decide +kernel
theorem dX5_read_26 : decode cX5_read 26 = .ok (.iconst 0, 1) := by decide +kernel
theorem dX5_read_27 : decode cX5_read 27 = .ok (.istore_n 3, 1) := by decide +kernel
theorem dX5_read_28 : decode cX5_read 28 = .ok (.iload_n 3, 1) := by decide +kernel
theorem dX5_read_29 : decode cX5_read 29 = .ok (.sipush 900, 3) := by decide +kernel
theorem dX5_read_32 : decode cX5_read 32 = .ok (.if_icmp .gt 43, 3) := by decide +kernel
theorem dX5_read_35 : decode cX5_read 35 = .ok (.aload_n 0, 1) := by decide +kernel
theorem dX5_read_36 : decode cX5_read 36 = .ok (.getfield 12, 3) := by decide +kernel
theorem dX5_read_39 : decode cX5_read 39 = .ok (.getfield 39, 3) := by decide +kernel
theorem dX5_read_42 : decode cX5_read 42 = .ok (.getstatic 43, 3) := by decide +kernel
theorem dX5_read_45 : decode cX5_read 45 = .ok (.if_acmp .ne 5, 3) := by decide +kernel
theorem dX5_read_48 : decode cX5_read 48 = .ok (.iconst 1, 1) := by decide +kernel
theorem dX5_read_49 : decode cX5_read 49 = .ok (.ireturn, 1) := by decide +kernel
theorem dX5_read_50 : decode cX5_read 50 = .ok (.aload_n 0, 1) := by decide +kernel
theorem dX5_read_51 : decode cX5_read 51 = .ok (.invokevirtual 48, 3) := by decide +kernel
theorem dX5_read_54 : decode cX5_read 54 = .ok (.ifCond .eq 13, 3) := by decide +kernel
theorem dX5_read_57 : decode cX5_read 57 = .ok (.aload_n 0, 1) := by decide +kernel
theorem dX5_read_58 : decode cX5_read 58 = .ok (.getstatic 52, 3) := by decide +kernel
theorem dX5_read_61 : decode cX5_read 61 = .ok (.invokevirtual 55, 3) := by decide +kernel
theorem dX5_read_64 : decode cX5_read 64 = .ok (.ifCond .ne 5, 3) := by decide +kernel
theorem dX5_read_67 : decode cX5_read 67 = .ok (.iconst 0, 1) := by decide +kernel
theorem dX5_read_68 : decode cX5_read 68 = .ok (.ireturn, 1) := by decide +kernel
theorem dX5_read_69 : decode cX5_read 69 = .ok (.iinc 3 1, 3) := by decide +kernel
theorem dX5_read_72 : decode cX5_read 72 = .ok (.goto (-44), 3) := by decide +kernel
theorem dX5_read_75 : decode cX5_read 75 = .ok (.iconst 0, 1) := by decide +kernel
theorem dX5_read_76 : decode cX5_read 76 = .ok (.ireturn, 1) := by decide +kernel
theorem hd_X5_read : yX5_read.cls = RX5 ∧ yX5_read.cls ≠ "java/lang/invoke/MethodHandle" ∧ yX5_read.cls ≠ "java/lang/invoke/VarHandle" ∧ (parseMethodDescriptor yX5_read.desc).map (fun d => d.parameters.length) = some 2 := by decide +kernel
theorem hs_X5_read : yX5_read.cls ≠ "java/lang/invoke/MethodHandle" ∧ yX5_read.cls ≠ "java/lang/invoke/VarHandle" ∧ (parseMethodDescriptor yX5_read.desc).map (fun d => d.parameters.length) = some 2 := by decide +kernel
set_option maxHeartbeats 4000000 in
set_option maxRecDepth 100000 in
theorem l_X5_read_L28 (C : CX p l e s m args meth c cX5_read 4 RX5 (Option.some Jvm.ClassFile.FieldType.boolean) E) {o : Nat} (ho : K o = some (4, 0)) {r : Bool} {w' : Wd} (k : Option Nat → Int32 → Int32 → Wd → Option (Bool × Wd)) (hk : ∀ (v1_28 : Option Nat) (v2_28 : Int32) (v3_28 : Int32) (w : Wd) (H : Heap) (locs : List Loc) (ls : Array Slot), HQ E K z w s H locs → lv_has ls 4 [(1, rv E v1_28), (2, .int v2_28), (3, .int v3_28), (0, rv E (some o))] → k v1_28 v2_28 v3_28 w = some (r, w') → W p l e ({ frames := 6, cells := 0, slots := 0, locals := 127 } : Room) s m args below meth c H locs 0 0 (MQ below (QI E K z w' (b2i r)) args s 0 0 (hA E)) (F0 m 75 ls [])) : ∀ (n : Nat) (v1_28 : Option Nat) (v2_28 : Int32) (v3_28 : Int32) (w : Wd) (H : Heap) (locs : List Loc) (ls : Array Slot), HQ E K z w s H locs → lv_has ls 4 [(1, rv E v1_28), (2, .int v2_28), (3, .int v3_28), (0, rv E (some o))] → f_X5_read_L28 K o k n v1_28 v2_28 v3_28 w = some (r, w') → W p l e ({ frames := 6, cells := 0, slots := 0, locals := 127 } : Room) s m args below meth c H locs 0 0 (MQ below (QI E K z w' (b2i r)) args s 0 0 (hA E)) (F0 m 28 ls []) := by
  obtain ⟨hx, hb, hml, hown, hts, hKs, hT, hb0, hlocks, hret⟩ := id C
  intro n
  induction n with
  | zero =>
    intro v1_28 v2_28 v3_28 w H locs ls hH hl hf
    cases hf
  | succ n ih =>
    intro v1_28 v2_28 v3_28 w H locs ls hH hl hf
    rw [f_X5_read_L28] at hf
    refine lv_iload_n hx hb dX5_read_28 rfl (lv_at hl 2 rfl) ?_
    refine lv_sipush (v := 900) hx hb dX5_read_29 (by decide) ?_
    refine lv_icmp_gt (tgt := 75) hx hb dX5_read_32 (by decide) (fun c8 => ?_) (fun c8 => ?_)
    · replace hf := (if_pos c8).symm.trans hf
      exact hk v1_28 v2_28 v3_28 _ _ _ _ hH (lv_sub hl [0, 1, 2, 3] rfl) hf
    · replace hf := (if_neg c8).symm.trans hf
      refine hl_aload_n hx hb dX5_read_35 rfl (lv_at hl 3 rfl) ?_
      refine g5_0 hx hb hts hown hKs hH rfl ho m2_30 dX5_read_36 ?_
      obtain ⟨a9, ha9, hf⟩ := bnd hf
      replace ha9 := chk_some ha9
      refine gn8_4 hx hb hts hown hKs hH ha9.1 ha9.2 m2_7 dX5_read_39 ?_
      refine hw_tok hx hb 19 (by decide) hts hown hT hH m3_79 dX5_read_42 ?_
      obtain ⟨_, hg10, hf⟩ := bnd hf
      refine hw_acmp_ne (tgt := 50) hx hb hT (grd_some hg10) rfl dX5_read_45 (by decide) (fun c11 => ?_) (fun c11 => ?_)
      · replace hf := (if_neg c11).symm.trans hf
        refine hl_aload_n hx hb dX5_read_50 rfl (lv_at hl 3 rfl) ?_
        obtain ⟨q12, hq12, hf⟩ := bnd hf
        refine hcV_i hx hb hml hown hts hKs hT hb0 hH (As := []) (rest := []) (k_X5_takesStatement l E K H.size o w ho hq12) (gV m3_80 m3_82 ms_1 m1_8 m3_83) hd_X5_takesStatement ⟨Nat.le_of_ble_eq_true rfl, Nat.le_of_ble_eq_true rfl, rfl, rfl⟩ rfl ho rfl rfl rfl hl.1 rfl rc0 rfl dX5_read_51 ⟨Nat.zero_le _, Nat.zero_le _⟩ (fun H locs hH => ?_)
        refine lv_if_eq (tgt := 67) hx hb dX5_read_54 (by decide) (fun c13 => ?_) (fun c13 => ?_)
        · replace hf := (if_pos c13).symm.trans hf
          refine lv_iconst (v := 0) hx hb dX5_read_67 (by decide) ?_
          exact hw_zret hx hb hret rfl hf hH hlocks dX5_read_68
        · replace hf := (if_neg c13).symm.trans hf
          refine hl_aload_n hx hb dX5_read_57 rfl (lv_at hl 3 rfl) ?_
          refine hw_tok hx hb 18 (by decide) hts hown hT hH m3_212 dX5_read_58 ?_
          obtain ⟨q14, hq14, hf⟩ := bnd hf
          refine hcV_i hx hb hml hown hts hKs hT hb0 hH (As := [re E (some 18)]) (rest := []) (k_X5_takes l E K H.size o (some 18) q12.2 ho hq14) (gV m3_138 m3_140 ms_7 m1_8 m3_141) hd_X5_takes ⟨Nat.le_of_ble_eq_true rfl, Nat.le_of_ble_eq_true rfl, rfl, rfl⟩ rfl ho rfl rfl rfl hl.1 rfl rc0 rfl dX5_read_61 ⟨Nat.zero_le _, Nat.zero_le _⟩ (fun H locs hH => ?_)
          refine lv_if_ne (tgt := 69) hx hb dX5_read_64 (by decide) (fun c15 => ?_) (fun c15 => ?_)
          · replace hf := (if_neg c15).symm.trans hf
            refine lv_iinc (v := (v3_28 + 1)) (lv' := [(3, .int ((v3_28 + 1))), (1, rv E v1_28), (2, .int v2_28), (0, rv E (some o))]) hx hb dX5_read_69 hl (k := 2) rfl rfl (by decide) rfl (fun ls hl => ?_)
            refine lv_goto (tgt := 28) hx hb dX5_read_72 (by decide) ?_
            exact ih v1_28 v2_28 (v3_28 + 1) _ _ _ _ hH (lv_sub hl [1, 2, 0, 3] rfl) hf
          · replace hf := (if_pos c15).symm.trans hf
            refine lv_iconst (v := 0) hx hb dX5_read_67 (by decide) ?_
            exact hw_zret hx hb hret rfl hf hH hlocks dX5_read_68
      · replace hf := (if_pos c11).symm.trans hf
        refine lv_iconst (v := 1) hx hb dX5_read_48 (by decide) ?_
        exact hw_zret hx hb hret rfl hf hH hlocks dX5_read_49
set_option maxHeartbeats 4000000 in
set_option maxRecDepth 100000 in
theorem k_X5_read (l : Launch) (E : Ev) (K : Kd) (z : Nat) (o : Nat) (a_1 : Option Nat) (a_2 : Int32) (w : Wd) (ho : K o = some (4, 0)) {r : Bool} {w' : Wd} (hf : f_X5_read K o a_1 a_2 w = some (r, w')) : Met l yX5_read (Cond.code yX5_read cX5_read 4 (Option.some Jvm.ClassFile.FieldType.boolean) :: bt) ({ frames := 6, cells := 0, slots := 0, locals := 127 } : Room) (va_Pc [rv E (some o), rv E a_1, .int a_2] (HB E K w z)) (QI E K z w' (b2i r)) 0 0 (hA E) := by
  refine Met.ofW (cc := cX5_read) (maxL := 4) (ret := (Option.some Jvm.ClassFile.FieldType.boolean)) (by decide) rfl ?_
  intro p e s m args below meth c s₁ B hml hv
  obtain ⟨rfl, hz, hP, hKs, hT, hb0⟩ := hv
  have C : CX p l e s m _ meth c cX5_read 4 RX5 (Option.some Jvm.ClassFile.FieldType.boolean) E := ⟨B.exec, B.bytes, hml, findClass_of_methodNamed B.named, fun w h => atoms_spec (ws := Cond.code yX5_read cX5_read 4 (Option.some Jvm.ClassFile.FieldType.boolean) :: bt) B.pre w (List.mem_cons_of_mem _ h), hKs, hT, by rw [hz]; exact hb0, B.notSynchronized, B.returns⟩
  have hH : HQ E K z w s s.heap [] := ⟨hP, va_S.rf, hz⟩
  obtain ⟨hx, hb, hml, hown, hts, hKs, hT, hb0, hlocks, hret⟩ := id C
  have hl := lv_entry [rv E (some o), rv E a_1, .int a_2] (n := 4) (by simp [lg_len_nil, lg_len_i, lg_len_j, lg_len_q, lg_len_f, lg_len_d, lg_len_r])
  rw [lg_entry_eq]
  generalize (lg_sl [rv E (some o), rv E a_1, .int a_2] ++ List.replicate (4 - (lg_sl [rv E (some o), rv E a_1, .int a_2]).length) Slot.unset).toArray = ls at hl ⊢
  replace hl : lv_has ls 4 [(0, rv E (some o)), (1, rv E a_1), (2, .int a_2)] := by simpa only [lv_args, cat_q, cat_i, cat_j, reduceIte, Nat.reduceEqDiff, Nat.reduceAdd, Nat.zero_add] using hl
  generalize s.heap = H at hH ⊢
  unfold f_X5_read at hf
  refine hl_aload_n hx hb dX5_read_0 rfl (lv_at hl 0 rfl) ?_
  refine lv_iconst (v := 0) hx hb dX5_read_1 (by decide) ?_
  obtain ⟨w1, hw1, hf⟩ := bnd hf
  replace hw1 := Option.some.inj hw1
  refine p5_2 (v := 0) hx hb hts hown hKs hH rfl ho m2_32 dX5_read_2 (fun H locs hH => ?_)
  rw [hw1] at hH
  refine hl_aload_n hx hb dX5_read_5 rfl (lv_at hl 0 rfl) ?_
  refine lv_iconst (v := (-1)) hx hb dX5_read_6 (by decide) ?_
  obtain ⟨w2, hw2, hf⟩ := bnd hf
  replace hw2 := Option.some.inj hw2
  refine p5_3 (v := (-1)) hx hb hts hown hKs hH rfl ho m2_34 dX5_read_7 (fun H locs hH => ?_)
  rw [hw2] at hH
  refine hl_aload_n hx hb dX5_read_10 rfl (lv_at hl 0 rfl) ?_
  refine g5_1 hx hb hts hown hKs hH rfl ho m2_31 dX5_read_11 ?_
  obtain ⟨a3, ha3, hf⟩ := bnd hf
  replace ha3 := chk_some ha3
  obtain ⟨q4, hq4, hf⟩ := bnd hf
  refine hcV_v hx hb hml hown hts hKs hT hb0 hH (As := []) (rest := []) (k_X9_clear l E K H.size a3 w2 ha3.2 hq4) (gV m3_48 m1_135 m1_136 m1_2 m1_137) hd_X9_clear ⟨Nat.le_of_ble_eq_true rfl, Nat.le_of_ble_eq_true rfl, rfl, rfl⟩ ha3.1 ha3.2 rfl rfl rfl hl.1 rfl rc0 rfl dX5_read_14 ⟨Nat.zero_le _, Nat.zero_le _⟩ (fun H locs hH => ?_)
  refine hl_aload_n hx hb dX5_read_17 rfl (lv_at hl 0 rfl) ?_
  refine g5_0 hx hb hts hown hKs hH rfl ho m2_30 dX5_read_18 ?_
  refine hl_aload_n hx hb dX5_read_21 rfl (lv_at hl 1 rfl) ?_
  refine lv_iload_n hx hb dX5_read_22 rfl (lv_at hl 2 rfl) ?_
  obtain ⟨a5, ha5, hf⟩ := bnd hf
  replace ha5 := chk_some ha5
  obtain ⟨q6, hq6, hf⟩ := bnd hf
  refine hcV_v hx hb hml hown hts hKs hT hb0 hH (As := [rv E a_1, .int a_2]) (rest := []) (k_X8_begin l E K H.size a5 a_1 a_2 q4 ha5.2 hq6) (gV m3_49 m3_50 m3_51 m1_9 m3_52) hd_X8_begin ⟨Nat.le_of_ble_eq_true rfl, Nat.le_of_ble_eq_true rfl, rfl, rfl⟩ ha5.1 ha5.2 rfl rfl rfl hl.1 rfl rc0 rfl dX5_read_23 ⟨Nat.zero_le _, Nat.zero_le _⟩ (fun H locs hH => ?_)
  refine lv_iconst (v := 0) hx hb dX5_read_26 (by decide) ?_
  refine lv_istore_n (i := 3) (lv' := [(3, .int 0), (0, rv E (some o)), (1, rv E a_1), (2, .int a_2)]) hx hb dX5_read_27 rfl hl (by decide) rfl (fun ls hl => ?_)
  refine l_X5_read_L28  C ho _ (fun v1_28 v2_28 v3_28 w7 H locs ls hH hl hf => ?_) fu a_1 a_2 0 q6 _ _ _ hH (lv_sub hl [2, 3, 0, 1] rfl) hf
  refine lv_iconst (v := 0) hx hb dX5_read_75 (by decide) ?_
  exact hw_zret hx hb hret rfl hf hH hlocks dX5_read_76

theorem dX12_parse_0 : decode cX12_parse 0 = .ok (.aload_n 0, 1) := by decide +kernel
theorem dX12_parse_1 : decode cX12_parse 1 = .ok (.getfield 19, 3) := by decide +kernel
theorem dX12_parse_4 : decode cX12_parse 4 = .ok (.aload_n 0, 1) := by decide +kernel
theorem dX12_parse_5 : decode cX12_parse 5 = .ok (.getfield 12, 3) := by decide +kernel
theorem dX12_parse_8 : decode cX12_parse 8 = .ok (.aload_n 0, 1) := by decide +kernel
theorem dX12_parse_9 : decode cX12_parse 9 = .ok (.getfield 70, 3) := by decide +kernel
theorem dX12_parse_12 : decode cX12_parse 12 = .ok (.invokevirtual 77, 3) := by decide +kernel
theorem dX12_parse_15 : decode cX12_parse 15 = .ok (.istore_n 1, 1) := by decide +kernel
theorem dX12_parse_16 : decode cX12_parse 16 = .ok (.aload_n 0, 1) := by decide +kernel
theorem dX12_parse_17 : decode cX12_parse 17 = .ok (.iconst 0, 1) := by decide +kernel
theorem dX12_parse_18 : decode cX12_parse 18 = .ok (.putfield 70, 3) := by decide +kernel
theorem dX12_parse_21 : decode cX12_parse 21 = .ok (.aload_n 0, 1) := by decide +kernel
theorem dX12_parse_22 : decode cX12_parse 22 = .ok (.aload_n 0, 1) := by decide +kernel
theorem dX12_parse_23 : decode cX12_parse 23 = .ok (.getfield 19, 3) := by decide +kernel
theorem dX12_parse_26 : decode cX12_parse 26 = .ok (.getfield 81, 3) := by decide +kernel
theorem dX12_parse_29 : decode cX12_parse 29 = .ok (.putfield 23, 3) := by decide +kernel
theorem dX12_parse_32 : decode cX12_parse 32 = .ok (.aload_n 0, 1) := by decide +kernel
theorem dX12_parse_33 : decode cX12_parse 33 = .ok (.aload_n 0, 1) := by decide +kernel
theorem dX12_parse_34 : decode cX12_parse 34 = .ok (.getfield 19, 3) := by decide +kernel
theorem dX12_parse_37 : decode cX12_parse 37 = .ok (.getfield 84, 3) := by decide +kernel
theorem dX12_parse_40 : decode cX12_parse 40 = .ok (.putfield 27, 3) := by decide +kernel
theorem dX12_parse_43 : decode cX12_parse 43 = .ok (.iload_n 1, 1) := by decide +kernel
theorem dX12_parse_44 : decode cX12_parse 44 = .ok (.ifCond .ne 5, 3) := by decide +kernel
theorem dX12_parse_47 : decode cX12_parse 47 = .ok (.iconst (-1), 1) := by decide +kernel
theorem dX12_parse_48 : decode cX12_parse 48 = .ok (.ireturn, 1) := by decide +kernel
theorem dX12_parse_49 : decode cX12_parse 49 = .ok (.aload_n 0, 1) := by decide +kernel
theorem dX12_parse_50 : decode cX12_parse 50 = .ok (.getfield 35, 3) := by decide +kernel
theorem dX12_parse_53 : decode cX12_parse 53 = .ok (.aload_n 0, 1) := by decide +kernel
theorem dX12_parse_54 : decode cX12_parse 54 = .ok (.getfield 19, 3) := by decide +kernel
theorem dX12_parse_57 : decode cX12_parse 57 = .ok (.aload_n 0, 1) := by decide +kernel
theorem dX12_parse_58 : decode cX12_parse 58 = .ok (.getfield 35, 3) := by decide +kernel
theorem dX12_parse_61 : decode cX12_parse 61 = .ok (.getfield 87, 3) := by decide +kernel
theorem dX12_parse_64 : decode cX12_parse 64 = .ok (.invokevirtual 91, 3) := by decide +kernel
theorem dX12_parse_67 : decode cX12_parse 67 = .ok (.invokevirtual 95, 3) := by decide +kernel
theorem dX12_parse_70 : decode cX12_parse 70 = .ok (.aload_n 0, 1) := by decide +kernel
theorem dX12_parse_71 : decode cX12_parse 71 = .ok (.iconst 0, 1) := by decide +kernel
theorem dX12_parse_72 : decode cX12_parse 72 = .ok (.putfield 98, 3) := by decide +kernel
theorem dX12_parse_75 : decode cX12_parse 75 = .ok (.aload_n 0, 1) := by decide +kernel
theorem dX12_parse_76 : decode cX12_parse 76 = .ok (.iconst 0, 1) := by decide +kernel
theorem dX12_parse_77 : decode cX12_parse 77 = .ok (.putfield 102, 3) := by decide +kernel
theorem dX12_parse_80 : decode cX12_parse 80 = .ok (.aload_n 0, 1) := by decide +kernel
theorem dX12_parse_81 : decode cX12_parse 81 = .ok (.getfield 35, 3) := by decide +kernel
theorem dX12_parse_84 : decode cX12_parse 84 = .ok (.getfield 87, 3) := by decide +kernel
theorem dX12_parse_87 : decode cX12_parse 87 = .ok (.iconst 3, 1) := by decide +kernel
theorem dX12_parse_88 : decode cX12_parse 88 = .ok (.invokevirtual 105, 3) := by decide +kernel
theorem dX12_parse_91 : decode cX12_parse 91 = .ok (.ireturn, 1) := by decide +kernel
theorem hd_X12_parse : yX12_parse.cls = RX12 ∧ yX12_parse.cls ≠ "java/lang/invoke/MethodHandle" ∧ yX12_parse.cls ≠ "java/lang/invoke/VarHandle" ∧ (parseMethodDescriptor yX12_parse.desc).map (fun d => d.parameters.length) = some 0 := by decide +kernel
theorem hs_X12_parse : yX12_parse.cls ≠ "java/lang/invoke/MethodHandle" ∧ yX12_parse.cls ≠ "java/lang/invoke/VarHandle" ∧ (parseMethodDescriptor yX12_parse.desc).map (fun d => d.parameters.length) = some 0 := by decide +kernel
set_option maxHeartbeats 4000000 in
set_option maxRecDepth 100000 in
theorem k_X12_parse (l : Launch) (E : Ev) (K : Kd) (z : Nat) (o : Nat) (w : Wd) (ho : K o = some (10, 0)) {r : Int32} {w' : Wd} (hf : f_X12_parse K o w = some (r, w')) : Met l yX12_parse (Cond.code yX12_parse cX12_parse 2 (Option.some Jvm.ClassFile.FieldType.int) :: bt) ({ frames := 7, cells := 0, slots := 0, locals := 150 } : Room) (va_Pc [rv E (some o)] (HB E K w z)) (QI E K z w' r) 0 0 (hA E) := by
  refine Met.ofW (cc := cX12_parse) (maxL := 2) (ret := (Option.some Jvm.ClassFile.FieldType.int)) (by decide) rfl ?_
  intro p e s m args below meth c s₁ B hml hv
  obtain ⟨rfl, hz, hP, hKs, hT, hb0⟩ := hv
  have C : CX p l e s m _ meth c cX12_parse 2 RX12 (Option.some Jvm.ClassFile.FieldType.int) E := ⟨B.exec, B.bytes, hml, findClass_of_methodNamed B.named, fun w h => atoms_spec (ws := Cond.code yX12_parse cX12_parse 2 (Option.some Jvm.ClassFile.FieldType.int) :: bt) B.pre w (List.mem_cons_of_mem _ h), hKs, hT, by rw [hz]; exact hb0, B.notSynchronized, B.returns⟩
  have hH : HQ E K z w s s.heap [] := ⟨hP, va_S.rf, hz⟩
  obtain ⟨hx, hb, hml, hown, hts, hKs, hT, hb0, hlocks, hret⟩ := id C
  have hl := lv_entry [rv E (some o)] (n := 2) (by simp [lg_len_nil, lg_len_i, lg_len_j, lg_len_q, lg_len_f, lg_len_d, lg_len_r])
  rw [lg_entry_eq]
  generalize (lg_sl [rv E (some o)] ++ List.replicate (2 - (lg_sl [rv E (some o)]).length) Slot.unset).toArray = ls at hl ⊢
  replace hl : lv_has ls 2 [(0, rv E (some o))] := by simpa only [lv_args, cat_q, cat_i, cat_j, reduceIte, Nat.reduceEqDiff, Nat.reduceAdd, Nat.zero_add] using hl
  generalize s.heap = H at hH ⊢
  unfold f_X12_parse at hf
  refine hl_aload_n hx hb dX12_parse_0 rfl (lv_at hl 0 rfl) ?_
  refine g12_2 hx hb hts hown hKs hH rfl ho m2_221 dX12_parse_1 ?_
  refine hl_aload_n hx hb dX12_parse_4 rfl (lv_at hl 0 rfl) ?_
  refine g12_0 hx hb hts hown hKs hH rfl ho m2_219 dX12_parse_5 ?_
  refine hl_aload_n hx hb dX12_parse_8 rfl (lv_at hl 0 rfl) ?_
  refine g12_1 hx hb hts hown hKs hH rfl ho m2_220 dX12_parse_9 ?_
  obtain ⟨a1, ha1, hf⟩ := bnd hf
  replace ha1 := chk_some ha1
  obtain ⟨q2, hq2, hf⟩ := bnd hf
  refine hcV_i hx hb hml hown hts hKs hT hb0 hH (As := [rv E (wR w 1200 o), .int ((wI w 1201 o))]) (rest := []) (k_X5_read l E K H.size a1 (wR w 1200 o) (wI w 1201 o) w ha1.2 hq2) (gV m3_44 m3_45 m3_46 m1_8 m3_47) hd_X5_read ⟨Nat.le_of_ble_eq_true rfl, Nat.le_of_ble_eq_true rfl, rfl, rfl⟩ ha1.1 ha1.2 rfl rfl rfl hl.1 rfl rc0 rfl dX12_parse_12 ⟨Nat.zero_le _, Nat.zero_le _⟩ (fun H locs hH => ?_)
  refine lv_istore_n (i := 1) (lv' := [(1, .int (b2i q2.1)), (0, rv E (some o))]) hx hb dX12_parse_15 rfl hl (by decide) rfl (fun ls hl => ?_)
  refine hl_aload_n hx hb dX12_parse_16 rfl (lv_at hl 1 rfl) ?_
  refine lv_iconst (v := 0) hx hb dX12_parse_17 (by decide) ?_
  obtain ⟨w3, hw3, hf⟩ := bnd hf
  replace hw3 := Option.some.inj hw3
  refine p12_1 (v := 0) hx hb hts hown hKs hH rfl ho m2_220 dX12_parse_18 (fun H locs hH => ?_)
  rw [hw3] at hH
  refine hl_aload_n hx hb dX12_parse_21 rfl (lv_at hl 1 rfl) ?_
  refine hl_aload_n hx hb dX12_parse_22 rfl (lv_at hl 1 rfl) ?_
  refine g12_2 hx hb hts hown hKs hH rfl ho m2_221 dX12_parse_23 ?_
  obtain ⟨a4, ha4, hf⟩ := bnd hf
  replace ha4 := chk_some ha4
  refine gn5_2 hx hb hts hown hKs hH ha4.1 ha4.2 m2_33 dX12_parse_26 ?_
  obtain ⟨w5, hw5, hf⟩ := bnd hf
  replace hw5 := Option.some.inj hw5
  refine p12_3 (v := (wI w3 502 a4)) hx hb hts hown hKs hH rfl ho m2_222 dX12_parse_29 (fun H locs hH => ?_)
  rw [hw5] at hH
  refine hl_aload_n hx hb dX12_parse_32 rfl (lv_at hl 1 rfl) ?_
  refine hl_aload_n hx hb dX12_parse_33 rfl (lv_at hl 1 rfl) ?_
  refine g12_2 hx hb hts hown hKs hH rfl ho m2_221 dX12_parse_34 ?_
  obtain ⟨a6, ha6, hf⟩ := bnd hf
  replace ha6 := chk_some ha6
  refine gn5_3 hx hb hts hown hKs hH ha6.1 ha6.2 m2_35 dX12_parse_37 ?_
  obtain ⟨w7, hw7, hf⟩ := bnd hf
  replace hw7 := Option.some.inj hw7
  refine p12_4 (v := (wI w5 503 a6)) hx hb hts hown hKs hH rfl ho m2_223 dX12_parse_40 (fun H locs hH => ?_)
  rw [hw7] at hH
  refine lv_iload_n hx hb dX12_parse_43 rfl (lv_at hl 0 rfl) ?_
  refine lv_if_ne (tgt := 49) hx hb dX12_parse_44 (by decide) (fun c8 => ?_) (fun c8 => ?_)
  · replace hf := (if_neg c8).symm.trans hf
    refine hl_aload_n hx hb dX12_parse_49 rfl (lv_at hl 1 rfl) ?_
    refine g12_5 hx hb hts hown hKs hH rfl ho m2_224 dX12_parse_50 ?_
    refine hl_aload_n hx hb dX12_parse_53 rfl (lv_at hl 1 rfl) ?_
    refine g12_2 hx hb hts hown hKs hH rfl ho m2_221 dX12_parse_54 ?_
    refine hl_aload_n hx hb dX12_parse_57 rfl (lv_at hl 1 rfl) ?_
    refine g12_5 hx hb hts hown hKs hH rfl ho m2_224 dX12_parse_58 ?_
    obtain ⟨a9, ha9, hf⟩ := bnd hf
    replace ha9 := chk_some ha9
    refine gn10_0 hx hb hts hown hKs hH ha9.1 ha9.2 m2_122 dX12_parse_61 ?_
    obtain ⟨a10, ha10, hf⟩ := bnd hf
    replace ha10 := chk_some ha10
    obtain ⟨q11, hq11, hf⟩ := bnd hf
    refine hcV_q hx hb hml hown hts hKs hT hb0 hH (As := [rv E (wR w7 1000 a9)]) (rest := [rv E (wR w7 1205 o)]) (k_X5_exchange l E K H.size a10 (wR w7 1000 a9) w7 ha10.2 hq11) (gV m3_213 m3_214 m3_215 m1_8 m3_216) hd_X5_exchange ⟨Nat.le_of_ble_eq_true rfl, Nat.le_of_ble_eq_true rfl, rfl, rfl⟩ ha10.1 ha10.2 rfl rfl rfl hl.1 rfl (rcV rc0) rfl dX12_parse_64 ⟨Nat.zero_le _, Nat.zero_le _⟩ (fun H locs hH => ?_)
    obtain ⟨q12, hq12, hf⟩ := bnd hf
    refine hcV_v hx hb hml hown hts hKs hT hb0 hH (As := [rv E q11.1]) (rest := []) (k_X10_begin l E K H.size a9 q11.1 q11.2 ha9.2 hq12) (gV m3_217 m3_218 m3_219 m1_12 m3_220) hd_X10_begin ⟨Nat.le_of_ble_eq_true rfl, Nat.le_of_ble_eq_true rfl, rfl, rfl⟩ ha9.1 ha9.2 rfl rfl rfl hl.1 rfl rc0 rfl dX12_parse_67 ⟨Nat.zero_le _, Nat.zero_le _⟩ (fun H locs hH => ?_)
    refine hl_aload_n hx hb dX12_parse_70 rfl (lv_at hl 1 rfl) ?_
    refine lv_iconst (v := 0) hx hb dX12_parse_71 (by decide) ?_
    obtain ⟨w13, hw13, hf⟩ := bnd hf
    replace hw13 := Option.some.inj hw13
    refine p12_7 (v := false) hx hb hts hown hKs hH rfl ho m2_226 dX12_parse_72 (fun H locs hH => ?_)
    rw [hw13] at hH
    refine hl_aload_n hx hb dX12_parse_75 rfl (lv_at hl 1 rfl) ?_
    refine lv_iconst (v := 0) hx hb dX12_parse_76 (by decide) ?_
    obtain ⟨w14, hw14, hf⟩ := bnd hf
    replace hw14 := Option.some.inj hw14
    refine p12_10 (v := 0) hx hb hts hown hKs hH rfl ho m2_229 dX12_parse_77 (fun H locs hH => ?_)
    rw [hw14] at hH
    refine hl_aload_n hx hb dX12_parse_80 rfl (lv_at hl 1 rfl) ?_
    refine g12_5 hx hb hts hown hKs hH rfl ho m2_224 dX12_parse_81 ?_
    obtain ⟨a15, ha15, hf⟩ := bnd hf
    replace ha15 := chk_some ha15
    refine gn10_0 hx hb hts hown hKs hH ha15.1 ha15.2 m2_122 dX12_parse_84 ?_
    refine lv_iconst (v := 3) hx hb dX12_parse_87 (by decide) ?_
    obtain ⟨a16, ha16, hf⟩ := bnd hf
    replace ha16 := chk_some ha16
    obtain ⟨q17, hq17, hf⟩ := bnd hf
    refine hcV_i hx hb hml hown hts hKs hT hb0 hH (As := [.int 3]) (rest := []) (k_X9_size l E K H.size a16 3 w14 ha16.2 hq17) (gV m3_229 m3_151 m3_152 m1_2 m3_153) hd_X9_size ⟨Nat.le_of_ble_eq_true rfl, Nat.le_of_ble_eq_true rfl, rfl, rfl⟩ ha16.1 ha16.2 rfl rfl rfl hl.1 rfl rc0 rfl dX12_parse_88 ⟨Nat.zero_le _, Nat.zero_le _⟩ (fun H locs hH => ?_)
    exact hw_iret hx hb hret hf hH hlocks dX12_parse_91
  · replace hf := (if_pos c8).symm.trans hf
    refine lv_iconst (v := (-1)) hx hb dX12_parse_47 (by decide) ?_
    exact hw_iret hx hb hret hf hH hlocks dX12_parse_48
end
