section
variable {p : Program} {l : Launch} {e : Env} {s : State} {m : MethodId} {args : Array Value} {below : List Frame} {meth : Method} {c : Code} {E : Ev} {K : Kd} {z : Nat}

theorem dX13_findsOn_0 : decode cX13_findsOn 0 = .ok (.iconst 0, 1) := by decide +kernel
theorem dX13_findsOn_1 : decode cX13_findsOn 1 = .ok (.istore_n 3, 1) := by decide +kernel
theorem dX13_findsOn_2 : decode cX13_findsOn 2 = .ok (.iload_n 3, 1) := by decide +kernel
theorem dX13_findsOn_3 : decode cX13_findsOn 3 = .ok (.aload_n 0, 1) := by decide +kernel
theorem dX13_findsOn_4 : decode cX13_findsOn 4 = .ok (.getfield 7, 3) := by decide +kernel
theorem dX13_findsOn_7 : decode cX13_findsOn 7 = .ok (.bipush 100, 2) := by decide +kernel
theorem dX13_findsOn_9 : decode cX13_findsOn 9 = .ok (.iload_n 1, 1) := by decide +kernel
theorem dX13_findsOn_10 : decode cX13_findsOn 10 = .ok (.iadd, 1) := by decide +kernel
theorem dX13_findsOn_11 : decode cX13_findsOn 11 = .ok (.iaload, 1) := by decide +kernel
theorem dX13_findsOn_12 : decode cX13_findsOn 12 = .ok (.iadd, 1) := by decide +kernel
theorem dX13_findsOn_13 : decode cX13_findsOn 13 = .ok (.bipush 8, 2) := by decide +kernel
theorem dX13_findsOn_15 : decode cX13_findsOn 15 = .ok (.if_icmp .gt 73, 3) := by decide +kernel
theorem dX13_findsOn_18 : decode cX13_findsOn 18 = .ok (.iconst 0, 1) := by decide +kernel
theorem dX13_findsOn_19 : decode cX13_findsOn 19 = .ok (.istore 4, 2) := by decide +kernel
theorem dX13_findsOn_21 : decode cX13_findsOn 21 = .ok (.iload 4, 2) := by decide +kernel
theorem dX13_findsOn_23 : decode cX13_findsOn 23 = .ok (.aload_n 0, 1) := by decide +kernel
theorem dX13_findsOn_24 : decode cX13_findsOn 24 = .ok (.getfield 7, 3) := by decide +kernel
theorem dX13_findsOn_27 : decode cX13_findsOn 27 = .ok (.iconst 0, 1) := by decide +kernel
theorem dX13_findsOn_28 : decode cX13_findsOn 28 = .ok (.iaload, 1) := by decide +kernel
theorem dX13_findsOn_29 : decode cX13_findsOn 29 = .ok (.if_icmp .ge 53, 3) := by decide +kernel
theorem dX13_findsOn_32 : decode cX13_findsOn 32 = .ok (.aload_n 0, 1) := by decide +kernel
theorem dX13_findsOn_33 : decode cX13_findsOn 33 = .ok (.iload_n 1, 1) := by decide +kernel
theorem dX13_findsOn_34 : decode cX13_findsOn 34 = .ok (.iload_n 2, 1) := by decide +kernel
theorem dX13_findsOn_35 : decode cX13_findsOn 35 = .ok (.iload_n 3, 1) := by decide +kernel
theorem dX13_findsOn_36 : decode cX13_findsOn 36 = .ok (.iload 4, 2) := by decide +kernel
theorem dX13_findsOn_38 : decode cX13_findsOn 38 = .ok (.invokevirtual 227, 3) := by decide +kernel
theorem dX13_findsOn_41 : decode cX13_findsOn 41 = .ok (.istore 5, 2) := by decide +kernel
theorem dX13_findsOn_43 : decode cX13_findsOn 43 = .ok (.iload 5, 2) := by decide +kernel
theorem dX13_findsOn_45 : decode cX13_findsOn 45 = .ok (.iconst (-1), 1) := by decide +kernel
theorem dX13_findsOn_46 : decode cX13_findsOn 46 = .ok (.if_icmp .ne 6, 3) := by decide +kernel
theorem dX13_findsOn_49 : decode cX13_findsOn 49 = .ok (.goto 27, 3) := by decide +kernel
theorem dX13_findsOn_52 : decode cX13_findsOn 52 = .ok (.aload_n 0, 1) := by decide +kernel
theorem dX13_findsOn_53 : decode cX13_findsOn 53 = .ok (.iload_n 2, 1) := by decide +kernel
theorem dX13_findsOn_54 : decode cX13_findsOn 54 = .ok (.putfield 231, 3) := by decide +kernel
theorem dX13_findsOn_57 : decode cX13_findsOn 57 = .ok (.aload_n 0, 1) := by decide +kernel
theorem dX13_findsOn_58 : decode cX13_findsOn 58 = .ok (.iload_n 3, 1) := by decide +kernel
theorem dX13_findsOn_59 : decode cX13_findsOn 59 = .ok (.putfield 234, 3) := by decide +kernel
theorem dX13_findsOn_62 : decode cX13_findsOn 62 = .ok (.aload_n 0, 1) := by decide +kernel
theorem dX13_findsOn_63 : decode cX13_findsOn 63 = .ok (.iload 4, 2) := by decide +kernel
theorem dX13_findsOn_65 : decode cX13_findsOn 65 = .ok (.putfield 237, 3) := by decide +kernel
theorem dX13_findsOn_68 : decode cX13_findsOn 68 = .ok (.aload_n 0, 1) := by decide +kernel
theorem dX13_findsOn_69 : decode cX13_findsOn 69 = .ok (.iload 5, 2) := by decide +kernel
theorem dX13_findsOn_71 : decode cX13_findsOn 71 = .ok (.putfield 240, 3) := by decide +kernel
theorem dX13_findsOn_74 : decode cX13_findsOn 74 = .ok (.iconst 1, 1) := by decide +kernel
theorem dX13_findsOn_75 : decode cX13_findsOn 75 = .ok (.ireturn, 1) := by decide +kernel
theorem dX13_findsOn_76 : decode cX13_findsOn 76 = .ok (.iinc 4 1, 3) := by decide +kernel
theorem dX13_findsOn_79 : decode cX13_findsOn 79 = .ok (.goto (-58), 3) := by decide +kernel
theorem dX13_findsOn_82 : decode cX13_findsOn 82 = .ok (.iinc 3 1, 3) := by decide +kernel
theorem dX13_findsOn_85 : decode cX13_findsOn 85 = .ok (.goto (-83), 3) := by decide +kernel
theorem dX13_findsOn_88 : decode cX13_findsOn 88 = .ok (.iconst 0, 1) := by decide +kernel
theorem dX13_findsOn_89 : decode cX13_findsOn 89 = .ok (.ireturn, 1) := by decide +kernel
theorem hd_X13_findsOn : yX13_findsOn.cls = RX13 ∧ yX13_findsOn.cls ≠ "java/lang/invoke/MethodHandle" ∧ yX13_findsOn.cls ≠ "java/lang/invoke/VarHandle" ∧ (parseMethodDescriptor yX13_findsOn.desc).map (fun d => d.parameters.length) = some 2 := by decide +kernel
theorem hs_X13_findsOn : yX13_findsOn.cls ≠ "java/lang/invoke/MethodHandle" ∧ yX13_findsOn.cls ≠ "java/lang/invoke/VarHandle" ∧ (parseMethodDescriptor yX13_findsOn.desc).map (fun d => d.parameters.length) = some 2 := by decide +kernel
set_option maxHeartbeats 4000000 in
set_option maxRecDepth 100000 in
theorem l_X13_findsOn_L21 (C : CX p l e s m args meth c cX13_findsOn 6 RX13 (Option.some Jvm.ClassFile.FieldType.boolean) E) {o : Nat} (ho : K o = some (11, 0)) {r : Bool} {w' : Wd} (k : Int32 → Int32 → Int32 → Int32 → Wd → Option (Bool × Wd)) (hk : ∀ (v1_21 : Int32) (v2_21 : Int32) (v3_21 : Int32) (v4_21 : Int32) (w : Wd) (H : Heap) (locs : List Loc) (ls : Array Slot), HQ E K z w s H locs → lv_has ls 6 [(1, .int v1_21), (2, .int v2_21), (3, .int v3_21), (4, .int v4_21), (0, rv E (some o))] → k v1_21 v2_21 v3_21 v4_21 w = some (r, w') → W p l e ({ frames := 7, cells := 0, slots := 0, locals := 166 } : Room) s m args below meth c H locs 0 0 (MQ below (QI E K z w' (b2i r)) args s 0 0 (hA E)) (F0 m 82 ls [])) : ∀ (n : Nat) (v1_21 : Int32) (v2_21 : Int32) (v3_21 : Int32) (v4_21 : Int32) (w : Wd) (H : Heap) (locs : List Loc) (ls : Array Slot), HQ E K z w s H locs → lv_has ls 6 [(1, .int v1_21), (2, .int v2_21), (3, .int v3_21), (4, .int v4_21), (0, rv E (some o))] → f_X13_findsOn_L21 K o k n v1_21 v2_21 v3_21 v4_21 w = some (r, w') → W p l e ({ frames := 7, cells := 0, slots := 0, locals := 166 } : Room) s m args below meth c H locs 0 0 (MQ below (QI E K z w' (b2i r)) args s 0 0 (hA E)) (F0 m 21 ls []) := by
  obtain ⟨hx, hb, hml, hown, hts, hKs, hT, hb0, hlocks, hret⟩ := id C
  intro n
  induction n with
  | zero =>
    intro v1_21 v2_21 v3_21 v4_21 w H locs ls hH hl hf
    cases hf
  | succ n ih =>
    intro v1_21 v2_21 v3_21 v4_21 w H locs ls hH hl hf
    rw [f_X13_findsOn_L21] at hf
    refine lv_iload hx hb dX13_findsOn_21 (lv_at hl 3 rfl) ?_
    refine hl_aload_n hx hb dX13_findsOn_23 rfl (lv_at hl 4 rfl) ?_
    refine g13_1 hx hb hts hown hKs hH rfl ho m6_182 dX13_findsOn_24 ?_
    refine lv_iconst (v := 0) hx hb dX13_findsOn_27 (by decide) ?_
    obtain ⟨a6, ha6, hf⟩ := bnd hf
    replace ha6 := cha_some ha6
    obtain ⟨j7, hj7, hf⟩ := bnd hf
    refine hw_iald hx hb hKs hH ha6.1 ha6.2 hj7 dX13_findsOn_28 ?_
    refine lv_icmp_ge (tgt := 82) hx hb dX13_findsOn_29 (by decide) (fun c8 => ?_) (fun c8 => ?_)
    · replace hf := (if_pos c8).symm.trans hf
      exact hk v1_21 v2_21 v3_21 v4_21 _ _ _ _ hH (lv_sub hl [0, 1, 2, 3, 4] rfl) hf
    · replace hf := (if_neg c8).symm.trans hf
      refine hl_aload_n hx hb dX13_findsOn_32 rfl (lv_at hl 4 rfl) ?_
      refine lv_iload_n hx hb dX13_findsOn_33 rfl (lv_at hl 0 rfl) ?_
      refine lv_iload_n hx hb dX13_findsOn_34 rfl (lv_at hl 1 rfl) ?_
      refine lv_iload_n hx hb dX13_findsOn_35 rfl (lv_at hl 2 rfl) ?_
      refine lv_iload hx hb dX13_findsOn_36 (lv_at hl 3 rfl) ?_
      obtain ⟨q9, hq9, hf⟩ := bnd hf
      refine hcV_i hx hb hml hown hts hKs hT hb0 hH (As := [.int v1_21, .int v2_21, .int v3_21, .int v4_21]) (rest := []) (k_X13_officerFor l E K H.size o v1_21 v2_21 v3_21 v4_21 w ho hq9) (gV m8_10 m8_12 ms_76 m1_16 m8_13) hd_X13_officerFor ⟨Nat.le_of_ble_eq_true rfl, Nat.le_of_ble_eq_true rfl, rfl, rfl⟩ rfl ho rfl rfl rfl hl.1 rfl rc0 rfl dX13_findsOn_38 ⟨Nat.zero_le _, Nat.zero_le _⟩ (fun H locs hH => ?_)
      refine lv_istore (i := 5) (lv' := [(5, .int (q9.1)), (1, .int v1_21), (2, .int v2_21), (3, .int v3_21), (4, .int v4_21), (0, rv E (some o))]) hx hb dX13_findsOn_41 hl (by decide) rfl (fun ls hl => ?_)
      refine lv_iload hx hb dX13_findsOn_43 (lv_at hl 0 rfl) ?_
      refine lv_iconst (v := (-1)) hx hb dX13_findsOn_45 (by decide) ?_
      refine lv_icmp_ne (tgt := 52) hx hb dX13_findsOn_46 (by decide) (fun c10 => ?_) (fun c10 => ?_)
      · replace hf := (if_neg c10).symm.trans hf
        refine hl_aload_n hx hb dX13_findsOn_52 rfl (lv_at hl 5 rfl) ?_
        refine lv_iload_n hx hb dX13_findsOn_53 rfl (lv_at hl 2 rfl) ?_
        obtain ⟨w11, hw11, hf⟩ := bnd hf
        replace hw11 := Option.some.inj hw11
        refine p13_16 (v := v2_21) hx hb hts hown hKs hH rfl ho m6_197 dX13_findsOn_54 (fun H locs hH => ?_)
        rw [hw11] at hH
        refine hl_aload_n hx hb dX13_findsOn_57 rfl (lv_at hl 5 rfl) ?_
        refine lv_iload_n hx hb dX13_findsOn_58 rfl (lv_at hl 3 rfl) ?_
        obtain ⟨w12, hw12, hf⟩ := bnd hf
        replace hw12 := Option.some.inj hw12
        refine p13_17 (v := v3_21) hx hb hts hown hKs hH rfl ho m6_198 dX13_findsOn_59 (fun H locs hH => ?_)
        rw [hw12] at hH
        refine hl_aload_n hx hb dX13_findsOn_62 rfl (lv_at hl 5 rfl) ?_
        refine lv_iload hx hb dX13_findsOn_63 (lv_at hl 4 rfl) ?_
        obtain ⟨w13, hw13, hf⟩ := bnd hf
        replace hw13 := Option.some.inj hw13
        refine p13_18 (v := v4_21) hx hb hts hown hKs hH rfl ho m6_199 dX13_findsOn_65 (fun H locs hH => ?_)
        rw [hw13] at hH
        refine hl_aload_n hx hb dX13_findsOn_68 rfl (lv_at hl 5 rfl) ?_
        refine lv_iload hx hb dX13_findsOn_69 (lv_at hl 0 rfl) ?_
        obtain ⟨w14, hw14, hf⟩ := bnd hf
        replace hw14 := Option.some.inj hw14
        refine p13_19 (v := q9.1) hx hb hts hown hKs hH rfl ho m6_200 dX13_findsOn_71 (fun H locs hH => ?_)
        rw [hw14] at hH
        refine lv_iconst (v := 1) hx hb dX13_findsOn_74 (by decide) ?_
        exact hw_zret hx hb hret rfl hf hH hlocks dX13_findsOn_75
      · replace hf := (if_pos c10).symm.trans hf
        refine lv_goto (tgt := 76) hx hb dX13_findsOn_49 (by decide) ?_
        refine lv_iinc (v := (v4_21 + 1)) (lv' := [(4, .int ((v4_21 + 1))), (5, .int (q9.1)), (1, .int v1_21), (2, .int v2_21), (3, .int v3_21), (0, rv E (some o))]) hx hb dX13_findsOn_76 hl (k := 4) rfl rfl (by decide) rfl (fun ls hl => ?_)
        refine lv_goto (tgt := 21) hx hb dX13_findsOn_79 (by decide) ?_
        exact ih v1_21 v2_21 v3_21 (v4_21 + 1) _ _ _ _ hH (lv_sub hl [2, 3, 4, 0, 5] rfl) hf
set_option maxHeartbeats 4000000 in
set_option maxRecDepth 100000 in
theorem l_X13_findsOn_L2 (C : CX p l e s m args meth c cX13_findsOn 6 RX13 (Option.some Jvm.ClassFile.FieldType.boolean) E) {o : Nat} (ho : K o = some (11, 0)) {r : Bool} {w' : Wd} (k : Int32 → Int32 → Int32 → Wd → Option (Bool × Wd)) (hk : ∀ (v1_2 : Int32) (v2_2 : Int32) (v3_2 : Int32) (w : Wd) (H : Heap) (locs : List Loc) (ls : Array Slot), HQ E K z w s H locs → lv_has ls 6 [(1, .int v1_2), (2, .int v2_2), (3, .int v3_2), (0, rv E (some o))] → k v1_2 v2_2 v3_2 w = some (r, w') → W p l e ({ frames := 7, cells := 0, slots := 0, locals := 166 } : Room) s m args below meth c H locs 0 0 (MQ below (QI E K z w' (b2i r)) args s 0 0 (hA E)) (F0 m 88 ls [])) : ∀ (n : Nat) (v1_2 : Int32) (v2_2 : Int32) (v3_2 : Int32) (w : Wd) (H : Heap) (locs : List Loc) (ls : Array Slot), HQ E K z w s H locs → lv_has ls 6 [(1, .int v1_2), (2, .int v2_2), (3, .int v3_2), (0, rv E (some o))] → f_X13_findsOn_L2 K o k n v1_2 v2_2 v3_2 w = some (r, w') → W p l e ({ frames := 7, cells := 0, slots := 0, locals := 166 } : Room) s m args below meth c H locs 0 0 (MQ below (QI E K z w' (b2i r)) args s 0 0 (hA E)) (F0 m 2 ls []) := by
  obtain ⟨hx, hb, hml, hown, hts, hKs, hT, hb0, hlocks, hret⟩ := id C
  intro n
  induction n with
  | zero =>
    intro v1_2 v2_2 v3_2 w H locs ls hH hl hf
    cases hf
  | succ n ih =>
    intro v1_2 v2_2 v3_2 w H locs ls hH hl hf
    rw [f_X13_findsOn_L2] at hf
    refine lv_iload_n hx hb dX13_findsOn_2 rfl (lv_at hl 2 rfl) ?_
    refine hl_aload_n hx hb dX13_findsOn_3 rfl (lv_at hl 3 rfl) ?_
    refine g13_1 hx hb hts hown hKs hH rfl ho m6_182 dX13_findsOn_4 ?_
    refine lv_bipush (v := 100) hx hb dX13_findsOn_7 (by decide) ?_
    refine lv_iload_n hx hb dX13_findsOn_9 rfl (lv_at hl 0 rfl) ?_
    refine lv_iadd hx hb dX13_findsOn_10 ?_
    obtain ⟨a2, ha2, hf⟩ := bnd hf
    replace ha2 := cha_some ha2
    obtain ⟨j3, hj3, hf⟩ := bnd hf
    refine hw_iald hx hb hKs hH ha2.1 ha2.2 hj3 dX13_findsOn_11 ?_
    refine lv_iadd hx hb dX13_findsOn_12 ?_
    refine lv_bipush (v := 8) hx hb dX13_findsOn_13 (by decide) ?_
    refine lv_icmp_gt (tgt := 88) hx hb dX13_findsOn_15 (by decide) (fun c4 => ?_) (fun c4 => ?_)
    · replace hf := (if_pos c4).symm.trans hf
      exact hk v1_2 v2_2 v3_2 _ _ _ _ hH (lv_sub hl [0, 1, 2, 3] rfl) hf
    · replace hf := (if_neg c4).symm.trans hf
      refine lv_iconst (v := 0) hx hb dX13_findsOn_18 (by decide) ?_
      refine lv_istore (i := 4) (lv' := [(4, .int 0), (1, .int v1_2), (2, .int v2_2), (3, .int v3_2), (0, rv E (some o))]) hx hb dX13_findsOn_19 hl (by decide) rfl (fun ls hl => ?_)
      refine l_X13_findsOn_L21  C ho _ (fun v1_21 v2_21 v3_21 v4_21 w5 H locs ls hH hl hf => ?_) fu v1_2 v2_2 v3_2 0 w _ _ _ hH (lv_sub hl [1, 2, 3, 0, 4] rfl) hf
      refine lv_iinc (v := (v3_21 + 1)) (lv' := [(3, .int ((v3_21 + 1))), (1, .int v1_21), (2, .int v2_21), (4, .int v4_21), (0, rv E (some o))]) hx hb dX13_findsOn_82 hl (k := 2) rfl rfl (by decide) rfl (fun ls hl => ?_)
      refine lv_goto (tgt := 2) hx hb dX13_findsOn_85 (by decide) ?_
      exact ih v1_21 v2_21 (v3_21 + 1) _ _ _ _ hH (lv_sub hl [1, 2, 0, 4] rfl) hf
set_option maxHeartbeats 4000000 in
set_option maxRecDepth 100000 in
theorem k_X13_findsOn (l : Launch) (E : Ev) (K : Kd) (z : Nat) (o : Nat) (a_1 : Int32) (a_2 : Int32) (w : Wd) (ho : K o = some (11, 0)) {r : Bool} {w' : Wd} (hf : f_X13_findsOn K o a_1 a_2 w = some (r, w')) : Met l yX13_findsOn (Cond.code yX13_findsOn cX13_findsOn 6 (Option.some Jvm.ClassFile.FieldType.boolean) :: bt) ({ frames := 7, cells := 0, slots := 0, locals := 166 } : Room) (va_Pc [rv E (some o), .int a_1, .int a_2] (HB E K w z)) (QI E K z w' (b2i r)) 0 0 (hA E) := by
  refine Met.ofW (cc := cX13_findsOn) (maxL := 6) (ret := (Option.some Jvm.ClassFile.FieldType.boolean)) (by decide) rfl ?_
  intro p e s m args below meth c s₁ B hml hv
  obtain ⟨rfl, hz, hP, hKs, hT, hb0⟩ := hv
  have C : CX p l e s m _ meth c cX13_findsOn 6 RX13 (Option.some Jvm.ClassFile.FieldType.boolean) E := ⟨B.exec, B.bytes, hml, findClass_of_methodNamed B.named, fun w h => atoms_spec (ws := Cond.code yX13_findsOn cX13_findsOn 6 (Option.some Jvm.ClassFile.FieldType.boolean) :: bt) B.pre w (List.mem_cons_of_mem _ h), hKs, hT, by rw [hz]; exact hb0, B.notSynchronized, B.returns⟩
  have hH : HQ E K z w s s.heap [] := ⟨hP, va_S.rf, hz⟩
  obtain ⟨hx, hb, hml, hown, hts, hKs, hT, hb0, hlocks, hret⟩ := id C
  have hl := lv_entry [rv E (some o), .int a_1, .int a_2] (n := 6) (by simp [lg_len_nil, lg_len_i, lg_len_j, lg_len_q, lg_len_f, lg_len_d, lg_len_r])
  rw [lg_entry_eq]
  generalize (lg_sl [rv E (some o), .int a_1, .int a_2] ++ List.replicate (6 - (lg_sl [rv E (some o), .int a_1, .int a_2]).length) Slot.unset).toArray = ls at hl ⊢
  replace hl : lv_has ls 6 [(0, rv E (some o)), (1, .int a_1), (2, .int a_2)] := by simpa only [lv_args, cat_q, cat_i, cat_j, reduceIte, Nat.reduceEqDiff, Nat.reduceAdd, Nat.zero_add] using hl
  generalize s.heap = H at hH ⊢
  unfold f_X13_findsOn at hf
  refine lv_iconst (v := 0) hx hb dX13_findsOn_0 (by decide) ?_
  refine lv_istore_n (i := 3) (lv' := [(3, .int 0), (0, rv E (some o)), (1, .int a_1), (2, .int a_2)]) hx hb dX13_findsOn_1 rfl hl (by decide) rfl (fun ls hl => ?_)
  refine l_X13_findsOn_L2  C ho _ (fun v1_2 v2_2 v3_2 w1 H locs ls hH hl hf => ?_) fu a_1 a_2 0 w _ _ _ hH (lv_sub hl [2, 3, 0, 1] rfl) hf
  refine lv_iconst (v := 0) hx hb dX13_findsOn_88 (by decide) ?_
  exact hw_zret hx hb hret rfl hf hH hlocks dX13_findsOn_89

theorem dX13_lastDay_0 : decode cX13_lastDay 0 = .ok (.aload_n 0, 1) := by decide +kernel
theorem dX13_lastDay_1 : decode cX13_lastDay 1 = .ok (.iload_n 1, 1) := by decide +kernel
theorem dX13_lastDay_2 : decode cX13_lastDay 2 = .ok (.invokevirtual 144, 3) := by decide +kernel
theorem dX13_lastDay_5 : decode cX13_lastDay 5 = .ok (.istore_n 2, 1) := by decide +kernel
theorem dX13_lastDay_6 : decode cX13_lastDay 6 = .ok (.iload_n 2, 1) := by decide +kernel
theorem dX13_lastDay_7 : decode cX13_lastDay 7 = .ok (.sipush 600, 3) := by decide +kernel
theorem dX13_lastDay_10 : decode cX13_lastDay 10 = .ok (.if_icmp .ge 7, 3) := by decide +kernel
theorem dX13_lastDay_13 : decode cX13_lastDay 13 = .ok (.iload_n 2, 1) := by decide +kernel
theorem dX13_lastDay_14 : decode cX13_lastDay 14 = .ok (.goto 6, 3) := by decide +kernel
theorem dX13_lastDay_17 : decode cX13_lastDay 17 = .ok (.sipush 599, 3) := by decide +kernel
theorem dX13_lastDay_20 : decode cX13_lastDay 20 = .ok (.ireturn, 1) := by decide +kernel
theorem hd_X13_lastDay : yX13_lastDay.cls = RX13 ∧ yX13_lastDay.cls ≠ "java/lang/invoke/MethodHandle" ∧ yX13_lastDay.cls ≠ "java/lang/invoke/VarHandle" ∧ (parseMethodDescriptor yX13_lastDay.desc).map (fun d => d.parameters.length) = some 1 := by decide +kernel
theorem hs_X13_lastDay : yX13_lastDay.cls ≠ "java/lang/invoke/MethodHandle" ∧ yX13_lastDay.cls ≠ "java/lang/invoke/VarHandle" ∧ (parseMethodDescriptor yX13_lastDay.desc).map (fun d => d.parameters.length) = some 1 := by decide +kernel
set_option maxHeartbeats 4000000 in
set_option maxRecDepth 100000 in
theorem k_X13_lastDay (l : Launch) (E : Ev) (K : Kd) (z : Nat) (o : Nat) (a_1 : Int32) (w : Wd) (ho : K o = some (11, 0)) {r : Int32} {w' : Wd} (hf : f_X13_lastDay K o a_1 w = some (r, w')) : Met l yX13_lastDay (Cond.code yX13_lastDay cX13_lastDay 3 (Option.some Jvm.ClassFile.FieldType.int) :: bt) ({ frames := 3, cells := 0, slots := 0, locals := 67 } : Room) (va_Pc [rv E (some o), .int a_1] (HB E K w z)) (QI E K z w' r) 0 0 (hA E) := by
  refine Met.ofW (cc := cX13_lastDay) (maxL := 3) (ret := (Option.some Jvm.ClassFile.FieldType.int)) (by decide) rfl ?_
  intro p e s m args below meth c s₁ B hml hv
  obtain ⟨rfl, hz, hP, hKs, hT, hb0⟩ := hv
  have C : CX p l e s m _ meth c cX13_lastDay 3 RX13 (Option.some Jvm.ClassFile.FieldType.int) E := ⟨B.exec, B.bytes, hml, findClass_of_methodNamed B.named, fun w h => atoms_spec (ws := Cond.code yX13_lastDay cX13_lastDay 3 (Option.some Jvm.ClassFile.FieldType.int) :: bt) B.pre w (List.mem_cons_of_mem _ h), hKs, hT, by rw [hz]; exact hb0, B.notSynchronized, B.returns⟩
  have hH : HQ E K z w s s.heap [] := ⟨hP, va_S.rf, hz⟩
  obtain ⟨hx, hb, hml, hown, hts, hKs, hT, hb0, hlocks, hret⟩ := id C
  have hl := lv_entry [rv E (some o), .int a_1] (n := 3) (by simp [lg_len_nil, lg_len_i, lg_len_j, lg_len_q, lg_len_f, lg_len_d, lg_len_r])
  rw [lg_entry_eq]
  generalize (lg_sl [rv E (some o), .int a_1] ++ List.replicate (3 - (lg_sl [rv E (some o), .int a_1]).length) Slot.unset).toArray = ls at hl ⊢
  replace hl : lv_has ls 3 [(0, rv E (some o)), (1, .int a_1)] := by simpa only [lv_args, cat_q, cat_i, cat_j, reduceIte, Nat.reduceEqDiff, Nat.reduceAdd, Nat.zero_add] using hl
  generalize s.heap = H at hH ⊢
  unfold f_X13_lastDay at hf
  refine hl_aload_n hx hb dX13_lastDay_0 rfl (lv_at hl 0 rfl) ?_
  refine lv_iload_n hx hb dX13_lastDay_1 rfl (lv_at hl 1 rfl) ?_
  obtain ⟨q1, hq1, hf⟩ := bnd hf
  refine hcV_i hx hb hml hown hts hKs hT hb0 hH (As := [.int a_1]) (rest := []) (k_X13_limitDay l E K H.size o a_1 w ho hq1) (gV m7_122 m7_124 ms_53 m1_16 m7_125) hd_X13_limitDay ⟨Nat.le_of_ble_eq_true rfl, Nat.le_of_ble_eq_true rfl, rfl, rfl⟩ rfl ho rfl rfl rfl hl.1 rfl rc0 rfl dX13_lastDay_2 ⟨Nat.zero_le _, Nat.zero_le _⟩ (fun H locs hH => ?_)
  refine lv_istore_n (i := 2) (lv' := [(2, .int (q1.1)), (0, rv E (some o)), (1, .int a_1)]) hx hb dX13_lastDay_5 rfl hl (by decide) rfl (fun ls hl => ?_)
  refine lv_iload_n hx hb dX13_lastDay_6 rfl (lv_at hl 0 rfl) ?_
  refine lv_sipush (v := 600) hx hb dX13_lastDay_7 (by decide) ?_
  refine lv_icmp_ge (tgt := 17) hx hb dX13_lastDay_10 (by decide) (fun c2 => ?_) (fun c2 => ?_)
  · replace hf := (if_pos c2).symm.trans hf
    refine lv_sipush (v := 599) hx hb dX13_lastDay_17 (by decide) ?_
    exact hw_iret hx hb hret hf hH hlocks dX13_lastDay_20
  · replace hf := (if_neg c2).symm.trans hf
    refine lv_iload_n hx hb dX13_lastDay_13 rfl (lv_at hl 0 rfl) ?_
    refine lv_goto (tgt := 20) hx hb dX13_lastDay_14 (by decide) ?_
    exact hw_iret hx hb hret hf hH hlocks dX13_lastDay_20

theorem dX13_finds_0 : decode cX13_finds 0 = .ok (.aload_n 0, 1) := by decide +kernel
theorem dX13_finds_1 : decode cX13_finds 1 = .ok (.iload_n 1, 1) := by decide +kernel
theorem dX13_finds_2 : decode cX13_finds 2 = .ok (.invokevirtual 243, 3) := by decide +kernel
theorem dX13_finds_5 : decode cX13_finds 5 = .ok (.istore_n 2, 1) := by decide +kernel
theorem dX13_finds_6 : decode cX13_finds 6 = .ok (.aload_n 0, 1) := by decide +kernel
theorem dX13_finds_7 : decode cX13_finds 7 = .ok (.getfield 16, 3) := by decide +kernel
theorem dX13_finds_10 : decode cX13_finds 10 = .ok (.iconst 0, 1) := by decide +kernel
theorem dX13_finds_11 : decode cX13_finds 11 = .ok (.iaload, 1) := by decide +kernel
theorem dX13_finds_12 : decode cX13_finds 12 = .ok (.istore_n 3, 1) := by decide +kernel
theorem dX13_finds_13 : decode cX13_finds 13 = .ok (.iload_n 3, 1) := by decide +kernel
theorem dX13_finds_14 : decode cX13_finds 14 = .ok (.iload_n 2, 1) := by decide +kernel
theorem dX13_finds_15 : decode cX13_finds 15 = .ok (.if_icmp .gt 29, 3) := by decide +kernel
theorem dX13_finds_18 : decode cX13_finds 18 = .ok (.aload_n 0, 1) := by decide +kernel
theorem dX13_finds_19 : decode cX13_finds 19 = .ok (.iload_n 1, 1) := by decide +kernel
theorem dX13_finds_20 : decode cX13_finds 20 = .ok (.iload_n 3, 1) := by decide +kernel
theorem dX13_finds_21 : decode cX13_finds 21 = .ok (.invokevirtual 193, 3) := by decide +kernel
theorem dX13_finds_24 : decode cX13_finds 24 = .ok (.ifCond .ne 14, 3) := by decide +kernel
theorem dX13_finds_27 : decode cX13_finds 27 = .ok (.aload_n 0, 1) := by decide +kernel
theorem dX13_finds_28 : decode cX13_finds 28 = .ok (.iload_n 1, 1) := by decide +kernel
theorem dX13_finds_29 : decode cX13_finds 29 = .ok (.iload_n 3, 1) := by decide +kernel
theorem dX13_finds_30 : decode cX13_finds 30 = .ok (.invokevirtual 246, 3) := by decide +kernel
theorem dX13_finds_33 : decode cX13_finds 33 = .ok (.ifCond .eq 5, 3) := by decide +kernel
theorem dX13_finds_36 : decode cX13_finds 36 = .ok (.iconst 1, 1) := by decide +kernel
theorem dX13_finds_37 : decode cX13_finds 37 = .ok (.ireturn, 1) := by decide +kernel
theorem dX13_finds_38 : decode cX13_finds 38 = .ok (.iinc 3 1, 3) := by decide +kernel
theorem dX13_finds_41 : decode cX13_finds 41 = .ok (.goto (-28), 3) := by decide +kernel
theorem dX13_finds_44 : decode cX13_finds 44 = .ok (.iconst 0, 1) := by decide +kernel
theorem dX13_finds_45 : decode cX13_finds 45 = .ok (.ireturn, 1) := by decide +kernel
theorem hd_X13_finds : yX13_finds.cls = RX13 ∧ yX13_finds.cls ≠ "java/lang/invoke/MethodHandle" ∧ yX13_finds.cls ≠ "java/lang/invoke/VarHandle" ∧ (parseMethodDescriptor yX13_finds.desc).map (fun d => d.parameters.length) = some 1 := by decide +kernel
theorem hs_X13_finds : yX13_finds.cls ≠ "java/lang/invoke/MethodHandle" ∧ yX13_finds.cls ≠ "java/lang/invoke/VarHandle" ∧ (parseMethodDescriptor yX13_finds.desc).map (fun d => d.parameters.length) = some 1 := by decide +kernel
set_option maxHeartbeats 4000000 in
set_option maxRecDepth 100000 in
theorem l_X13_finds_L13 (C : CX p l e s m args meth c cX13_finds 4 RX13 (Option.some Jvm.ClassFile.FieldType.boolean) E) {o : Nat} (ho : K o = some (11, 0)) {r : Bool} {w' : Wd} (k : Int32 → Int32 → Int32 → Wd → Option (Bool × Wd)) (hk : ∀ (v1_13 : Int32) (v2_13 : Int32) (v3_13 : Int32) (w : Wd) (H : Heap) (locs : List Loc) (ls : Array Slot), HQ E K z w s H locs → lv_has ls 4 [(1, .int v1_13), (2, .int v2_13), (3, .int v3_13), (0, rv E (some o))] → k v1_13 v2_13 v3_13 w = some (r, w') → W p l e ({ frames := 8, cells := 0, slots := 0, locals := 191 } : Room) s m args below meth c H locs 0 0 (MQ below (QI E K z w' (b2i r)) args s 0 0 (hA E)) (F0 m 44 ls [])) : ∀ (n : Nat) (v1_13 : Int32) (v2_13 : Int32) (v3_13 : Int32) (w : Wd) (H : Heap) (locs : List Loc) (ls : Array Slot), HQ E K z w s H locs → lv_has ls 4 [(1, .int v1_13), (2, .int v2_13), (3, .int v3_13), (0, rv E (some o))] → f_X13_finds_L13 K o k n v1_13 v2_13 v3_13 w = some (r, w') → W p l e ({ frames := 8, cells := 0, slots := 0, locals := 191 } : Room) s m args below meth c H locs 0 0 (MQ below (QI E K z w' (b2i r)) args s 0 0 (hA E)) (F0 m 13 ls []) := by
  obtain ⟨hx, hb, hml, hown, hts, hKs, hT, hb0, hlocks, hret⟩ := id C
  intro n
  induction n with
  | zero =>
    intro v1_13 v2_13 v3_13 w H locs ls hH hl hf
    cases hf
  | succ n ih =>
    intro v1_13 v2_13 v3_13 w H locs ls hH hl hf
    rw [f_X13_finds_L13] at hf
    refine lv_iload_n hx hb dX13_finds_13 rfl (lv_at hl 2 rfl) ?_
    refine lv_iload_n hx hb dX13_finds_14 rfl (lv_at hl 1 rfl) ?_
    refine lv_icmp_gt (tgt := 44) hx hb dX13_finds_15 (by decide) (fun c5 => ?_) (fun c5 => ?_)
    · replace hf := (if_pos c5).symm.trans hf
      exact hk v1_13 v2_13 v3_13 _ _ _ _ hH (lv_sub hl [0, 1, 2, 3] rfl) hf
    · replace hf := (if_neg c5).symm.trans hf
      refine hl_aload_n hx hb dX13_finds_18 rfl (lv_at hl 3 rfl) ?_
      refine lv_iload_n hx hb dX13_finds_19 rfl (lv_at hl 0 rfl) ?_
      refine lv_iload_n hx hb dX13_finds_20 rfl (lv_at hl 2 rfl) ?_
      obtain ⟨q6, hq6, hf⟩ := bnd hf
      refine hcV_i hx hb hml hown hts hKs hT hb0 hH (As := [.int v1_13, .int v3_13]) (rest := []) (k_X13_isDayOut l E K H.size o v1_13 v3_13 w ho hq6) (gV m7_195 m7_197 ms_64 m1_16 m7_198) hd_X13_isDayOut ⟨Nat.le_of_ble_eq_true rfl, Nat.le_of_ble_eq_true rfl, rfl, rfl⟩ rfl ho rfl rfl rfl hl.1 rfl rc0 rfl dX13_finds_21 ⟨Nat.zero_le _, Nat.zero_le _⟩ (fun H locs hH => ?_)
      refine lv_if_ne (tgt := 38) hx hb dX13_finds_24 (by decide) (fun c7 => ?_) (fun c7 => ?_)
      · replace hf := (if_neg c7).symm.trans hf
        refine lv_iinc (v := (v3_13 + 1)) (lv' := [(3, .int ((v3_13 + 1))), (1, .int v1_13), (2, .int v2_13), (0, rv E (some o))]) hx hb dX13_finds_38 hl (k := 2) rfl rfl (by decide) rfl (fun ls hl => ?_)
        refine lv_goto (tgt := 13) hx hb dX13_finds_41 (by decide) ?_
        exact ih v1_13 v2_13 (v3_13 + 1) _ _ _ _ hH (lv_sub hl [1, 2, 0, 3] rfl) hf
      · replace hf := (if_pos c7).symm.trans hf
        refine hl_aload_n hx hb dX13_finds_27 rfl (lv_at hl 3 rfl) ?_
        refine lv_iload_n hx hb dX13_finds_28 rfl (lv_at hl 0 rfl) ?_
        refine lv_iload_n hx hb dX13_finds_29 rfl (lv_at hl 2 rfl) ?_
        obtain ⟨q8, hq8, hf⟩ := bnd hf
        refine hcV_i hx hb hml hown hts hKs hT hb0 hH (As := [.int v1_13, .int v3_13]) (rest := []) (k_X13_findsOn l E K H.size o v1_13 v3_13 q6.2 ho hq8) (gV m8_6 m8_8 ms_75 m1_16 m8_9) hd_X13_findsOn ⟨Nat.le_of_ble_eq_true rfl, Nat.le_of_ble_eq_true rfl, rfl, rfl⟩ rfl ho rfl rfl rfl hl.1 rfl rc0 rfl dX13_finds_30 ⟨Nat.zero_le _, Nat.zero_le _⟩ (fun H locs hH => ?_)
        refine lv_if_eq (tgt := 38) hx hb dX13_finds_33 (by decide) (fun c9 => ?_) (fun c9 => ?_)
        · replace hf := (if_pos c9).symm.trans hf
          refine lv_iinc (v := (v3_13 + 1)) (lv' := [(3, .int ((v3_13 + 1))), (1, .int v1_13), (2, .int v2_13), (0, rv E (some o))]) hx hb dX13_finds_38 hl (k := 2) rfl rfl (by decide) rfl (fun ls hl => ?_)
          refine lv_goto (tgt := 13) hx hb dX13_finds_41 (by decide) ?_
          exact ih v1_13 v2_13 (v3_13 + 1) _ _ _ _ hH (lv_sub hl [1, 2, 0, 3] rfl) hf
        · replace hf := (if_neg c9).symm.trans hf
          refine lv_iconst (v := 1) hx hb dX13_finds_36 (by decide) ?_
          exact hw_zret hx hb hret rfl hf hH hlocks dX13_finds_37
set_option maxHeartbeats 4000000 in
set_option maxRecDepth 100000 in
theorem k_X13_finds (l : Launch) (E : Ev) (K : Kd) (z : Nat) (o : Nat) (a_1 : Int32) (w : Wd) (ho : K o = some (11, 0)) {r : Bool} {w' : Wd} (hf : f_X13_finds K o a_1 w = some (r, w')) : Met l yX13_finds (Cond.code yX13_finds cX13_finds 4 (Option.some Jvm.ClassFile.FieldType.boolean) :: bt) ({ frames := 8, cells := 0, slots := 0, locals := 191 } : Room) (va_Pc [rv E (some o), .int a_1] (HB E K w z)) (QI E K z w' (b2i r)) 0 0 (hA E) := by
  refine Met.ofW (cc := cX13_finds) (maxL := 4) (ret := (Option.some Jvm.ClassFile.FieldType.boolean)) (by decide) rfl ?_
  intro p e s m args below meth c s₁ B hml hv
  obtain ⟨rfl, hz, hP, hKs, hT, hb0⟩ := hv
  have C : CX p l e s m _ meth c cX13_finds 4 RX13 (Option.some Jvm.ClassFile.FieldType.boolean) E := ⟨B.exec, B.bytes, hml, findClass_of_methodNamed B.named, fun w h => atoms_spec (ws := Cond.code yX13_finds cX13_finds 4 (Option.some Jvm.ClassFile.FieldType.boolean) :: bt) B.pre w (List.mem_cons_of_mem _ h), hKs, hT, by rw [hz]; exact hb0, B.notSynchronized, B.returns⟩
  have hH : HQ E K z w s s.heap [] := ⟨hP, va_S.rf, hz⟩
  obtain ⟨hx, hb, hml, hown, hts, hKs, hT, hb0, hlocks, hret⟩ := id C
  have hl := lv_entry [rv E (some o), .int a_1] (n := 4) (by simp [lg_len_nil, lg_len_i, lg_len_j, lg_len_q, lg_len_f, lg_len_d, lg_len_r])
  rw [lg_entry_eq]
  generalize (lg_sl [rv E (some o), .int a_1] ++ List.replicate (4 - (lg_sl [rv E (some o), .int a_1]).length) Slot.unset).toArray = ls at hl ⊢
  replace hl : lv_has ls 4 [(0, rv E (some o)), (1, .int a_1)] := by simpa only [lv_args, cat_q, cat_i, cat_j, reduceIte, Nat.reduceEqDiff, Nat.reduceAdd, Nat.zero_add] using hl
  generalize s.heap = H at hH ⊢
  unfold f_X13_finds at hf
  refine hl_aload_n hx hb dX13_finds_0 rfl (lv_at hl 0 rfl) ?_
  refine lv_iload_n hx hb dX13_finds_1 rfl (lv_at hl 1 rfl) ?_
  obtain ⟨q1, hq1, hf⟩ := bnd hf
  refine hcV_i hx hb hml hown hts hKs hT hb0 hH (As := [.int a_1]) (rest := []) (k_X13_lastDay l E K H.size o a_1 w ho hq1) (gV m8_2 m8_4 ms_74 m1_16 m8_5) hd_X13_lastDay ⟨Nat.le_of_ble_eq_true rfl, Nat.le_of_ble_eq_true rfl, rfl, rfl⟩ rfl ho rfl rfl rfl hl.1 rfl rc0 rfl dX13_finds_2 ⟨Nat.zero_le _, Nat.zero_le _⟩ (fun H locs hH => ?_)
  refine lv_istore_n (i := 2) (lv' := [(2, .int (q1.1)), (0, rv E (some o)), (1, .int a_1)]) hx hb dX13_finds_5 rfl hl (by decide) rfl (fun ls hl => ?_)
  refine hl_aload_n hx hb dX13_finds_6 rfl (lv_at hl 1 rfl) ?_
  refine g13_3 hx hb hts hown hKs hH rfl ho m6_184 dX13_finds_7 ?_
  refine lv_iconst (v := 0) hx hb dX13_finds_10 (by decide) ?_
  obtain ⟨a2, ha2, hf⟩ := bnd hf
  replace ha2 := cha_some ha2
  obtain ⟨j3, hj3, hf⟩ := bnd hf
  refine hw_iald hx hb hKs hH ha2.1 ha2.2 hj3 dX13_finds_11 ?_
  refine lv_istore_n (i := 3) (lv' := [(3, .int ((aI q1.2 a2.1 j3))), (2, .int (q1.1)), (0, rv E (some o)), (1, .int a_1)]) hx hb dX13_finds_12 rfl hl (by decide) rfl (fun ls hl => ?_)
  refine l_X13_finds_L13  C ho _ (fun v1_13 v2_13 v3_13 w4 H locs ls hH hl hf => ?_) fu a_1 q1.1 (aI q1.2 a2.1 j3) q1.2 _ _ _ hH (lv_sub hl [3, 1, 0, 2] rfl) hf
  refine lv_iconst (v := 0) hx hb dX13_finds_44 (by decide) ?_
  exact hw_zret hx hb hret rfl hf hH hlocks dX13_finds_45

theorem dX13_opening_0 : decode cX13_opening 0 = .ok (.aload_n 0, 1) := by decide +kernel
theorem dX13_opening_1 : decode cX13_opening 1 = .ok (.aload_n 0, 1) := by decide +kernel
theorem dX13_opening_2 : decode cX13_opening 2 = .ok (.iload_n 1, 1) := by decide +kernel
theorem dX13_opening_3 : decode cX13_opening 3 = .ok (.invokevirtual 148, 3) := by decide +kernel
theorem dX13_opening_6 : decode cX13_opening 6 = .ok (.ifCond .eq 19, 3) := by decide +kernel
theorem dX13_opening_9 : decode cX13_opening 9 = .ok (.iload_n 2, 1) := by decide +kernel
theorem dX13_opening_10 : decode cX13_opening 10 = .ok (.i2l, 1) := by decide +kernel
theorem dX13_opening_11 : decode cX13_opening 11 = .ok (.lconst 0, 1) := by decide +kernel
theorem dX13_opening_12 : decode cX13_opening 12 = .ok (.ldc2_w 162, 3) := by decide +kernel
theorem dX13_opening_15 : decode cX13_opening 15 = .ok (.invokestatic 123, 3) := by decide +kernel
theorem dX13_opening_18 : decode cX13_opening 18 = .ok (.ifCond .eq 7, 3) := by decide +kernel
theorem dX13_opening_21 : decode cX13_opening 21 = .ok (.iconst 1, 1) := by decide +kernel
theorem dX13_opening_22 : decode cX13_opening 22 = .ok (.goto 4, 3) := by decide +kernel
theorem dX13_opening_25 : decode cX13_opening 25 = .ok (.iconst 0, 1) := by decide +kernel
theorem dX13_opening_26 : decode cX13_opening 26 = .ok (.invokevirtual 110, 3) := by decide +kernel
theorem dX13_opening_29 : decode cX13_opening 29 = .ok (.ifCond .eq 16, 3) := by decide +kernel
theorem dX13_opening_32 : decode cX13_opening 32 = .ok (.aload_n 0, 1) := by decide +kernel
theorem dX13_opening_33 : decode cX13_opening 33 = .ok (.aload_n 0, 1) := by decide +kernel
theorem dX13_opening_34 : decode cX13_opening 34 = .ok (.iload_n 1, 1) := by decide +kernel
theorem dX13_opening_35 : decode cX13_opening 35 = .ok (.invokevirtual 218, 3) := by decide +kernel
theorem dX13_opening_38 : decode cX13_opening 38 = .ok (.iconst 2, 1) := by decide +kernel
theorem dX13_opening_39 : decode cX13_opening 39 = .ok (.invokevirtual 214, 3) := by decide +kernel
theorem dX13_opening_42 : decode cX13_opening 42 = .ok (.ifCond .ne 5, 3) := by decide +kernel
theorem dX13_opening_45 : decode cX13_opening 45 = .ok (.iconst 0, 1) := by decide +kernel
theorem dX13_opening_46 : decode cX13_opening 46 = .ok (.ireturn, 1) := by decide +kernel
theorem dX13_opening_47 : decode cX13_opening 47 = .ok (.aload_n 0, 1) := by decide +kernel
theorem dX13_opening_48 : decode cX13_opening 48 = .ok (.iload_n 1, 1) := by decide +kernel
theorem dX13_opening_49 : decode cX13_opening 49 = .ok (.invokevirtual 249, 3) := by decide +kernel
theorem dX13_opening_52 : decode cX13_opening 52 = .ok (.ifCond .ne 5, 3) := by decide +kernel
theorem dX13_opening_55 : decode cX13_opening 55 = .ok (.iconst (-1), 1) := by decide +kernel
theorem dX13_opening_56 : decode cX13_opening 56 = .ok (.ireturn, 1) := by decide +kernel
theorem dX13_opening_57 : decode cX13_opening 57 = .ok (.iload_n 2, 1) := by decide +kernel
theorem dX13_opening_58 : decode cX13_opening 58 = .ok (.tableswitch 41 0 2 #[26, 31, 36], 26) := by decide +kernel
theorem dX13_opening_84 : decode cX13_opening 84 = .ok (.aload_n 0, 1) := by decide +kernel
theorem dX13_opening_85 : decode cX13_opening 85 = .ok (.getfield 231, 3) := by decide +kernel
theorem dX13_opening_88 : decode cX13_opening 88 = .ok (.ireturn, 1) := by decide +kernel
theorem dX13_opening_89 : decode cX13_opening 89 = .ok (.aload_n 0, 1) := by decide +kernel
theorem dX13_opening_90 : decode cX13_opening 90 = .ok (.getfield 234, 3) := by decide +kernel
theorem dX13_opening_93 : decode cX13_opening 93 = .ok (.ireturn, 1) := by decide +kernel
theorem dX13_opening_94 : decode cX13_opening 94 = .ok (.aload_n 0, 1) := by decide +kernel
theorem dX13_opening_95 : decode cX13_opening 95 = .ok (.getfield 237, 3) := by decide +kernel
theorem dX13_opening_98 : decode cX13_opening 98 = .ok (.ireturn, 1) := by decide +kernel
theorem dX13_opening_99 : decode cX13_opening 99 = .ok (.aload_n 0, 1) := by decide +kernel
theorem dX13_opening_100 : decode cX13_opening 100 = .ok (.getfield 240, 3) := by decide +kernel
theorem dX13_opening_103 : decode cX13_opening 103 = .ok (.ireturn, 1) := by decide +kernel
theorem hd_X13_opening : yX13_opening.cls = RX13 ∧ yX13_opening.cls ≠ "java/lang/invoke/MethodHandle" ∧ yX13_opening.cls ≠ "java/lang/invoke/VarHandle" ∧ (parseMethodDescriptor yX13_opening.desc).map (fun d => d.parameters.length) = some 2 := by decide +kernel
theorem hs_X13_opening : yX13_opening.cls ≠ "java/lang/invoke/MethodHandle" ∧ yX13_opening.cls ≠ "java/lang/invoke/VarHandle" ∧ (parseMethodDescriptor yX13_opening.desc).map (fun d => d.parameters.length) = some 2 := by decide +kernel
set_option maxHeartbeats 4000000 in
set_option maxRecDepth 100000 in
theorem k_X13_opening (l : Launch) (E : Ev) (K : Kd) (z : Nat) (o : Nat) (a_1 : Int32) (a_2 : Int32) (w : Wd) (ho : K o = some (11, 0)) {r : Int32} {w' : Wd} (hf : f_X13_opening K o a_1 a_2 w = some (r, w')) : Met l yX13_opening (Cond.code yX13_opening cX13_opening 3 (Option.some Jvm.ClassFile.FieldType.int) :: bt) ({ frames := 9, cells := 0, slots := 0, locals := 214 } : Room) (va_Pc [rv E (some o), .int a_1, .int a_2] (HB E K w z)) (QI E K z w' r) 0 0 (hA E) := by
  refine Met.ofW (cc := cX13_opening) (maxL := 3) (ret := (Option.some Jvm.ClassFile.FieldType.int)) (by decide) rfl ?_
  intro p e s m args below meth c s₁ B hml hv
  obtain ⟨rfl, hz, hP, hKs, hT, hb0⟩ := hv
  have C : CX p l e s m _ meth c cX13_opening 3 RX13 (Option.some Jvm.ClassFile.FieldType.int) E := ⟨B.exec, B.bytes, hml, findClass_of_methodNamed B.named, fun w h => atoms_spec (ws := Cond.code yX13_opening cX13_opening 3 (Option.some Jvm.ClassFile.FieldType.int) :: bt) B.pre w (List.mem_cons_of_mem _ h), hKs, hT, by rw [hz]; exact hb0, B.notSynchronized, B.returns⟩
  have hH : HQ E K z w s s.heap [] := ⟨hP, va_S.rf, hz⟩
  obtain ⟨hx, hb, hml, hown, hts, hKs, hT, hb0, hlocks, hret⟩ := id C
  have hl := lv_entry [rv E (some o), .int a_1, .int a_2] (n := 3) (by simp [lg_len_nil, lg_len_i, lg_len_j, lg_len_q, lg_len_f, lg_len_d, lg_len_r])
  rw [lg_entry_eq]
  generalize (lg_sl [rv E (some o), .int a_1, .int a_2] ++ List.replicate (3 - (lg_sl [rv E (some o), .int a_1, .int a_2]).length) Slot.unset).toArray = ls at hl ⊢
  replace hl : lv_has ls 3 [(0, rv E (some o)), (1, .int a_1), (2, .int a_2)] := by simpa only [lv_args, cat_q, cat_i, cat_j, reduceIte, Nat.reduceEqDiff, Nat.reduceAdd, Nat.zero_add] using hl
  generalize s.heap = H at hH ⊢
  unfold f_X13_opening at hf
  refine hl_aload_n hx hb dX13_opening_0 rfl (lv_at hl 0 rfl) ?_
  refine hl_aload_n hx hb dX13_opening_1 rfl (lv_at hl 0 rfl) ?_
  refine lv_iload_n hx hb dX13_opening_2 rfl (lv_at hl 1 rfl) ?_
  obtain ⟨q1, hq1, hf⟩ := bnd hf
  refine hcV_i hx hb hml hown hts hKs hT hb0 hH (As := [.int a_1]) (rest := [rv E (some o)]) (k_X13_isCase l E K H.size o a_1 w ho hq1) (gV m7_114 m7_116 ms_51 m1_16 m7_117) hd_X13_isCase ⟨Nat.le_of_ble_eq_true rfl, Nat.le_of_ble_eq_true rfl, rfl, rfl⟩ rfl ho rfl rfl rfl hl.1 rfl (rcV rc0) rfl dX13_opening_3 ⟨Nat.zero_le _, Nat.zero_le _⟩ (fun H locs hH => ?_)
  refine lv_if_eq (tgt := 25) hx hb dX13_opening_6 (by decide) (fun c2 => ?_) (fun c2 => ?_)
  · replace hf := (if_pos c2).symm.trans hf
    refine lv_iconst (v := 0) hx hb dX13_opening_25 (by decide) ?_
    obtain ⟨q3, hq3, hf⟩ := bnd hf
    refine hcV_i hx hb hml hown hts hKs hT hb0 hH (As := [.int 0]) (rest := []) (k_X13_is l E K H.size o false q1.2 ho hq3) (gV m7_68 m7_70 ms_47 m1_16 m7_71) hd_X13_is ⟨Nat.le_of_ble_eq_true rfl, Nat.le_of_ble_eq_true rfl, rfl, rfl⟩ rfl ho rfl rfl rfl hl.1 rfl rc0 rfl dX13_opening_26 ⟨Nat.zero_le _, Nat.zero_le _⟩ (fun H locs hH => ?_)
    refine lv_if_eq (tgt := 45) hx hb dX13_opening_29 (by decide) (fun c4 => ?_) (fun c4 => ?_)
    · replace hf := (if_pos c4).symm.trans hf
      refine lv_iconst (v := 0) hx hb dX13_opening_45 (by decide) ?_
      exact hw_iret hx hb hret hf hH hlocks dX13_opening_46
    · replace hf := (if_neg c4).symm.trans hf
      refine hl_aload_n hx hb dX13_opening_32 rfl (lv_at hl 0 rfl) ?_
      refine hl_aload_n hx hb dX13_opening_33 rfl (lv_at hl 0 rfl) ?_
      refine lv_iload_n hx hb dX13_opening_34 rfl (lv_at hl 1 rfl) ?_
      obtain ⟨q5, hq5, hf⟩ := bnd hf
      refine hcV_i hx hb hml hown hts hKs hT hb0 hH (As := [.int a_1]) (rest := [rv E (some o)]) (k_X13_isOpen l E K H.size o a_1 q3.2 ho hq5) (gV m7_187 m7_189 ms_62 m1_16 m7_190) hd_X13_isOpen ⟨Nat.le_of_ble_eq_true rfl, Nat.le_of_ble_eq_true rfl, rfl, rfl⟩ rfl ho rfl rfl rfl hl.1 rfl (rcV rc0) rfl dX13_opening_35 ⟨Nat.zero_le _, Nat.zero_le _⟩ (fun H locs hH => ?_)
      refine lv_iconst (v := 2) hx hb dX13_opening_38 (by decide) ?_
      obtain ⟨q6, hq6, hf⟩ := bnd hf
      refine hcV_i hx hb hml hown hts hKs hT hb0 hH (As := [.int (b2i q5.1), .int 2]) (rest := []) (k_X13_may l E K H.size o q5.1 2 q5.2 ho hq6) (gV m7_183 m7_185 ms_61 m1_16 m7_186) hd_X13_may ⟨Nat.le_of_ble_eq_true rfl, Nat.le_of_ble_eq_true rfl, rfl, rfl⟩ rfl ho rfl rfl rfl hl.1 rfl rc0 rfl dX13_opening_39 ⟨Nat.zero_le _, Nat.zero_le _⟩ (fun H locs hH => ?_)
      refine lv_if_ne (tgt := 47) hx hb dX13_opening_42 (by decide) (fun c7 => ?_) (fun c7 => ?_)
      · replace hf := (if_neg c7).symm.trans hf
        refine hl_aload_n hx hb dX13_opening_47 rfl (lv_at hl 0 rfl) ?_
        refine lv_iload_n hx hb dX13_opening_48 rfl (lv_at hl 1 rfl) ?_
        obtain ⟨q8, hq8, hf⟩ := bnd hf
        refine hcV_i hx hb hml hown hts hKs hT hb0 hH (As := [.int a_1]) (rest := []) (k_X13_finds l E K H.size o a_1 q6.2 ho hq8) (gV m7_238 m8_0 ms_73 m1_16 m8_1) hd_X13_finds ⟨Nat.le_of_ble_eq_true rfl, Nat.le_of_ble_eq_true rfl, rfl, rfl⟩ rfl ho rfl rfl rfl hl.1 rfl rc0 rfl dX13_opening_49 ⟨Nat.zero_le _, Nat.zero_le _⟩ (fun H locs hH => ?_)
        refine lv_if_ne (tgt := 57) hx hb dX13_opening_52 (by decide) (fun c9 => ?_) (fun c9 => ?_)
        · replace hf := (if_neg c9).symm.trans hf
          refine lv_iload_n hx hb dX13_opening_57 rfl (lv_at hl 2 rfl) ?_
          by_cases c10 : (a_2 < 0 ∨ 2 < a_2)
          · replace hf := (if_pos c10).symm.trans hf
            refine hl_tabOut (tgt := 99) hx hb dX13_opening_58 c10 (by decide) (by decide) (by decide) ?_
            refine hl_aload_n hx hb dX13_opening_99 rfl (lv_at hl 0 rfl) ?_
            refine g13_19 hx hb hts hown hKs hH rfl ho m6_200 dX13_opening_100 ?_
            exact hw_iret hx hb hret hf hH hlocks dX13_opening_103
          replace hf := (if_neg c10).symm.trans hf
          by_cases c11 : a_2 = 0
          · replace hf := (if_pos c11).symm.trans hf
            refine hl_tabIn (tgt := 84) hx hb dX13_opening_58 c11 (by decide) (by decide) rfl (by decide) ?_
            refine hl_aload_n hx hb dX13_opening_84 rfl (lv_at hl 0 rfl) ?_
            refine g13_16 hx hb hts hown hKs hH rfl ho m6_197 dX13_opening_85 ?_
            exact hw_iret hx hb hret hf hH hlocks dX13_opening_88
          replace hf := (if_neg c11).symm.trans hf
          by_cases c12 : a_2 = 1
          · replace hf := (if_pos c12).symm.trans hf
            refine hl_tabIn (tgt := 89) hx hb dX13_opening_58 c12 (by decide) (by decide) rfl (by decide) ?_
            refine hl_aload_n hx hb dX13_opening_89 rfl (lv_at hl 0 rfl) ?_
            refine g13_17 hx hb hts hown hKs hH rfl ho m6_198 dX13_opening_90 ?_
            exact hw_iret hx hb hret hf hH hlocks dX13_opening_93
          replace hf := (if_neg c12).symm.trans hf
          by_cases c13 : a_2 = 2
          · replace hf := (if_pos c13).symm.trans hf
            refine hl_tabIn (tgt := 94) hx hb dX13_opening_58 c13 (by decide) (by decide) rfl (by decide) ?_
            refine hl_aload_n hx hb dX13_opening_94 rfl (lv_at hl 0 rfl) ?_
            refine g13_18 hx hb hts hown hKs hH rfl ho m6_199 dX13_opening_95 ?_
            exact hw_iret hx hb hret hf hH hlocks dX13_opening_98
          replace hf := (if_neg c13).symm.trans hf
          cases hf
        · replace hf := (if_pos c9).symm.trans hf
          refine lv_iconst (v := (-1)) hx hb dX13_opening_55 (by decide) ?_
          exact hw_iret hx hb hret hf hH hlocks dX13_opening_56
      · replace hf := (if_pos c7).symm.trans hf
        refine lv_iconst (v := 0) hx hb dX13_opening_45 (by decide) ?_
        exact hw_iret hx hb hret hf hH hlocks dX13_opening_46
  · replace hf := (if_neg c2).symm.trans hf
    refine lv_iload_n hx hb dX13_opening_9 rfl (lv_at hl 2 rfl) ?_
    refine lv_i2l (v := (a_2.toInt64)) hx hb dX13_opening_10 rfl ?_
    refine lv_lconst (v := 0) hx hb dX13_opening_11 rfl ?_
    refine lv_ldc2 (v := 3) hx hb hown (hts _ m7_154) dX13_opening_12 ?_
    obtain ⟨q14, hq14, hf⟩ := bnd hf
    refine hcS_i hx hb hml hown hts hKs hT hb0 hH (As := [.long (a_2.toInt64), .long 0, .long 3]) (rest := [rv E (some o)]) (k_X13_isIn l E K H.size (a_2.toInt64) 0 3 q1.2 hq14) (gS m7_88 m7_89 m1_16 m7_90) hs_X13_isIn ⟨Nat.le_of_ble_eq_true rfl, Nat.le_of_ble_eq_true rfl, rfl, rfl⟩ hl.1 rfl (rcV rc0) rfl dX13_opening_15 ⟨Nat.zero_le _, Nat.zero_le _⟩ (fun H locs hH => ?_)
    refine lv_if_eq (tgt := 25) hx hb dX13_opening_18 (by decide) (fun c15 => ?_) (fun c15 => ?_)
    · replace hf := (if_pos c15).symm.trans hf
      refine lv_iconst (v := 0) hx hb dX13_opening_25 (by decide) ?_
      obtain ⟨q16, hq16, hf⟩ := bnd hf
      refine hcV_i hx hb hml hown hts hKs hT hb0 hH (As := [.int 0]) (rest := []) (k_X13_is l E K H.size o false q14.2 ho hq16) (gV m7_68 m7_70 ms_47 m1_16 m7_71) hd_X13_is ⟨Nat.le_of_ble_eq_true rfl, Nat.le_of_ble_eq_true rfl, rfl, rfl⟩ rfl ho rfl rfl rfl hl.1 rfl rc0 rfl dX13_opening_26 ⟨Nat.zero_le _, Nat.zero_le _⟩ (fun H locs hH => ?_)
      refine lv_if_eq (tgt := 45) hx hb dX13_opening_29 (by decide) (fun c17 => ?_) (fun c17 => ?_)
      · replace hf := (if_pos c17).symm.trans hf
        refine lv_iconst (v := 0) hx hb dX13_opening_45 (by decide) ?_
        exact hw_iret hx hb hret hf hH hlocks dX13_opening_46
      · replace hf := (if_neg c17).symm.trans hf
        refine hl_aload_n hx hb dX13_opening_32 rfl (lv_at hl 0 rfl) ?_
        refine hl_aload_n hx hb dX13_opening_33 rfl (lv_at hl 0 rfl) ?_
        refine lv_iload_n hx hb dX13_opening_34 rfl (lv_at hl 1 rfl) ?_
        obtain ⟨q18, hq18, hf⟩ := bnd hf
        refine hcV_i hx hb hml hown hts hKs hT hb0 hH (As := [.int a_1]) (rest := [rv E (some o)]) (k_X13_isOpen l E K H.size o a_1 q16.2 ho hq18) (gV m7_187 m7_189 ms_62 m1_16 m7_190) hd_X13_isOpen ⟨Nat.le_of_ble_eq_true rfl, Nat.le_of_ble_eq_true rfl, rfl, rfl⟩ rfl ho rfl rfl rfl hl.1 rfl (rcV rc0) rfl dX13_opening_35 ⟨Nat.zero_le _, Nat.zero_le _⟩ (fun H locs hH => ?_)
        refine lv_iconst (v := 2) hx hb dX13_opening_38 (by decide) ?_
        obtain ⟨q19, hq19, hf⟩ := bnd hf
        refine hcV_i hx hb hml hown hts hKs hT hb0 hH (As := [.int (b2i q18.1), .int 2]) (rest := []) (k_X13_may l E K H.size o q18.1 2 q18.2 ho hq19) (gV m7_183 m7_185 ms_61 m1_16 m7_186) hd_X13_may ⟨Nat.le_of_ble_eq_true rfl, Nat.le_of_ble_eq_true rfl, rfl, rfl⟩ rfl ho rfl rfl rfl hl.1 rfl rc0 rfl dX13_opening_39 ⟨Nat.zero_le _, Nat.zero_le _⟩ (fun H locs hH => ?_)
        refine lv_if_ne (tgt := 47) hx hb dX13_opening_42 (by decide) (fun c20 => ?_) (fun c20 => ?_)
        · replace hf := (if_neg c20).symm.trans hf
          refine hl_aload_n hx hb dX13_opening_47 rfl (lv_at hl 0 rfl) ?_
          refine lv_iload_n hx hb dX13_opening_48 rfl (lv_at hl 1 rfl) ?_
          obtain ⟨q21, hq21, hf⟩ := bnd hf
          refine hcV_i hx hb hml hown hts hKs hT hb0 hH (As := [.int a_1]) (rest := []) (k_X13_finds l E K H.size o a_1 q19.2 ho hq21) (gV m7_238 m8_0 ms_73 m1_16 m8_1) hd_X13_finds ⟨Nat.le_of_ble_eq_true rfl, Nat.le_of_ble_eq_true rfl, rfl, rfl⟩ rfl ho rfl rfl rfl hl.1 rfl rc0 rfl dX13_opening_49 ⟨Nat.zero_le _, Nat.zero_le _⟩ (fun H locs hH => ?_)
          refine lv_if_ne (tgt := 57) hx hb dX13_opening_52 (by decide) (fun c22 => ?_) (fun c22 => ?_)
          · replace hf := (if_neg c22).symm.trans hf
            refine lv_iload_n hx hb dX13_opening_57 rfl (lv_at hl 2 rfl) ?_
            by_cases c23 : (a_2 < 0 ∨ 2 < a_2)
            · replace hf := (if_pos c23).symm.trans hf
              refine hl_tabOut (tgt := 99) hx hb dX13_opening_58 c23 (by decide) (by decide) (by decide) ?_
              refine hl_aload_n hx hb dX13_opening_99 rfl (lv_at hl 0 rfl) ?_
              refine g13_19 hx hb hts hown hKs hH rfl ho m6_200 dX13_opening_100 ?_
              exact hw_iret hx hb hret hf hH hlocks dX13_opening_103
            replace hf := (if_neg c23).symm.trans hf
            by_cases c24 : a_2 = 0
            · replace hf := (if_pos c24).symm.trans hf
              refine hl_tabIn (tgt := 84) hx hb dX13_opening_58 c24 (by decide) (by decide) rfl (by decide) ?_
              refine hl_aload_n hx hb dX13_opening_84 rfl (lv_at hl 0 rfl) ?_
              refine g13_16 hx hb hts hown hKs hH rfl ho m6_197 dX13_opening_85 ?_
              exact hw_iret hx hb hret hf hH hlocks dX13_opening_88
            replace hf := (if_neg c24).symm.trans hf
            by_cases c25 : a_2 = 1
            · replace hf := (if_pos c25).symm.trans hf
              refine hl_tabIn (tgt := 89) hx hb dX13_opening_58 c25 (by decide) (by decide) rfl (by decide) ?_
              refine hl_aload_n hx hb dX13_opening_89 rfl (lv_at hl 0 rfl) ?_
              refine g13_17 hx hb hts hown hKs hH rfl ho m6_198 dX13_opening_90 ?_
              exact hw_iret hx hb hret hf hH hlocks dX13_opening_93
            replace hf := (if_neg c25).symm.trans hf
            by_cases c26 : a_2 = 2
            · replace hf := (if_pos c26).symm.trans hf
              refine hl_tabIn (tgt := 94) hx hb dX13_opening_58 c26 (by decide) (by decide) rfl (by decide) ?_
              refine hl_aload_n hx hb dX13_opening_94 rfl (lv_at hl 0 rfl) ?_
              refine g13_18 hx hb hts hown hKs hH rfl ho m6_199 dX13_opening_95 ?_
              exact hw_iret hx hb hret hf hH hlocks dX13_opening_98
            replace hf := (if_neg c26).symm.trans hf
            cases hf
          · replace hf := (if_pos c22).symm.trans hf
            refine lv_iconst (v := (-1)) hx hb dX13_opening_55 (by decide) ?_
            exact hw_iret hx hb hret hf hH hlocks dX13_opening_56
        · replace hf := (if_pos c20).symm.trans hf
          refine lv_iconst (v := 0) hx hb dX13_opening_45 (by decide) ?_
          exact hw_iret hx hb hret hf hH hlocks dX13_opening_46
    · replace hf := (if_neg c15).symm.trans hf
      refine lv_iconst (v := 1) hx hb dX13_opening_21 (by decide) ?_
      refine lv_goto (tgt := 26) hx hb dX13_opening_22 (by decide) ?_
      obtain ⟨q27, hq27, hf⟩ := bnd hf
      refine hcV_i hx hb hml hown hts hKs hT hb0 hH (As := [.int 1]) (rest := []) (k_X13_is l E K H.size o true q14.2 ho hq27) (gV m7_68 m7_70 ms_47 m1_16 m7_71) hd_X13_is ⟨Nat.le_of_ble_eq_true rfl, Nat.le_of_ble_eq_true rfl, rfl, rfl⟩ rfl ho rfl rfl rfl hl.1 rfl rc0 rfl dX13_opening_26 ⟨Nat.zero_le _, Nat.zero_le _⟩ (fun H locs hH => ?_)
      refine lv_if_eq (tgt := 45) hx hb dX13_opening_29 (by decide) (fun c28 => ?_) (fun c28 => ?_)
      · replace hf := (if_pos c28).symm.trans hf
        refine lv_iconst (v := 0) hx hb dX13_opening_45 (by decide) ?_
        exact hw_iret hx hb hret hf hH hlocks dX13_opening_46
      · replace hf := (if_neg c28).symm.trans hf
        refine hl_aload_n hx hb dX13_opening_32 rfl (lv_at hl 0 rfl) ?_
        refine hl_aload_n hx hb dX13_opening_33 rfl (lv_at hl 0 rfl) ?_
        refine lv_iload_n hx hb dX13_opening_34 rfl (lv_at hl 1 rfl) ?_
        obtain ⟨q29, hq29, hf⟩ := bnd hf
        refine hcV_i hx hb hml hown hts hKs hT hb0 hH (As := [.int a_1]) (rest := [rv E (some o)]) (k_X13_isOpen l E K H.size o a_1 q27.2 ho hq29) (gV m7_187 m7_189 ms_62 m1_16 m7_190) hd_X13_isOpen ⟨Nat.le_of_ble_eq_true rfl, Nat.le_of_ble_eq_true rfl, rfl, rfl⟩ rfl ho rfl rfl rfl hl.1 rfl (rcV rc0) rfl dX13_opening_35 ⟨Nat.zero_le _, Nat.zero_le _⟩ (fun H locs hH => ?_)
        refine lv_iconst (v := 2) hx hb dX13_opening_38 (by decide) ?_
        obtain ⟨q30, hq30, hf⟩ := bnd hf
        refine hcV_i hx hb hml hown hts hKs hT hb0 hH (As := [.int (b2i q29.1), .int 2]) (rest := []) (k_X13_may l E K H.size o q29.1 2 q29.2 ho hq30) (gV m7_183 m7_185 ms_61 m1_16 m7_186) hd_X13_may ⟨Nat.le_of_ble_eq_true rfl, Nat.le_of_ble_eq_true rfl, rfl, rfl⟩ rfl ho rfl rfl rfl hl.1 rfl rc0 rfl dX13_opening_39 ⟨Nat.zero_le _, Nat.zero_le _⟩ (fun H locs hH => ?_)
        refine lv_if_ne (tgt := 47) hx hb dX13_opening_42 (by decide) (fun c31 => ?_) (fun c31 => ?_)
        · replace hf := (if_neg c31).symm.trans hf
          refine hl_aload_n hx hb dX13_opening_47 rfl (lv_at hl 0 rfl) ?_
          refine lv_iload_n hx hb dX13_opening_48 rfl (lv_at hl 1 rfl) ?_
          obtain ⟨q32, hq32, hf⟩ := bnd hf
          refine hcV_i hx hb hml hown hts hKs hT hb0 hH (As := [.int a_1]) (rest := []) (k_X13_finds l E K H.size o a_1 q30.2 ho hq32) (gV m7_238 m8_0 ms_73 m1_16 m8_1) hd_X13_finds ⟨Nat.le_of_ble_eq_true rfl, Nat.le_of_ble_eq_true rfl, rfl, rfl⟩ rfl ho rfl rfl rfl hl.1 rfl rc0 rfl dX13_opening_49 ⟨Nat.zero_le _, Nat.zero_le _⟩ (fun H locs hH => ?_)
          refine lv_if_ne (tgt := 57) hx hb dX13_opening_52 (by decide) (fun c33 => ?_) (fun c33 => ?_)
          · replace hf := (if_neg c33).symm.trans hf
            refine lv_iload_n hx hb dX13_opening_57 rfl (lv_at hl 2 rfl) ?_
            by_cases c34 : (a_2 < 0 ∨ 2 < a_2)
            · replace hf := (if_pos c34).symm.trans hf
              refine hl_tabOut (tgt := 99) hx hb dX13_opening_58 c34 (by decide) (by decide) (by decide) ?_
              refine hl_aload_n hx hb dX13_opening_99 rfl (lv_at hl 0 rfl) ?_
              refine g13_19 hx hb hts hown hKs hH rfl ho m6_200 dX13_opening_100 ?_
              exact hw_iret hx hb hret hf hH hlocks dX13_opening_103
            replace hf := (if_neg c34).symm.trans hf
            by_cases c35 : a_2 = 0
            · replace hf := (if_pos c35).symm.trans hf
              refine hl_tabIn (tgt := 84) hx hb dX13_opening_58 c35 (by decide) (by decide) rfl (by decide) ?_
              refine hl_aload_n hx hb dX13_opening_84 rfl (lv_at hl 0 rfl) ?_
              refine g13_16 hx hb hts hown hKs hH rfl ho m6_197 dX13_opening_85 ?_
              exact hw_iret hx hb hret hf hH hlocks dX13_opening_88
            replace hf := (if_neg c35).symm.trans hf
            by_cases c36 : a_2 = 1
            · replace hf := (if_pos c36).symm.trans hf
              refine hl_tabIn (tgt := 89) hx hb dX13_opening_58 c36 (by decide) (by decide) rfl (by decide) ?_
              refine hl_aload_n hx hb dX13_opening_89 rfl (lv_at hl 0 rfl) ?_
              refine g13_17 hx hb hts hown hKs hH rfl ho m6_198 dX13_opening_90 ?_
              exact hw_iret hx hb hret hf hH hlocks dX13_opening_93
            replace hf := (if_neg c36).symm.trans hf
            by_cases c37 : a_2 = 2
            · replace hf := (if_pos c37).symm.trans hf
              refine hl_tabIn (tgt := 94) hx hb dX13_opening_58 c37 (by decide) (by decide) rfl (by decide) ?_
              refine hl_aload_n hx hb dX13_opening_94 rfl (lv_at hl 0 rfl) ?_
              refine g13_18 hx hb hts hown hKs hH rfl ho m6_199 dX13_opening_95 ?_
              exact hw_iret hx hb hret hf hH hlocks dX13_opening_98
            replace hf := (if_neg c37).symm.trans hf
            cases hf
          · replace hf := (if_pos c33).symm.trans hf
            refine lv_iconst (v := (-1)) hx hb dX13_opening_55 (by decide) ?_
            exact hw_iret hx hb hret hf hH hlocks dX13_opening_56
        · replace hf := (if_pos c31).symm.trans hf
          refine lv_iconst (v := 0) hx hb dX13_opening_45 (by decide) ?_
          exact hw_iret hx hb hret hf hH hlocks dX13_opening_46

theorem dX13_openDays_0 : decode cX13_openDays 0 = .ok (.aload_n 0, 1) := by decide +kernel
theorem dX13_openDays_1 : decode cX13_openDays 1 = .ok (.aload_n 0, 1) := by decide +kernel
theorem dX13_openDays_2 : decode cX13_openDays 2 = .ok (.iload_n 1, 1) := by decide +kernel
theorem dX13_openDays_3 : decode cX13_openDays 3 = .ok (.invokevirtual 148, 3) := by decide +kernel
theorem dX13_openDays_6 : decode cX13_openDays 6 = .ok (.invokevirtual 110, 3) := by decide +kernel
theorem dX13_openDays_9 : decode cX13_openDays 9 = .ok (.ifCond .eq 16, 3) := by decide +kernel
theorem dX13_openDays_12 : decode cX13_openDays 12 = .ok (.aload_n 0, 1) := by decide +kernel
theorem dX13_openDays_13 : decode cX13_openDays 13 = .ok (.aload_n 0, 1) := by decide +kernel
theorem dX13_openDays_14 : decode cX13_openDays 14 = .ok (.iload_n 1, 1) := by decide +kernel
theorem dX13_openDays_15 : decode cX13_openDays 15 = .ok (.invokevirtual 218, 3) := by decide +kernel
theorem dX13_openDays_18 : decode cX13_openDays 18 = .ok (.iconst 2, 1) := by decide +kernel
theorem dX13_openDays_19 : decode cX13_openDays 19 = .ok (.invokevirtual 214, 3) := by decide +kernel
theorem dX13_openDays_22 : decode cX13_openDays 22 = .ok (.ifCond .ne 5, 3) := by decide +kernel
theorem dX13_openDays_25 : decode cX13_openDays 25 = .ok (.iconst 0, 1) := by decide +kernel
theorem dX13_openDays_26 : decode cX13_openDays 26 = .ok (.ireturn, 1) := by decide +kernel
theorem dX13_openDays_27 : decode cX13_openDays 27 = .ok (.iconst 0, 1) := by decide +kernel
theorem dX13_openDays_28 : decode cX13_openDays 28 = .ok (.istore_n 2, 1) := by decide +kernel
theorem dX13_openDays_29 : decode cX13_openDays 29 = .ok (.aload_n 0, 1) := by decide +kernel
theorem dX13_openDays_30 : decode cX13_openDays 30 = .ok (.iload_n 1, 1) := by decide +kernel
theorem dX13_openDays_31 : decode cX13_openDays 31 = .ok (.invokevirtual 243, 3) := by decide +kernel
theorem dX13_openDays_34 : decode cX13_openDays 34 = .ok (.istore_n 3, 1) := by decide +kernel
theorem dX13_openDays_35 : decode cX13_openDays 35 = .ok (.aload_n 0, 1) := by decide +kernel
theorem dX13_openDays_36 : decode cX13_openDays 36 = .ok (.getfield 16, 3) := by decide +kernel
theorem dX13_openDays_39 : decode cX13_openDays 39 = .ok (.iconst 0, 1) := by decide +kernel
theorem dX13_openDays_40 : decode cX13_openDays 40 = .ok (.iaload, 1) := by decide +kernel
theorem dX13_openDays_41 : decode cX13_openDays 41 = .ok (.istore 4, 2) := by decide +kernel
theorem dX13_openDays_43 : decode cX13_openDays 43 = .ok (.iload 4, 2) := by decide +kernel
theorem dX13_openDays_45 : decode cX13_openDays 45 = .ok (.iload_n 3, 1) := by decide +kernel
theorem dX13_openDays_46 : decode cX13_openDays 46 = .ok (.if_icmp .gt 33, 3) := by decide +kernel
theorem dX13_openDays_49 : decode cX13_openDays 49 = .ok (.aload_n 0, 1) := by decide +kernel
theorem dX13_openDays_50 : decode cX13_openDays 50 = .ok (.iload_n 1, 1) := by decide +kernel
theorem dX13_openDays_51 : decode cX13_openDays 51 = .ok (.iload 4, 2) := by decide +kernel
theorem dX13_openDays_53 : decode cX13_openDays 53 = .ok (.invokevirtual 193, 3) := by decide +kernel
theorem dX13_openDays_56 : decode cX13_openDays 56 = .ok (.ifCond .ne 17, 3) := by decide +kernel
theorem dX13_openDays_59 : decode cX13_openDays 59 = .ok (.aload_n 0, 1) := by decide +kernel
theorem dX13_openDays_60 : decode cX13_openDays 60 = .ok (.iload_n 1, 1) := by decide +kernel
theorem dX13_openDays_61 : decode cX13_openDays 61 = .ok (.iload 4, 2) := by decide +kernel
theorem dX13_openDays_63 : decode cX13_openDays 63 = .ok (.invokevirtual 246, 3) := by decide +kernel
theorem dX13_openDays_66 : decode cX13_openDays 66 = .ok (.ifCond .eq 7, 3) := by decide +kernel
theorem dX13_openDays_69 : decode cX13_openDays 69 = .ok (.iload_n 2, 1) := by decide +kernel
theorem dX13_openDays_70 : decode cX13_openDays 70 = .ok (.iconst 1, 1) := by decide +kernel
theorem dX13_openDays_71 : decode cX13_openDays 71 = .ok (.iadd, 1) := by decide +kernel
theorem dX13_openDays_72 : decode cX13_openDays 72 = .ok (.istore_n 2, 1) := by decide +kernel
theorem dX13_openDays_73 : decode cX13_openDays 73 = .ok (.iinc 4 1, 3) := by decide +kernel
theorem dX13_openDays_76 : decode cX13_openDays 76 = .ok (.goto (-33), 3) := by decide +kernel
theorem dX13_openDays_79 : decode cX13_openDays 79 = .ok (.iload_n 2, 1) := by decide +kernel
theorem dX13_openDays_80 : decode cX13_openDays 80 = .ok (.ireturn, 1) := by decide +kernel
theorem hd_X13_openDays : yX13_openDays.cls = RX13 ∧ yX13_openDays.cls ≠ "java/lang/invoke/MethodHandle" ∧ yX13_openDays.cls ≠ "java/lang/invoke/VarHandle" ∧ (parseMethodDescriptor yX13_openDays.desc).map (fun d => d.parameters.length) = some 1 := by decide +kernel
theorem hs_X13_openDays : yX13_openDays.cls ≠ "java/lang/invoke/MethodHandle" ∧ yX13_openDays.cls ≠ "java/lang/invoke/VarHandle" ∧ (parseMethodDescriptor yX13_openDays.desc).map (fun d => d.parameters.length) = some 1 := by decide +kernel
set_option maxHeartbeats 4000000 in
set_option maxRecDepth 100000 in
theorem l_X13_openDays_L43 (C : CX p l e s m args meth c cX13_openDays 5 RX13 (Option.some Jvm.ClassFile.FieldType.int) E) {o : Nat} (ho : K o = some (11, 0)) {r : Int32} {w' : Wd} (k : Int32 → Int32 → Int32 → Int32 → Wd → Option (Int32 × Wd)) (hk : ∀ (v1_43 : Int32) (v2_43 : Int32) (v3_43 : Int32) (v4_43 : Int32) (w : Wd) (H : Heap) (locs : List Loc) (ls : Array Slot), HQ E K z w s H locs → lv_has ls 5 [(1, .int v1_43), (2, .int v2_43), (3, .int v3_43), (4, .int v4_43), (0, rv E (some o))] → k v1_43 v2_43 v3_43 v4_43 w = some (r, w') → W p l e ({ frames := 8, cells := 0, slots := 0, locals := 191 } : Room) s m args below meth c H locs 0 0 (MQ below (QI E K z w' r) args s 0 0 (hA E)) (F0 m 79 ls [])) : ∀ (n : Nat) (v1_43 : Int32) (v2_43 : Int32) (v3_43 : Int32) (v4_43 : Int32) (w : Wd) (H : Heap) (locs : List Loc) (ls : Array Slot), HQ E K z w s H locs → lv_has ls 5 [(1, .int v1_43), (2, .int v2_43), (3, .int v3_43), (4, .int v4_43), (0, rv E (some o))] → f_X13_openDays_L43 K o k n v1_43 v2_43 v3_43 v4_43 w = some (r, w') → W p l e ({ frames := 8, cells := 0, slots := 0, locals := 191 } : Room) s m args below meth c H locs 0 0 (MQ below (QI E K z w' r) args s 0 0 (hA E)) (F0 m 43 ls []) := by
  obtain ⟨hx, hb, hml, hown, hts, hKs, hT, hb0, hlocks, hret⟩ := id C
  intro n
  induction n with
  | zero =>
    intro v1_43 v2_43 v3_43 v4_43 w H locs ls hH hl hf
    cases hf
  | succ n ih =>
    intro v1_43 v2_43 v3_43 v4_43 w H locs ls hH hl hf
    rw [f_X13_openDays_L43] at hf
    refine lv_iload hx hb dX13_openDays_43 (lv_at hl 3 rfl) ?_
    refine lv_iload_n hx hb dX13_openDays_45 rfl (lv_at hl 2 rfl) ?_
    refine lv_icmp_gt (tgt := 79) hx hb dX13_openDays_46 (by decide) (fun c11 => ?_) (fun c11 => ?_)
    · replace hf := (if_pos c11).symm.trans hf
      exact hk v1_43 v2_43 v3_43 v4_43 _ _ _ _ hH (lv_sub hl [0, 1, 2, 3, 4] rfl) hf
    · replace hf := (if_neg c11).symm.trans hf
      refine hl_aload_n hx hb dX13_openDays_49 rfl (lv_at hl 4 rfl) ?_
      refine lv_iload_n hx hb dX13_openDays_50 rfl (lv_at hl 0 rfl) ?_
      refine lv_iload hx hb dX13_openDays_51 (lv_at hl 3 rfl) ?_
      obtain ⟨q12, hq12, hf⟩ := bnd hf
      refine hcV_i hx hb hml hown hts hKs hT hb0 hH (As := [.int v1_43, .int v4_43]) (rest := []) (k_X13_isDayOut l E K H.size o v1_43 v4_43 w ho hq12) (gV m7_195 m7_197 ms_64 m1_16 m7_198) hd_X13_isDayOut ⟨Nat.le_of_ble_eq_true rfl, Nat.le_of_ble_eq_true rfl, rfl, rfl⟩ rfl ho rfl rfl rfl hl.1 rfl rc0 rfl dX13_openDays_53 ⟨Nat.zero_le _, Nat.zero_le _⟩ (fun H locs hH => ?_)
      refine lv_if_ne (tgt := 73) hx hb dX13_openDays_56 (by decide) (fun c13 => ?_) (fun c13 => ?_)
      · replace hf := (if_neg c13).symm.trans hf
        refine lv_iinc (v := (v4_43 + 1)) (lv' := [(4, .int ((v4_43 + 1))), (1, .int v1_43), (2, .int v2_43), (3, .int v3_43), (0, rv E (some o))]) hx hb dX13_openDays_73 hl (k := 3) rfl rfl (by decide) rfl (fun ls hl => ?_)
        refine lv_goto (tgt := 43) hx hb dX13_openDays_76 (by decide) ?_
        exact ih v1_43 v2_43 v3_43 (v4_43 + 1) _ _ _ _ hH (lv_sub hl [1, 2, 3, 0, 4] rfl) hf
      · replace hf := (if_pos c13).symm.trans hf
        refine hl_aload_n hx hb dX13_openDays_59 rfl (lv_at hl 4 rfl) ?_
        refine lv_iload_n hx hb dX13_openDays_60 rfl (lv_at hl 0 rfl) ?_
        refine lv_iload hx hb dX13_openDays_61 (lv_at hl 3 rfl) ?_
        obtain ⟨q14, hq14, hf⟩ := bnd hf
        refine hcV_i hx hb hml hown hts hKs hT hb0 hH (As := [.int v1_43, .int v4_43]) (rest := []) (k_X13_findsOn l E K H.size o v1_43 v4_43 q12.2 ho hq14) (gV m8_6 m8_8 ms_75 m1_16 m8_9) hd_X13_findsOn ⟨Nat.le_of_ble_eq_true rfl, Nat.le_of_ble_eq_true rfl, rfl, rfl⟩ rfl ho rfl rfl rfl hl.1 rfl rc0 rfl dX13_openDays_63 ⟨Nat.zero_le _, Nat.zero_le _⟩ (fun H locs hH => ?_)
        refine lv_if_eq (tgt := 73) hx hb dX13_openDays_66 (by decide) (fun c15 => ?_) (fun c15 => ?_)
        · replace hf := (if_pos c15).symm.trans hf
          refine lv_iinc (v := (v4_43 + 1)) (lv' := [(4, .int ((v4_43 + 1))), (1, .int v1_43), (2, .int v2_43), (3, .int v3_43), (0, rv E (some o))]) hx hb dX13_openDays_73 hl (k := 3) rfl rfl (by decide) rfl (fun ls hl => ?_)
          refine lv_goto (tgt := 43) hx hb dX13_openDays_76 (by decide) ?_
          exact ih v1_43 v2_43 v3_43 (v4_43 + 1) _ _ _ _ hH (lv_sub hl [1, 2, 3, 0, 4] rfl) hf
        · replace hf := (if_neg c15).symm.trans hf
          refine lv_iload_n hx hb dX13_openDays_69 rfl (lv_at hl 1 rfl) ?_
          refine lv_iconst (v := 1) hx hb dX13_openDays_70 (by decide) ?_
          refine lv_iadd hx hb dX13_openDays_71 ?_
          refine lv_istore_n (i := 2) (lv' := [(2, .int ((v2_43 + 1))), (1, .int v1_43), (3, .int v3_43), (4, .int v4_43), (0, rv E (some o))]) hx hb dX13_openDays_72 rfl hl (by decide) rfl (fun ls hl => ?_)
          refine lv_iinc (v := (v4_43 + 1)) (lv' := [(4, .int ((v4_43 + 1))), (2, .int ((v2_43 + 1))), (1, .int v1_43), (3, .int v3_43), (0, rv E (some o))]) hx hb dX13_openDays_73 hl (k := 3) rfl rfl (by decide) rfl (fun ls hl => ?_)
          refine lv_goto (tgt := 43) hx hb dX13_openDays_76 (by decide) ?_
          exact ih v1_43 (v2_43 + 1) v3_43 (v4_43 + 1) _ _ _ _ hH (lv_sub hl [2, 1, 3, 0, 4] rfl) hf
set_option maxHeartbeats 4000000 in
set_option maxRecDepth 100000 in
theorem k_X13_openDays (l : Launch) (E : Ev) (K : Kd) (z : Nat) (o : Nat) (a_1 : Int32) (w : Wd) (ho : K o = some (11, 0)) {r : Int32} {w' : Wd} (hf : f_X13_openDays K o a_1 w = some (r, w')) : Met l yX13_openDays (Cond.code yX13_openDays cX13_openDays 5 (Option.some Jvm.ClassFile.FieldType.int) :: bt) ({ frames := 8, cells := 0, slots := 0, locals := 191 } : Room) (va_Pc [rv E (some o), .int a_1] (HB E K w z)) (QI E K z w' r) 0 0 (hA E) := by
  refine Met.ofW (cc := cX13_openDays) (maxL := 5) (ret := (Option.some Jvm.ClassFile.FieldType.int)) (by decide) rfl ?_
  intro p e s m args below meth c s₁ B hml hv
  obtain ⟨rfl, hz, hP, hKs, hT, hb0⟩ := hv
  have C : CX p l e s m _ meth c cX13_openDays 5 RX13 (Option.some Jvm.ClassFile.FieldType.int) E := ⟨B.exec, B.bytes, hml, findClass_of_methodNamed B.named, fun w h => atoms_spec (ws := Cond.code yX13_openDays cX13_openDays 5 (Option.some Jvm.ClassFile.FieldType.int) :: bt) B.pre w (List.mem_cons_of_mem _ h), hKs, hT, by rw [hz]; exact hb0, B.notSynchronized, B.returns⟩
  have hH : HQ E K z w s s.heap [] := ⟨hP, va_S.rf, hz⟩
  obtain ⟨hx, hb, hml, hown, hts, hKs, hT, hb0, hlocks, hret⟩ := id C
  have hl := lv_entry [rv E (some o), .int a_1] (n := 5) (by simp [lg_len_nil, lg_len_i, lg_len_j, lg_len_q, lg_len_f, lg_len_d, lg_len_r])
  rw [lg_entry_eq]
  generalize (lg_sl [rv E (some o), .int a_1] ++ List.replicate (5 - (lg_sl [rv E (some o), .int a_1]).length) Slot.unset).toArray = ls at hl ⊢
  replace hl : lv_has ls 5 [(0, rv E (some o)), (1, .int a_1)] := by simpa only [lv_args, cat_q, cat_i, cat_j, reduceIte, Nat.reduceEqDiff, Nat.reduceAdd, Nat.zero_add] using hl
  generalize s.heap = H at hH ⊢
  unfold f_X13_openDays at hf
  refine hl_aload_n hx hb dX13_openDays_0 rfl (lv_at hl 0 rfl) ?_
  refine hl_aload_n hx hb dX13_openDays_1 rfl (lv_at hl 0 rfl) ?_
  refine lv_iload_n hx hb dX13_openDays_2 rfl (lv_at hl 1 rfl) ?_
  obtain ⟨q1, hq1, hf⟩ := bnd hf
  refine hcV_i hx hb hml hown hts hKs hT hb0 hH (As := [.int a_1]) (rest := [rv E (some o)]) (k_X13_isCase l E K H.size o a_1 w ho hq1) (gV m7_114 m7_116 ms_51 m1_16 m7_117) hd_X13_isCase ⟨Nat.le_of_ble_eq_true rfl, Nat.le_of_ble_eq_true rfl, rfl, rfl⟩ rfl ho rfl rfl rfl hl.1 rfl (rcV rc0) rfl dX13_openDays_3 ⟨Nat.zero_le _, Nat.zero_le _⟩ (fun H locs hH => ?_)
  obtain ⟨q2, hq2, hf⟩ := bnd hf
  refine hcV_i hx hb hml hown hts hKs hT hb0 hH (As := [.int (b2i q1.1)]) (rest := []) (k_X13_is l E K H.size o q1.1 q1.2 ho hq2) (gV m7_68 m7_70 ms_47 m1_16 m7_71) hd_X13_is ⟨Nat.le_of_ble_eq_true rfl, Nat.le_of_ble_eq_true rfl, rfl, rfl⟩ rfl ho rfl rfl rfl hl.1 rfl rc0 rfl dX13_openDays_6 ⟨Nat.zero_le _, Nat.zero_le _⟩ (fun H locs hH => ?_)
  refine lv_if_eq (tgt := 25) hx hb dX13_openDays_9 (by decide) (fun c3 => ?_) (fun c3 => ?_)
  · replace hf := (if_pos c3).symm.trans hf
    refine lv_iconst (v := 0) hx hb dX13_openDays_25 (by decide) ?_
    exact hw_iret hx hb hret hf hH hlocks dX13_openDays_26
  · replace hf := (if_neg c3).symm.trans hf
    refine hl_aload_n hx hb dX13_openDays_12 rfl (lv_at hl 0 rfl) ?_
    refine hl_aload_n hx hb dX13_openDays_13 rfl (lv_at hl 0 rfl) ?_
    refine lv_iload_n hx hb dX13_openDays_14 rfl (lv_at hl 1 rfl) ?_
    obtain ⟨q4, hq4, hf⟩ := bnd hf
    refine hcV_i hx hb hml hown hts hKs hT hb0 hH (As := [.int a_1]) (rest := [rv E (some o)]) (k_X13_isOpen l E K H.size o a_1 q2.2 ho hq4) (gV m7_187 m7_189 ms_62 m1_16 m7_190) hd_X13_isOpen ⟨Nat.le_of_ble_eq_true rfl, Nat.le_of_ble_eq_true rfl, rfl, rfl⟩ rfl ho rfl rfl rfl hl.1 rfl (rcV rc0) rfl dX13_openDays_15 ⟨Nat.zero_le _, Nat.zero_le _⟩ (fun H locs hH => ?_)
    refine lv_iconst (v := 2) hx hb dX13_openDays_18 (by decide) ?_
    obtain ⟨q5, hq5, hf⟩ := bnd hf
    refine hcV_i hx hb hml hown hts hKs hT hb0 hH (As := [.int (b2i q4.1), .int 2]) (rest := []) (k_X13_may l E K H.size o q4.1 2 q4.2 ho hq5) (gV m7_183 m7_185 ms_61 m1_16 m7_186) hd_X13_may ⟨Nat.le_of_ble_eq_true rfl, Nat.le_of_ble_eq_true rfl, rfl, rfl⟩ rfl ho rfl rfl rfl hl.1 rfl rc0 rfl dX13_openDays_19 ⟨Nat.zero_le _, Nat.zero_le _⟩ (fun H locs hH => ?_)
    refine lv_if_ne (tgt := 27) hx hb dX13_openDays_22 (by decide) (fun c6 => ?_) (fun c6 => ?_)
    · replace hf := (if_neg c6).symm.trans hf
      refine lv_iconst (v := 0) hx hb dX13_openDays_27 (by decide) ?_
      refine lv_istore_n (i := 2) (lv' := [(2, .int 0), (0, rv E (some o)), (1, .int a_1)]) hx hb dX13_openDays_28 rfl hl (by decide) rfl (fun ls hl => ?_)
      refine hl_aload_n hx hb dX13_openDays_29 rfl (lv_at hl 1 rfl) ?_
      refine lv_iload_n hx hb dX13_openDays_30 rfl (lv_at hl 2 rfl) ?_
      obtain ⟨q7, hq7, hf⟩ := bnd hf
      refine hcV_i hx hb hml hown hts hKs hT hb0 hH (As := [.int a_1]) (rest := []) (k_X13_lastDay l E K H.size o a_1 q5.2 ho hq7) (gV m8_2 m8_4 ms_74 m1_16 m8_5) hd_X13_lastDay ⟨Nat.le_of_ble_eq_true rfl, Nat.le_of_ble_eq_true rfl, rfl, rfl⟩ rfl ho rfl rfl rfl hl.1 rfl rc0 rfl dX13_openDays_31 ⟨Nat.zero_le _, Nat.zero_le _⟩ (fun H locs hH => ?_)
      refine lv_istore_n (i := 3) (lv' := [(3, .int (q7.1)), (2, .int 0), (0, rv E (some o)), (1, .int a_1)]) hx hb dX13_openDays_34 rfl hl (by decide) rfl (fun ls hl => ?_)
      refine hl_aload_n hx hb dX13_openDays_35 rfl (lv_at hl 2 rfl) ?_
      refine g13_3 hx hb hts hown hKs hH rfl ho m6_184 dX13_openDays_36 ?_
      refine lv_iconst (v := 0) hx hb dX13_openDays_39 (by decide) ?_
      obtain ⟨a8, ha8, hf⟩ := bnd hf
      replace ha8 := cha_some ha8
      obtain ⟨j9, hj9, hf⟩ := bnd hf
      refine hw_iald hx hb hKs hH ha8.1 ha8.2 hj9 dX13_openDays_40 ?_
      refine lv_istore (i := 4) (lv' := [(4, .int ((aI q7.2 a8.1 j9))), (3, .int (q7.1)), (2, .int 0), (0, rv E (some o)), (1, .int a_1)]) hx hb dX13_openDays_41 hl (by decide) rfl (fun ls hl => ?_)
      refine l_X13_openDays_L43  C ho _ (fun v1_43 v2_43 v3_43 v4_43 w10 H locs ls hH hl hf => ?_) fu a_1 0 q7.1 (aI q7.2 a8.1 j9) q7.2 _ _ _ hH (lv_sub hl [4, 2, 1, 0, 3] rfl) hf
      refine lv_iload_n hx hb dX13_openDays_79 rfl (lv_at hl 1 rfl) ?_
      exact hw_iret hx hb hret hf hH hlocks dX13_openDays_80
    · replace hf := (if_pos c6).symm.trans hf
      refine lv_iconst (v := 0) hx hb dX13_openDays_25 (by decide) ?_
      exact hw_iret hx hb hret hf hH hlocks dX13_openDays_26

theorem dX13_isUrgenter_0 : decode cX13_isUrgenter 0 = .ok (.aload_n 0, 1) := by decide +kernel
theorem dX13_isUrgenter_1 : decode cX13_isUrgenter 1 = .ok (.iload_n 1, 1) := by decide +kernel
theorem dX13_isUrgenter_2 : decode cX13_isUrgenter 2 = .ok (.invokevirtual 144, 3) := by decide +kernel
theorem dX13_isUrgenter_5 : decode cX13_isUrgenter 5 = .ok (.istore_n 3, 1) := by decide +kernel
theorem dX13_isUrgenter_6 : decode cX13_isUrgenter 6 = .ok (.aload_n 0, 1) := by decide +kernel
theorem dX13_isUrgenter_7 : decode cX13_isUrgenter 7 = .ok (.iload_n 2, 1) := by decide +kernel
theorem dX13_isUrgenter_8 : decode cX13_isUrgenter 8 = .ok (.invokevirtual 144, 3) := by decide +kernel
theorem dX13_isUrgenter_11 : decode cX13_isUrgenter 11 = .ok (.istore 4, 2) := by decide +kernel
theorem dX13_isUrgenter_13 : decode cX13_isUrgenter 13 = .ok (.iload_n 3, 1) := by decide +kernel
theorem dX13_isUrgenter_14 : decode cX13_isUrgenter 14 = .ok (.iload 4, 2) := by decide +kernel
theorem dX13_isUrgenter_16 : decode cX13_isUrgenter 16 = .ok (.if_icmp .eq 15, 3) := by decide +kernel
theorem dX13_isUrgenter_19 : decode cX13_isUrgenter 19 = .ok (.iload_n 3, 1) := by decide +kernel
theorem dX13_isUrgenter_20 : decode cX13_isUrgenter 20 = .ok (.iload 4, 2) := by decide +kernel
theorem dX13_isUrgenter_22 : decode cX13_isUrgenter 22 = .ok (.if_icmp .ge 7, 3) := by decide +kernel
theorem dX13_isUrgenter_25 : decode cX13_isUrgenter 25 = .ok (.iconst 1, 1) := by decide +kernel
theorem dX13_isUrgenter_26 : decode cX13_isUrgenter 26 = .ok (.goto 4, 3) := by decide +kernel
theorem dX13_isUrgenter_29 : decode cX13_isUrgenter 29 = .ok (.iconst 0, 1) := by decide +kernel
theorem dX13_isUrgenter_30 : decode cX13_isUrgenter 30 = .ok (.ireturn, 1) := by decide +kernel
theorem dX13_isUrgenter_31 : decode cX13_isUrgenter 31 = .ok (.aload_n 0, 1) := by decide +kernel
theorem dX13_isUrgenter_32 : decode cX13_isUrgenter 32 = .ok (.getfield 7, 3) := by decide +kernel
theorem dX13_isUrgenter_35 : decode cX13_isUrgenter 35 = .ok (.bipush 124, 2) := by decide +kernel
theorem dX13_isUrgenter_37 : decode cX13_isUrgenter 37 = .ok (.iload_n 1, 1) := by decide +kernel
theorem dX13_isUrgenter_38 : decode cX13_isUrgenter 38 = .ok (.iadd, 1) := by decide +kernel
theorem dX13_isUrgenter_39 : decode cX13_isUrgenter 39 = .ok (.iaload, 1) := by decide +kernel
theorem dX13_isUrgenter_40 : decode cX13_isUrgenter 40 = .ok (.aload_n 0, 1) := by decide +kernel
theorem dX13_isUrgenter_41 : decode cX13_isUrgenter 41 = .ok (.getfield 7, 3) := by decide +kernel
theorem dX13_isUrgenter_44 : decode cX13_isUrgenter 44 = .ok (.bipush 124, 2) := by decide +kernel
theorem dX13_isUrgenter_46 : decode cX13_isUrgenter 46 = .ok (.iload_n 2, 1) := by decide +kernel
theorem dX13_isUrgenter_47 : decode cX13_isUrgenter 47 = .ok (.iadd, 1) := by decide +kernel
theorem dX13_isUrgenter_48 : decode cX13_isUrgenter 48 = .ok (.iaload, 1) := by decide +kernel
theorem dX13_isUrgenter_49 : decode cX13_isUrgenter 49 = .ok (.if_icmp .eq 24, 3) := by decide +kernel
theorem dX13_isUrgenter_52 : decode cX13_isUrgenter 52 = .ok (.aload_n 0, 1) := by decide +kernel
theorem dX13_isUrgenter_53 : decode cX13_isUrgenter 53 = .ok (.getfield 7, 3) := by decide +kernel
theorem dX13_isUrgenter_56 : decode cX13_isUrgenter 56 = .ok (.bipush 124, 2) := by decide +kernel
theorem dX13_isUrgenter_58 : decode cX13_isUrgenter 58 = .ok (.iload_n 1, 1) := by decide +kernel
theorem dX13_isUrgenter_59 : decode cX13_isUrgenter 59 = .ok (.iadd, 1) := by decide +kernel
theorem dX13_isUrgenter_60 : decode cX13_isUrgenter 60 = .ok (.iaload, 1) := by decide +kernel
theorem dX13_isUrgenter_61 : decode cX13_isUrgenter 61 = .ok (.iconst 1, 1) := by decide +kernel
theorem dX13_isUrgenter_62 : decode cX13_isUrgenter 62 = .ok (.if_icmp .ne 7, 3) := by decide +kernel
theorem dX13_isUrgenter_65 : decode cX13_isUrgenter 65 = .ok (.iconst 1, 1) := by decide +kernel
theorem dX13_isUrgenter_66 : decode cX13_isUrgenter 66 = .ok (.goto 17, 3) := by decide +kernel
theorem dX13_isUrgenter_69 : decode cX13_isUrgenter 69 = .ok (.iconst 0, 1) := by decide +kernel
theorem dX13_isUrgenter_70 : decode cX13_isUrgenter 70 = .ok (.goto 13, 3) := by decide +kernel
theorem dX13_isUrgenter_73 : decode cX13_isUrgenter 73 = .ok (.iload_n 1, 1) := by decide +kernel
theorem dX13_isUrgenter_74 : decode cX13_isUrgenter 74 = .ok (.iload_n 2, 1) := by decide +kernel
theorem dX13_isUrgenter_75 : decode cX13_isUrgenter 75 = .ok (.if_icmp .ge 7, 3) := by decide +kernel
theorem dX13_isUrgenter_78 : decode cX13_isUrgenter 78 = .ok (.iconst 1, 1) := by decide +kernel
theorem dX13_isUrgenter_79 : decode cX13_isUrgenter 79 = .ok (.goto 4, 3) := by decide +kernel
theorem dX13_isUrgenter_82 : decode cX13_isUrgenter 82 = .ok (.iconst 0, 1) := by decide +kernel
theorem dX13_isUrgenter_83 : decode cX13_isUrgenter 83 = .ok (.ireturn, 1) := by decide +kernel
theorem hd_X13_isUrgenter : yX13_isUrgenter.cls = RX13 ∧ yX13_isUrgenter.cls ≠ "java/lang/invoke/MethodHandle" ∧ yX13_isUrgenter.cls ≠ "java/lang/invoke/VarHandle" ∧ (parseMethodDescriptor yX13_isUrgenter.desc).map (fun d => d.parameters.length) = some 2 := by decide +kernel
theorem hs_X13_isUrgenter : yX13_isUrgenter.cls ≠ "java/lang/invoke/MethodHandle" ∧ yX13_isUrgenter.cls ≠ "java/lang/invoke/VarHandle" ∧ (parseMethodDescriptor yX13_isUrgenter.desc).map (fun d => d.parameters.length) = some 2 := by decide +kernel
set_option maxHeartbeats 4000000 in
set_option maxRecDepth 100000 in
theorem k_X13_isUrgenter (l : Launch) (E : Ev) (K : Kd) (z : Nat) (o : Nat) (a_1 : Int32) (a_2 : Int32) (w : Wd) (ho : K o = some (11, 0)) {r : Bool} {w' : Wd} (hf : f_X13_isUrgenter K o a_1 a_2 w = some (r, w')) : Met l yX13_isUrgenter (Cond.code yX13_isUrgenter cX13_isUrgenter 5 (Option.some Jvm.ClassFile.FieldType.boolean) :: bt) ({ frames := 3, cells := 0, slots := 0, locals := 67 } : Room) (va_Pc [rv E (some o), .int a_1, .int a_2] (HB E K w z)) (QI E K z w' (b2i r)) 0 0 (hA E) := by
  refine Met.ofW (cc := cX13_isUrgenter) (maxL := 5) (ret := (Option.some Jvm.ClassFile.FieldType.boolean)) (by decide) rfl ?_
  intro p e s m args below meth c s₁ B hml hv
  obtain ⟨rfl, hz, hP, hKs, hT, hb0⟩ := hv
  have C : CX p l e s m _ meth c cX13_isUrgenter 5 RX13 (Option.some Jvm.ClassFile.FieldType.boolean) E := ⟨B.exec, B.bytes, hml, findClass_of_methodNamed B.named, fun w h => atoms_spec (ws := Cond.code yX13_isUrgenter cX13_isUrgenter 5 (Option.some Jvm.ClassFile.FieldType.boolean) :: bt) B.pre w (List.mem_cons_of_mem _ h), hKs, hT, by rw [hz]; exact hb0, B.notSynchronized, B.returns⟩
  have hH : HQ E K z w s s.heap [] := ⟨hP, va_S.rf, hz⟩
  obtain ⟨hx, hb, hml, hown, hts, hKs, hT, hb0, hlocks, hret⟩ := id C
  have hl := lv_entry [rv E (some o), .int a_1, .int a_2] (n := 5) (by simp [lg_len_nil, lg_len_i, lg_len_j, lg_len_q, lg_len_f, lg_len_d, lg_len_r])
  rw [lg_entry_eq]
  generalize (lg_sl [rv E (some o), .int a_1, .int a_2] ++ List.replicate (5 - (lg_sl [rv E (some o), .int a_1, .int a_2]).length) Slot.unset).toArray = ls at hl ⊢
  replace hl : lv_has ls 5 [(0, rv E (some o)), (1, .int a_1), (2, .int a_2)] := by simpa only [lv_args, cat_q, cat_i, cat_j, reduceIte, Nat.reduceEqDiff, Nat.reduceAdd, Nat.zero_add] using hl
  generalize s.heap = H at hH ⊢
  unfold f_X13_isUrgenter at hf
  refine hl_aload_n hx hb dX13_isUrgenter_0 rfl (lv_at hl 0 rfl) ?_
  refine lv_iload_n hx hb dX13_isUrgenter_1 rfl (lv_at hl 1 rfl) ?_
  obtain ⟨q1, hq1, hf⟩ := bnd hf
  refine hcV_i hx hb hml hown hts hKs hT hb0 hH (As := [.int a_1]) (rest := []) (k_X13_limitDay l E K H.size o a_1 w ho hq1) (gV m7_122 m7_124 ms_53 m1_16 m7_125) hd_X13_limitDay ⟨Nat.le_of_ble_eq_true rfl, Nat.le_of_ble_eq_true rfl, rfl, rfl⟩ rfl ho rfl rfl rfl hl.1 rfl rc0 rfl dX13_isUrgenter_2 ⟨Nat.zero_le _, Nat.zero_le _⟩ (fun H locs hH => ?_)
  refine lv_istore_n (i := 3) (lv' := [(3, .int (q1.1)), (0, rv E (some o)), (1, .int a_1), (2, .int a_2)]) hx hb dX13_isUrgenter_5 rfl hl (by decide) rfl (fun ls hl => ?_)
  refine hl_aload_n hx hb dX13_isUrgenter_6 rfl (lv_at hl 1 rfl) ?_
  refine lv_iload_n hx hb dX13_isUrgenter_7 rfl (lv_at hl 3 rfl) ?_
  obtain ⟨q2, hq2, hf⟩ := bnd hf
  refine hcV_i hx hb hml hown hts hKs hT hb0 hH (As := [.int a_2]) (rest := []) (k_X13_limitDay l E K H.size o a_2 q1.2 ho hq2) (gV m7_122 m7_124 ms_53 m1_16 m7_125) hd_X13_limitDay ⟨Nat.le_of_ble_eq_true rfl, Nat.le_of_ble_eq_true rfl, rfl, rfl⟩ rfl ho rfl rfl rfl hl.1 rfl rc0 rfl dX13_isUrgenter_8 ⟨Nat.zero_le _, Nat.zero_le _⟩ (fun H locs hH => ?_)
  refine lv_istore (i := 4) (lv' := [(4, .int (q2.1)), (3, .int (q1.1)), (0, rv E (some o)), (1, .int a_1), (2, .int a_2)]) hx hb dX13_isUrgenter_11 hl (by decide) rfl (fun ls hl => ?_)
  refine lv_iload_n hx hb dX13_isUrgenter_13 rfl (lv_at hl 1 rfl) ?_
  refine lv_iload hx hb dX13_isUrgenter_14 (lv_at hl 0 rfl) ?_
  refine lv_icmp_eq (tgt := 31) hx hb dX13_isUrgenter_16 (by decide) (fun c3 => ?_) (fun c3 => ?_)
  · replace hf := (if_pos c3).symm.trans hf
    refine hl_aload_n hx hb dX13_isUrgenter_31 rfl (lv_at hl 2 rfl) ?_
    refine g13_1 hx hb hts hown hKs hH rfl ho m6_182 dX13_isUrgenter_32 ?_
    refine lv_bipush (v := 124) hx hb dX13_isUrgenter_35 (by decide) ?_
    refine lv_iload_n hx hb dX13_isUrgenter_37 rfl (lv_at hl 3 rfl) ?_
    refine lv_iadd hx hb dX13_isUrgenter_38 ?_
    obtain ⟨a4, ha4, hf⟩ := bnd hf
    replace ha4 := cha_some ha4
    obtain ⟨j5, hj5, hf⟩ := bnd hf
    refine hw_iald hx hb hKs hH ha4.1 ha4.2 hj5 dX13_isUrgenter_39 ?_
    refine hl_aload_n hx hb dX13_isUrgenter_40 rfl (lv_at hl 2 rfl) ?_
    refine g13_1 hx hb hts hown hKs hH rfl ho m6_182 dX13_isUrgenter_41 ?_
    refine lv_bipush (v := 124) hx hb dX13_isUrgenter_44 (by decide) ?_
    refine lv_iload_n hx hb dX13_isUrgenter_46 rfl (lv_at hl 4 rfl) ?_
    refine lv_iadd hx hb dX13_isUrgenter_47 ?_
    obtain ⟨j6, hj6, hf⟩ := bnd hf
    refine hw_iald hx hb hKs hH ha4.1 ha4.2 hj6 dX13_isUrgenter_48 ?_
    refine lv_icmp_eq (tgt := 73) hx hb dX13_isUrgenter_49 (by decide) (fun c7 => ?_) (fun c7 => ?_)
    · replace hf := (if_pos c7).symm.trans hf
      refine lv_iload_n hx hb dX13_isUrgenter_73 rfl (lv_at hl 3 rfl) ?_
      refine lv_iload_n hx hb dX13_isUrgenter_74 rfl (lv_at hl 4 rfl) ?_
      refine lv_icmp_ge (tgt := 82) hx hb dX13_isUrgenter_75 (by decide) (fun c8 => ?_) (fun c8 => ?_)
      · replace hf := (if_pos c8).symm.trans hf
        refine lv_iconst (v := 0) hx hb dX13_isUrgenter_82 (by decide) ?_
        exact hw_zret hx hb hret rfl hf hH hlocks dX13_isUrgenter_83
      · replace hf := (if_neg c8).symm.trans hf
        refine lv_iconst (v := 1) hx hb dX13_isUrgenter_78 (by decide) ?_
        refine lv_goto (tgt := 83) hx hb dX13_isUrgenter_79 (by decide) ?_
        exact hw_zret hx hb hret rfl hf hH hlocks dX13_isUrgenter_83
    · replace hf := (if_neg c7).symm.trans hf
      refine hl_aload_n hx hb dX13_isUrgenter_52 rfl (lv_at hl 2 rfl) ?_
      refine g13_1 hx hb hts hown hKs hH rfl ho m6_182 dX13_isUrgenter_53 ?_
      refine lv_bipush (v := 124) hx hb dX13_isUrgenter_56 (by decide) ?_
      refine lv_iload_n hx hb dX13_isUrgenter_58 rfl (lv_at hl 3 rfl) ?_
      refine lv_iadd hx hb dX13_isUrgenter_59 ?_
      obtain ⟨j9, hj9, hf⟩ := bnd hf
      refine hw_iald hx hb hKs hH ha4.1 ha4.2 hj9 dX13_isUrgenter_60 ?_
      refine lv_iconst (v := 1) hx hb dX13_isUrgenter_61 (by decide) ?_
      refine lv_icmp_ne (tgt := 69) hx hb dX13_isUrgenter_62 (by decide) (fun c10 => ?_) (fun c10 => ?_)
      · replace hf := (if_neg c10).symm.trans hf
        refine lv_iconst (v := 0) hx hb dX13_isUrgenter_69 (by decide) ?_
        refine lv_goto (tgt := 83) hx hb dX13_isUrgenter_70 (by decide) ?_
        exact hw_zret hx hb hret rfl hf hH hlocks dX13_isUrgenter_83
      · replace hf := (if_pos c10).symm.trans hf
        refine lv_iconst (v := 1) hx hb dX13_isUrgenter_65 (by decide) ?_
        refine lv_goto (tgt := 83) hx hb dX13_isUrgenter_66 (by decide) ?_
        exact hw_zret hx hb hret rfl hf hH hlocks dX13_isUrgenter_83
  · replace hf := (if_neg c3).symm.trans hf
    refine lv_iload_n hx hb dX13_isUrgenter_19 rfl (lv_at hl 1 rfl) ?_
    refine lv_iload hx hb dX13_isUrgenter_20 (lv_at hl 0 rfl) ?_
    refine lv_icmp_ge (tgt := 29) hx hb dX13_isUrgenter_22 (by decide) (fun c11 => ?_) (fun c11 => ?_)
    · replace hf := (if_pos c11).symm.trans hf
      refine lv_iconst (v := 0) hx hb dX13_isUrgenter_29 (by decide) ?_
      exact hw_zret hx hb hret rfl hf hH hlocks dX13_isUrgenter_30
    · replace hf := (if_neg c11).symm.trans hf
      refine lv_iconst (v := 1) hx hb dX13_isUrgenter_25 (by decide) ?_
      refine lv_goto (tgt := 30) hx hb dX13_isUrgenter_26 (by decide) ?_
      exact hw_zret hx hb hret rfl hf hH hlocks dX13_isUrgenter_30

theorem dX13_urgentAt_0 : decode cX13_urgentAt 0 = .ok (.iconst 0, 1) := by decide +kernel
theorem dX13_urgentAt_1 : decode cX13_urgentAt 1 = .ok (.istore_n 2, 1) := by decide +kernel
theorem dX13_urgentAt_2 : decode cX13_urgentAt 2 = .ok (.iload_n 2, 1) := by decide +kernel
theorem dX13_urgentAt_3 : decode cX13_urgentAt 3 = .ok (.aload_n 0, 1) := by decide +kernel
theorem dX13_urgentAt_4 : decode cX13_urgentAt 4 = .ok (.getfield 7, 3) := by decide +kernel
theorem dX13_urgentAt_7 : decode cX13_urgentAt 7 = .ok (.iconst 3, 1) := by decide +kernel
theorem dX13_urgentAt_8 : decode cX13_urgentAt 8 = .ok (.iaload, 1) := by decide +kernel
theorem dX13_urgentAt_9 : decode cX13_urgentAt 9 = .ok (.if_icmp .ge 80, 3) := by decide +kernel
theorem dX13_urgentAt_12 : decode cX13_urgentAt 12 = .ok (.aload_n 0, 1) := by decide +kernel
theorem dX13_urgentAt_13 : decode cX13_urgentAt 13 = .ok (.iload_n 2, 1) := by decide +kernel
theorem dX13_urgentAt_14 : decode cX13_urgentAt 14 = .ok (.iconst 0, 1) := by decide +kernel
theorem dX13_urgentAt_15 : decode cX13_urgentAt 15 = .ok (.invokevirtual 141, 3) := by decide +kernel
theorem dX13_urgentAt_18 : decode cX13_urgentAt 18 = .ok (.ifCond .eq 6, 3) := by decide +kernel
theorem dX13_urgentAt_21 : decode cX13_urgentAt 21 = .ok (.goto 62, 3) := by decide +kernel
theorem dX13_urgentAt_24 : decode cX13_urgentAt 24 = .ok (.iconst 0, 1) := by decide +kernel
theorem dX13_urgentAt_25 : decode cX13_urgentAt 25 = .ok (.istore_n 3, 1) := by decide +kernel
theorem dX13_urgentAt_26 : decode cX13_urgentAt 26 = .ok (.iconst 0, 1) := by decide +kernel
theorem dX13_urgentAt_27 : decode cX13_urgentAt 27 = .ok (.istore 4, 2) := by decide +kernel
theorem dX13_urgentAt_29 : decode cX13_urgentAt 29 = .ok (.iload 4, 2) := by decide +kernel
theorem dX13_urgentAt_31 : decode cX13_urgentAt 31 = .ok (.aload_n 0, 1) := by decide +kernel
theorem dX13_urgentAt_32 : decode cX13_urgentAt 32 = .ok (.getfield 7, 3) := by decide +kernel
theorem dX13_urgentAt_35 : decode cX13_urgentAt 35 = .ok (.iconst 3, 1) := by decide +kernel
theorem dX13_urgentAt_36 : decode cX13_urgentAt 36 = .ok (.iaload, 1) := by decide +kernel
theorem dX13_urgentAt_37 : decode cX13_urgentAt 37 = .ok (.if_icmp .ge 39, 3) := by decide +kernel
theorem dX13_urgentAt_40 : decode cX13_urgentAt 40 = .ok (.iload 4, 2) := by decide +kernel
theorem dX13_urgentAt_42 : decode cX13_urgentAt 42 = .ok (.iload_n 2, 1) := by decide +kernel
theorem dX13_urgentAt_43 : decode cX13_urgentAt 43 = .ok (.if_icmp .eq 27, 3) := by decide +kernel
theorem dX13_urgentAt_46 : decode cX13_urgentAt 46 = .ok (.aload_n 0, 1) := by decide +kernel
theorem dX13_urgentAt_47 : decode cX13_urgentAt 47 = .ok (.iload 4, 2) := by decide +kernel
theorem dX13_urgentAt_49 : decode cX13_urgentAt 49 = .ok (.iconst 0, 1) := by decide +kernel
theorem dX13_urgentAt_50 : decode cX13_urgentAt 50 = .ok (.invokevirtual 141, 3) := by decide +kernel
theorem dX13_urgentAt_53 : decode cX13_urgentAt 53 = .ok (.ifCond .ne 17, 3) := by decide +kernel
theorem dX13_urgentAt_56 : decode cX13_urgentAt 56 = .ok (.aload_n 0, 1) := by decide +kernel
theorem dX13_urgentAt_57 : decode cX13_urgentAt 57 = .ok (.iload 4, 2) := by decide +kernel
theorem dX13_urgentAt_59 : decode cX13_urgentAt 59 = .ok (.iload_n 2, 1) := by decide +kernel
theorem dX13_urgentAt_60 : decode cX13_urgentAt 60 = .ok (.invokevirtual 252, 3) := by decide +kernel
theorem dX13_urgentAt_63 : decode cX13_urgentAt 63 = .ok (.ifCond .eq 7, 3) := by decide +kernel
theorem dX13_urgentAt_66 : decode cX13_urgentAt 66 = .ok (.iload_n 3, 1) := by decide +kernel
theorem dX13_urgentAt_67 : decode cX13_urgentAt 67 = .ok (.iconst 1, 1) := by decide +kernel
theorem dX13_urgentAt_68 : decode cX13_urgentAt 68 = .ok (.iadd, 1) := by decide +kernel
theorem dX13_urgentAt_69 : decode cX13_urgentAt 69 = .ok (.istore_n 3, 1) := by decide +kernel
theorem dX13_urgentAt_70 : decode cX13_urgentAt 70 = .ok (.iinc 4 1, 3) := by decide +kernel
theorem dX13_urgentAt_73 : decode cX13_urgentAt 73 = .ok (.goto (-44), 3) := by decide +kernel
theorem dX13_urgentAt_76 : decode cX13_urgentAt 76 = .ok (.iload_n 3, 1) := by decide +kernel
theorem dX13_urgentAt_77 : decode cX13_urgentAt 77 = .ok (.iload_n 1, 1) := by decide +kernel
theorem dX13_urgentAt_78 : decode cX13_urgentAt 78 = .ok (.if_icmp .ne 5, 3) := by decide +kernel
theorem dX13_urgentAt_81 : decode cX13_urgentAt 81 = .ok (.iload_n 2, 1) := by decide +kernel
theorem dX13_urgentAt_82 : decode cX13_urgentAt 82 = .ok (.ireturn, 1) := by decide +kernel
theorem dX13_urgentAt_83 : decode cX13_urgentAt 83 = .ok (.iinc 2 1, 3) := by decide +kernel
theorem dX13_urgentAt_86 : decode cX13_urgentAt 86 = .ok (.goto (-84), 3) := by decide +kernel
theorem dX13_urgentAt_89 : decode cX13_urgentAt 89 = .ok (.iconst (-1), 1) := by decide +kernel
theorem dX13_urgentAt_90 : decode cX13_urgentAt 90 = .ok (.ireturn, 1) := by decide +kernel
theorem hd_X13_urgentAt : yX13_urgentAt.cls = RX13 ∧ yX13_urgentAt.cls ≠ "java/lang/invoke/MethodHandle" ∧ yX13_urgentAt.cls ≠ "java/lang/invoke/VarHandle" ∧ (parseMethodDescriptor yX13_urgentAt.desc).map (fun d => d.parameters.length) = some 1 := by decide +kernel
theorem hs_X13_urgentAt : yX13_urgentAt.cls ≠ "java/lang/invoke/MethodHandle" ∧ yX13_urgentAt.cls ≠ "java/lang/invoke/VarHandle" ∧ (parseMethodDescriptor yX13_urgentAt.desc).map (fun d => d.parameters.length) = some 1 := by decide +kernel
set_option maxHeartbeats 4000000 in
set_option maxRecDepth 100000 in
theorem l_X13_urgentAt_L29 (C : CX p l e s m args meth c cX13_urgentAt 5 RX13 (Option.some Jvm.ClassFile.FieldType.int) E) {o : Nat} (ho : K o = some (11, 0)) {r : Int32} {w' : Wd} (k : Int32 → Int32 → Int32 → Int32 → Wd → Option (Int32 × Wd)) (hk : ∀ (v1_29 : Int32) (v2_29 : Int32) (v3_29 : Int32) (v4_29 : Int32) (w : Wd) (H : Heap) (locs : List Loc) (ls : Array Slot), HQ E K z w s H locs → lv_has ls 5 [(1, .int v1_29), (2, .int v2_29), (3, .int v3_29), (4, .int v4_29), (0, rv E (some o))] → k v1_29 v2_29 v3_29 v4_29 w = some (r, w') → W p l e ({ frames := 4, cells := 0, slots := 0, locals := 91 } : Room) s m args below meth c H locs 0 0 (MQ below (QI E K z w' r) args s 0 0 (hA E)) (F0 m 76 ls [])) : ∀ (n : Nat) (v1_29 : Int32) (v2_29 : Int32) (v3_29 : Int32) (v4_29 : Int32) (w : Wd) (H : Heap) (locs : List Loc) (ls : Array Slot), HQ E K z w s H locs → lv_has ls 5 [(1, .int v1_29), (2, .int v2_29), (3, .int v3_29), (4, .int v4_29), (0, rv E (some o))] → f_X13_urgentAt_L29 K o k n v1_29 v2_29 v3_29 v4_29 w = some (r, w') → W p l e ({ frames := 4, cells := 0, slots := 0, locals := 91 } : Room) s m args below meth c H locs 0 0 (MQ below (QI E K z w' r) args s 0 0 (hA E)) (F0 m 29 ls []) := by
  obtain ⟨hx, hb, hml, hown, hts, hKs, hT, hb0, hlocks, hret⟩ := id C
  intro n
  induction n with
  | zero =>
    intro v1_29 v2_29 v3_29 v4_29 w H locs ls hH hl hf
    cases hf
  | succ n ih =>
    intro v1_29 v2_29 v3_29 v4_29 w H locs ls hH hl hf
    rw [f_X13_urgentAt_L29] at hf
    refine lv_iload hx hb dX13_urgentAt_29 (lv_at hl 3 rfl) ?_
    refine hl_aload_n hx hb dX13_urgentAt_31 rfl (lv_at hl 4 rfl) ?_
    refine g13_1 hx hb hts hown hKs hH rfl ho m6_182 dX13_urgentAt_32 ?_
    refine lv_iconst (v := 3) hx hb dX13_urgentAt_35 (by decide) ?_
    obtain ⟨a8, ha8, hf⟩ := bnd hf
    replace ha8 := cha_some ha8
    obtain ⟨j9, hj9, hf⟩ := bnd hf
    refine hw_iald hx hb hKs hH ha8.1 ha8.2 hj9 dX13_urgentAt_36 ?_
    refine lv_icmp_ge (tgt := 76) hx hb dX13_urgentAt_37 (by decide) (fun c10 => ?_) (fun c10 => ?_)
    · replace hf := (if_pos c10).symm.trans hf
      exact hk v1_29 v2_29 v3_29 v4_29 _ _ _ _ hH (lv_sub hl [0, 1, 2, 3, 4] rfl) hf
    · replace hf := (if_neg c10).symm.trans hf
      refine lv_iload hx hb dX13_urgentAt_40 (lv_at hl 3 rfl) ?_
      refine lv_iload_n hx hb dX13_urgentAt_42 rfl (lv_at hl 1 rfl) ?_
      refine lv_icmp_eq (tgt := 70) hx hb dX13_urgentAt_43 (by decide) (fun c11 => ?_) (fun c11 => ?_)
      · replace hf := (if_pos c11).symm.trans hf
        refine lv_iinc (v := (v4_29 + 1)) (lv' := [(4, .int ((v4_29 + 1))), (1, .int v1_29), (2, .int v2_29), (3, .int v3_29), (0, rv E (some o))]) hx hb dX13_urgentAt_70 hl (k := 3) rfl rfl (by decide) rfl (fun ls hl => ?_)
        refine lv_goto (tgt := 29) hx hb dX13_urgentAt_73 (by decide) ?_
        exact ih v1_29 v2_29 v3_29 (v4_29 + 1) _ _ _ _ hH (lv_sub hl [1, 2, 3, 0, 4] rfl) hf
      · replace hf := (if_neg c11).symm.trans hf
        refine hl_aload_n hx hb dX13_urgentAt_46 rfl (lv_at hl 4 rfl) ?_
        refine lv_iload hx hb dX13_urgentAt_47 (lv_at hl 3 rfl) ?_
        refine lv_iconst (v := 0) hx hb dX13_urgentAt_49 (by decide) ?_
        obtain ⟨q12, hq12, hf⟩ := bnd hf
        refine hcV_i hx hb hml hown hts hKs hT hb0 hH (As := [.int v4_29, .int 0]) (rest := []) (k_X13_of l E K H.size o v4_29 0 w ho hq12) (gV m7_126 m7_128 ms_54 m1_16 m7_129) hd_X13_of ⟨Nat.le_of_ble_eq_true rfl, Nat.le_of_ble_eq_true rfl, rfl, rfl⟩ rfl ho rfl rfl rfl hl.1 rfl rc0 rfl dX13_urgentAt_50 ⟨Nat.zero_le _, Nat.zero_le _⟩ (fun H locs hH => ?_)
        refine lv_if_ne (tgt := 70) hx hb dX13_urgentAt_53 (by decide) (fun c13 => ?_) (fun c13 => ?_)
        · replace hf := (if_neg c13).symm.trans hf
          refine lv_iinc (v := (v4_29 + 1)) (lv' := [(4, .int ((v4_29 + 1))), (1, .int v1_29), (2, .int v2_29), (3, .int v3_29), (0, rv E (some o))]) hx hb dX13_urgentAt_70 hl (k := 3) rfl rfl (by decide) rfl (fun ls hl => ?_)
          refine lv_goto (tgt := 29) hx hb dX13_urgentAt_73 (by decide) ?_
          exact ih v1_29 v2_29 v3_29 (v4_29 + 1) _ _ _ _ hH (lv_sub hl [1, 2, 3, 0, 4] rfl) hf
        · replace hf := (if_pos c13).symm.trans hf
          refine hl_aload_n hx hb dX13_urgentAt_56 rfl (lv_at hl 4 rfl) ?_
          refine lv_iload hx hb dX13_urgentAt_57 (lv_at hl 3 rfl) ?_
          refine lv_iload_n hx hb dX13_urgentAt_59 rfl (lv_at hl 1 rfl) ?_
          obtain ⟨q14, hq14, hf⟩ := bnd hf
          refine hcV_i hx hb hml hown hts hKs hT hb0 hH (As := [.int v4_29, .int v2_29]) (rest := []) (k_X13_isUrgenter l E K H.size o v4_29 v2_29 q12.2 ho hq14) (gV m8_30 m8_32 ms_79 m1_16 m8_33) hd_X13_isUrgenter ⟨Nat.le_of_ble_eq_true rfl, Nat.le_of_ble_eq_true rfl, rfl, rfl⟩ rfl ho rfl rfl rfl hl.1 rfl rc0 rfl dX13_urgentAt_60 ⟨Nat.zero_le _, Nat.zero_le _⟩ (fun H locs hH => ?_)
          refine lv_if_eq (tgt := 70) hx hb dX13_urgentAt_63 (by decide) (fun c15 => ?_) (fun c15 => ?_)
          · replace hf := (if_pos c15).symm.trans hf
            refine lv_iinc (v := (v4_29 + 1)) (lv' := [(4, .int ((v4_29 + 1))), (1, .int v1_29), (2, .int v2_29), (3, .int v3_29), (0, rv E (some o))]) hx hb dX13_urgentAt_70 hl (k := 3) rfl rfl (by decide) rfl (fun ls hl => ?_)
            refine lv_goto (tgt := 29) hx hb dX13_urgentAt_73 (by decide) ?_
            exact ih v1_29 v2_29 v3_29 (v4_29 + 1) _ _ _ _ hH (lv_sub hl [1, 2, 3, 0, 4] rfl) hf
          · replace hf := (if_neg c15).symm.trans hf
            refine lv_iload_n hx hb dX13_urgentAt_66 rfl (lv_at hl 2 rfl) ?_
            refine lv_iconst (v := 1) hx hb dX13_urgentAt_67 (by decide) ?_
            refine lv_iadd hx hb dX13_urgentAt_68 ?_
            refine lv_istore_n (i := 3) (lv' := [(3, .int ((v3_29 + 1))), (1, .int v1_29), (2, .int v2_29), (4, .int v4_29), (0, rv E (some o))]) hx hb dX13_urgentAt_69 rfl hl (by decide) rfl (fun ls hl => ?_)
            refine lv_iinc (v := (v4_29 + 1)) (lv' := [(4, .int ((v4_29 + 1))), (3, .int ((v3_29 + 1))), (1, .int v1_29), (2, .int v2_29), (0, rv E (some o))]) hx hb dX13_urgentAt_70 hl (k := 3) rfl rfl (by decide) rfl (fun ls hl => ?_)
            refine lv_goto (tgt := 29) hx hb dX13_urgentAt_73 (by decide) ?_
            exact ih v1_29 v2_29 (v3_29 + 1) (v4_29 + 1) _ _ _ _ hH (lv_sub hl [2, 3, 1, 0, 4] rfl) hf
set_option maxHeartbeats 4000000 in
set_option maxRecDepth 100000 in
theorem l_X13_urgentAt_L2 (C : CX p l e s m args meth c cX13_urgentAt 5 RX13 (Option.some Jvm.ClassFile.FieldType.int) E) {o : Nat} (ho : K o = some (11, 0)) {r : Int32} {w' : Wd} (k : Int32 → Int32 → Wd → Option (Int32 × Wd)) (hk : ∀ (v1_2 : Int32) (v2_2 : Int32) (w : Wd) (H : Heap) (locs : List Loc) (ls : Array Slot), HQ E K z w s H locs → lv_has ls 5 [(1, .int v1_2), (2, .int v2_2), (0, rv E (some o))] → k v1_2 v2_2 w = some (r, w') → W p l e ({ frames := 4, cells := 0, slots := 0, locals := 91 } : Room) s m args below meth c H locs 0 0 (MQ below (QI E K z w' r) args s 0 0 (hA E)) (F0 m 89 ls [])) : ∀ (n : Nat) (v1_2 : Int32) (v2_2 : Int32) (w : Wd) (H : Heap) (locs : List Loc) (ls : Array Slot), HQ E K z w s H locs → lv_has ls 5 [(1, .int v1_2), (2, .int v2_2), (0, rv E (some o))] → f_X13_urgentAt_L2 K o k n v1_2 v2_2 w = some (r, w') → W p l e ({ frames := 4, cells := 0, slots := 0, locals := 91 } : Room) s m args below meth c H locs 0 0 (MQ below (QI E K z w' r) args s 0 0 (hA E)) (F0 m 2 ls []) := by
  obtain ⟨hx, hb, hml, hown, hts, hKs, hT, hb0, hlocks, hret⟩ := id C
  intro n
  induction n with
  | zero =>
    intro v1_2 v2_2 w H locs ls hH hl hf
    cases hf
  | succ n ih =>
    intro v1_2 v2_2 w H locs ls hH hl hf
    rw [f_X13_urgentAt_L2] at hf
    refine lv_iload_n hx hb dX13_urgentAt_2 rfl (lv_at hl 1 rfl) ?_
    refine hl_aload_n hx hb dX13_urgentAt_3 rfl (lv_at hl 2 rfl) ?_
    refine g13_1 hx hb hts hown hKs hH rfl ho m6_182 dX13_urgentAt_4 ?_
    refine lv_iconst (v := 3) hx hb dX13_urgentAt_7 (by decide) ?_
    obtain ⟨a2, ha2, hf⟩ := bnd hf
    replace ha2 := cha_some ha2
    obtain ⟨j3, hj3, hf⟩ := bnd hf
    refine hw_iald hx hb hKs hH ha2.1 ha2.2 hj3 dX13_urgentAt_8 ?_
    refine lv_icmp_ge (tgt := 89) hx hb dX13_urgentAt_9 (by decide) (fun c4 => ?_) (fun c4 => ?_)
    · replace hf := (if_pos c4).symm.trans hf
      exact hk v1_2 v2_2 _ _ _ _ hH (lv_sub hl [0, 1, 2] rfl) hf
    · replace hf := (if_neg c4).symm.trans hf
      refine hl_aload_n hx hb dX13_urgentAt_12 rfl (lv_at hl 2 rfl) ?_
      refine lv_iload_n hx hb dX13_urgentAt_13 rfl (lv_at hl 1 rfl) ?_
      refine lv_iconst (v := 0) hx hb dX13_urgentAt_14 (by decide) ?_
      obtain ⟨q5, hq5, hf⟩ := bnd hf
      refine hcV_i hx hb hml hown hts hKs hT hb0 hH (As := [.int v2_2, .int 0]) (rest := []) (k_X13_of l E K H.size o v2_2 0 w ho hq5) (gV m7_126 m7_128 ms_54 m1_16 m7_129) hd_X13_of ⟨Nat.le_of_ble_eq_true rfl, Nat.le_of_ble_eq_true rfl, rfl, rfl⟩ rfl ho rfl rfl rfl hl.1 rfl rc0 rfl dX13_urgentAt_15 ⟨Nat.zero_le _, Nat.zero_le _⟩ (fun H locs hH => ?_)
      refine lv_if_eq (tgt := 24) hx hb dX13_urgentAt_18 (by decide) (fun c6 => ?_) (fun c6 => ?_)
      · replace hf := (if_pos c6).symm.trans hf
        refine lv_iconst (v := 0) hx hb dX13_urgentAt_24 (by decide) ?_
        refine lv_istore_n (i := 3) (lv' := [(3, .int 0), (1, .int v1_2), (2, .int v2_2), (0, rv E (some o))]) hx hb dX13_urgentAt_25 rfl hl (by decide) rfl (fun ls hl => ?_)
        refine lv_iconst (v := 0) hx hb dX13_urgentAt_26 (by decide) ?_
        refine lv_istore (i := 4) (lv' := [(4, .int 0), (3, .int 0), (1, .int v1_2), (2, .int v2_2), (0, rv E (some o))]) hx hb dX13_urgentAt_27 hl (by decide) rfl (fun ls hl => ?_)
        refine l_X13_urgentAt_L29  C ho _ (fun v1_29 v2_29 v3_29 v4_29 w7 H locs ls hH hl hf => ?_) fu v1_2 v2_2 0 0 q5.2 _ _ _ hH (lv_sub hl [2, 3, 1, 0, 4] rfl) hf
        refine lv_iload_n hx hb dX13_urgentAt_76 rfl (lv_at hl 2 rfl) ?_
        refine lv_iload_n hx hb dX13_urgentAt_77 rfl (lv_at hl 0 rfl) ?_
        refine lv_icmp_ne (tgt := 83) hx hb dX13_urgentAt_78 (by decide) (fun c16 => ?_) (fun c16 => ?_)
        · replace hf := (if_neg c16).symm.trans hf
          refine lv_iinc (v := (v2_29 + 1)) (lv' := [(2, .int ((v2_29 + 1))), (1, .int v1_29), (3, .int v3_29), (4, .int v4_29), (0, rv E (some o))]) hx hb dX13_urgentAt_83 hl (k := 1) rfl rfl (by decide) rfl (fun ls hl => ?_)
          refine lv_goto (tgt := 2) hx hb dX13_urgentAt_86 (by decide) ?_
          exact ih v1_29 (v2_29 + 1) _ _ _ _ hH (lv_sub hl [1, 0, 4] rfl) hf
        · replace hf := (if_pos c16).symm.trans hf
          refine lv_iload_n hx hb dX13_urgentAt_81 rfl (lv_at hl 1 rfl) ?_
          exact hw_iret hx hb hret hf hH hlocks dX13_urgentAt_82
      · replace hf := (if_neg c6).symm.trans hf
        refine lv_goto (tgt := 83) hx hb dX13_urgentAt_21 (by decide) ?_
        refine lv_iinc (v := (v2_2 + 1)) (lv' := [(2, .int ((v2_2 + 1))), (1, .int v1_2), (0, rv E (some o))]) hx hb dX13_urgentAt_83 hl (k := 1) rfl rfl (by decide) rfl (fun ls hl => ?_)
        refine lv_goto (tgt := 2) hx hb dX13_urgentAt_86 (by decide) ?_
        exact ih v1_2 (v2_2 + 1) _ _ _ _ hH (lv_sub hl [1, 0, 2] rfl) hf
set_option maxHeartbeats 4000000 in
set_option maxRecDepth 100000 in
theorem k_X13_urgentAt (l : Launch) (E : Ev) (K : Kd) (z : Nat) (o : Nat) (a_1 : Int32) (w : Wd) (ho : K o = some (11, 0)) {r : Int32} {w' : Wd} (hf : f_X13_urgentAt K o a_1 w = some (r, w')) : Met l yX13_urgentAt (Cond.code yX13_urgentAt cX13_urgentAt 5 (Option.some Jvm.ClassFile.FieldType.int) :: bt) ({ frames := 4, cells := 0, slots := 0, locals := 91 } : Room) (va_Pc [rv E (some o), .int a_1] (HB E K w z)) (QI E K z w' r) 0 0 (hA E) := by
  refine Met.ofW (cc := cX13_urgentAt) (maxL := 5) (ret := (Option.some Jvm.ClassFile.FieldType.int)) (by decide) rfl ?_
  intro p e s m args below meth c s₁ B hml hv
  obtain ⟨rfl, hz, hP, hKs, hT, hb0⟩ := hv
  have C : CX p l e s m _ meth c cX13_urgentAt 5 RX13 (Option.some Jvm.ClassFile.FieldType.int) E := ⟨B.exec, B.bytes, hml, findClass_of_methodNamed B.named, fun w h => atoms_spec (ws := Cond.code yX13_urgentAt cX13_urgentAt 5 (Option.some Jvm.ClassFile.FieldType.int) :: bt) B.pre w (List.mem_cons_of_mem _ h), hKs, hT, by rw [hz]; exact hb0, B.notSynchronized, B.returns⟩
  have hH : HQ E K z w s s.heap [] := ⟨hP, va_S.rf, hz⟩
  obtain ⟨hx, hb, hml, hown, hts, hKs, hT, hb0, hlocks, hret⟩ := id C
  have hl := lv_entry [rv E (some o), .int a_1] (n := 5) (by simp [lg_len_nil, lg_len_i, lg_len_j, lg_len_q, lg_len_f, lg_len_d, lg_len_r])
  rw [lg_entry_eq]
  generalize (lg_sl [rv E (some o), .int a_1] ++ List.replicate (5 - (lg_sl [rv E (some o), .int a_1]).length) Slot.unset).toArray = ls at hl ⊢
  replace hl : lv_has ls 5 [(0, rv E (some o)), (1, .int a_1)] := by simpa only [lv_args, cat_q, cat_i, cat_j, reduceIte, Nat.reduceEqDiff, Nat.reduceAdd, Nat.zero_add] using hl
  generalize s.heap = H at hH ⊢
  unfold f_X13_urgentAt at hf
  refine lv_iconst (v := 0) hx hb dX13_urgentAt_0 (by decide) ?_
  refine lv_istore_n (i := 2) (lv' := [(2, .int 0), (0, rv E (some o)), (1, .int a_1)]) hx hb dX13_urgentAt_1 rfl hl (by decide) rfl (fun ls hl => ?_)
  refine l_X13_urgentAt_L2  C ho _ (fun v1_2 v2_2 w1 H locs ls hH hl hf => ?_) fu a_1 0 w _ _ _ hH (lv_sub hl [2, 0, 1] rfl) hf
  refine lv_iconst (v := (-1)) hx hb dX13_urgentAt_89 (by decide) ?_
  exact hw_iret hx hb hret hf hH hlocks dX13_urgentAt_90

theorem dX13_urgent_0 : decode cX13_urgent 0 = .ok (.aload_n 0, 1) := by decide +kernel
theorem dX13_urgent_1 : decode cX13_urgent 1 = .ok (.iload_n 1, 1) := by decide +kernel
theorem dX13_urgent_2 : decode cX13_urgent 2 = .ok (.i2l, 1) := by decide +kernel
theorem dX13_urgent_3 : decode cX13_urgent 3 = .ok (.lconst 0, 1) := by decide +kernel
theorem dX13_urgent_4 : decode cX13_urgent 4 = .ok (.aload_n 0, 1) := by decide +kernel
theorem dX13_urgent_5 : decode cX13_urgent 5 = .ok (.iconst 0, 1) := by decide +kernel
theorem dX13_urgent_6 : decode cX13_urgent 6 = .ok (.invokevirtual 154, 3) := by decide +kernel
theorem dX13_urgent_9 : decode cX13_urgent 9 = .ok (.iconst 1, 1) := by decide +kernel
theorem dX13_urgent_10 : decode cX13_urgent 10 = .ok (.isub, 1) := by decide +kernel
theorem dX13_urgent_11 : decode cX13_urgent 11 = .ok (.i2l, 1) := by decide +kernel
theorem dX13_urgent_12 : decode cX13_urgent 12 = .ok (.invokestatic 123, 3) := by decide +kernel
theorem dX13_urgent_15 : decode cX13_urgent 15 = .ok (.invokevirtual 110, 3) := by decide +kernel
theorem dX13_urgent_18 : decode cX13_urgent 18 = .ok (.ifCond .eq 11, 3) := by decide +kernel
theorem dX13_urgent_21 : decode cX13_urgent 21 = .ok (.aload_n 0, 1) := by decide +kernel
theorem dX13_urgent_22 : decode cX13_urgent 22 = .ok (.iload_n 1, 1) := by decide +kernel
theorem dX13_urgent_23 : decode cX13_urgent 23 = .ok (.invokevirtual 255, 3) := by decide +kernel
theorem dX13_urgent_26 : decode cX13_urgent 26 = .ok (.goto 4, 3) := by decide +kernel
theorem dX13_urgent_29 : decode cX13_urgent 29 = .ok (.iconst 0, 1) := by decide +kernel
theorem dX13_urgent_30 : decode cX13_urgent 30 = .ok (.ireturn, 1) := by decide +kernel
theorem hd_X13_urgent : yX13_urgent.cls = RX13 ∧ yX13_urgent.cls ≠ "java/lang/invoke/MethodHandle" ∧ yX13_urgent.cls ≠ "java/lang/invoke/VarHandle" ∧ (parseMethodDescriptor yX13_urgent.desc).map (fun d => d.parameters.length) = some 1 := by decide +kernel
theorem hs_X13_urgent : yX13_urgent.cls ≠ "java/lang/invoke/MethodHandle" ∧ yX13_urgent.cls ≠ "java/lang/invoke/VarHandle" ∧ (parseMethodDescriptor yX13_urgent.desc).map (fun d => d.parameters.length) = some 1 := by decide +kernel
set_option maxHeartbeats 4000000 in
set_option maxRecDepth 100000 in
theorem k_X13_urgent (l : Launch) (E : Ev) (K : Kd) (z : Nat) (o : Nat) (a_1 : Int32) (w : Wd) (ho : K o = some (11, 0)) {r : Int32} {w' : Wd} (hf : f_X13_urgent K o a_1 w = some (r, w')) : Met l yX13_urgent (Cond.code yX13_urgent cX13_urgent 2 (Option.some Jvm.ClassFile.FieldType.int) :: bt) ({ frames := 5, cells := 0, slots := 0, locals := 115 } : Room) (va_Pc [rv E (some o), .int a_1] (HB E K w z)) (QI E K z w' r) 0 0 (hA E) := by
  refine Met.ofW (cc := cX13_urgent) (maxL := 2) (ret := (Option.some Jvm.ClassFile.FieldType.int)) (by decide) rfl ?_
  intro p e s m args below meth c s₁ B hml hv
  obtain ⟨rfl, hz, hP, hKs, hT, hb0⟩ := hv
  have C : CX p l e s m _ meth c cX13_urgent 2 RX13 (Option.some Jvm.ClassFile.FieldType.int) E := ⟨B.exec, B.bytes, hml, findClass_of_methodNamed B.named, fun w h => atoms_spec (ws := Cond.code yX13_urgent cX13_urgent 2 (Option.some Jvm.ClassFile.FieldType.int) :: bt) B.pre w (List.mem_cons_of_mem _ h), hKs, hT, by rw [hz]; exact hb0, B.notSynchronized, B.returns⟩
  have hH : HQ E K z w s s.heap [] := ⟨hP, va_S.rf, hz⟩
  obtain ⟨hx, hb, hml, hown, hts, hKs, hT, hb0, hlocks, hret⟩ := id C
  have hl := lv_entry [rv E (some o), .int a_1] (n := 2) (by simp [lg_len_nil, lg_len_i, lg_len_j, lg_len_q, lg_len_f, lg_len_d, lg_len_r])
  rw [lg_entry_eq]
  generalize (lg_sl [rv E (some o), .int a_1] ++ List.replicate (2 - (lg_sl [rv E (some o), .int a_1]).length) Slot.unset).toArray = ls at hl ⊢
  replace hl : lv_has ls 2 [(0, rv E (some o)), (1, .int a_1)] := by simpa only [lv_args, cat_q, cat_i, cat_j, reduceIte, Nat.reduceEqDiff, Nat.reduceAdd, Nat.zero_add] using hl
  generalize s.heap = H at hH ⊢
  unfold f_X13_urgent at hf
  refine hl_aload_n hx hb dX13_urgent_0 rfl (lv_at hl 0 rfl) ?_
  refine lv_iload_n hx hb dX13_urgent_1 rfl (lv_at hl 1 rfl) ?_
  refine lv_i2l (v := (a_1.toInt64)) hx hb dX13_urgent_2 rfl ?_
  refine lv_lconst (v := 0) hx hb dX13_urgent_3 rfl ?_
  refine hl_aload_n hx hb dX13_urgent_4 rfl (lv_at hl 0 rfl) ?_
  refine lv_iconst (v := 0) hx hb dX13_urgent_5 (by decide) ?_
  obtain ⟨q1, hq1, hf⟩ := bnd hf
  refine hcV_i hx hb hml hown hts hKs hT hb0 hH (As := [.int 0]) (rest := [.long 0, .long (a_1.toInt64), rv E (some o)]) (k_X13_manyIn l E K H.size o 0 w ho hq1) (gV m7_138 m7_140 ms_56 m1_16 m7_141) hd_X13_manyIn ⟨Nat.le_of_ble_eq_true rfl, Nat.le_of_ble_eq_true rfl, rfl, rfl⟩ rfl ho rfl rfl rfl hl.1 rfl (rcJ (rcJ (rcV rc0))) rfl dX13_urgent_6 ⟨Nat.zero_le _, Nat.zero_le _⟩ (fun H locs hH => ?_)
  refine lv_iconst (v := 1) hx hb dX13_urgent_9 (by decide) ?_
  refine lv_isub hx hb dX13_urgent_10 ?_
  refine lv_i2l (v := ((q1.1 - 1).toInt64)) hx hb dX13_urgent_11 rfl ?_
  obtain ⟨q2, hq2, hf⟩ := bnd hf
  refine hcS_i hx hb hml hown hts hKs hT hb0 hH (As := [.long (a_1.toInt64), .long 0, .long ((q1.1 - 1).toInt64)]) (rest := [rv E (some o)]) (k_X13_isIn l E K H.size (a_1.toInt64) 0 ((q1.1 - 1).toInt64) q1.2 hq2) (gS m7_88 m7_89 m1_16 m7_90) hs_X13_isIn ⟨Nat.le_of_ble_eq_true rfl, Nat.le_of_ble_eq_true rfl, rfl, rfl⟩ hl.1 rfl (rcV rc0) rfl dX13_urgent_12 ⟨Nat.zero_le _, Nat.zero_le _⟩ (fun H locs hH => ?_)
  obtain ⟨q3, hq3, hf⟩ := bnd hf
  refine hcV_i hx hb hml hown hts hKs hT hb0 hH (As := [.int (b2i q2.1)]) (rest := []) (k_X13_is l E K H.size o q2.1 q2.2 ho hq3) (gV m7_68 m7_70 ms_47 m1_16 m7_71) hd_X13_is ⟨Nat.le_of_ble_eq_true rfl, Nat.le_of_ble_eq_true rfl, rfl, rfl⟩ rfl ho rfl rfl rfl hl.1 rfl rc0 rfl dX13_urgent_15 ⟨Nat.zero_le _, Nat.zero_le _⟩ (fun H locs hH => ?_)
  refine lv_if_eq (tgt := 29) hx hb dX13_urgent_18 (by decide) (fun c4 => ?_) (fun c4 => ?_)
  · replace hf := (if_pos c4).symm.trans hf
    refine lv_iconst (v := 0) hx hb dX13_urgent_29 (by decide) ?_
    exact hw_iret hx hb hret hf hH hlocks dX13_urgent_30
  · replace hf := (if_neg c4).symm.trans hf
    refine hl_aload_n hx hb dX13_urgent_21 rfl (lv_at hl 0 rfl) ?_
    refine lv_iload_n hx hb dX13_urgent_22 rfl (lv_at hl 1 rfl) ?_
    obtain ⟨q5, hq5, hf⟩ := bnd hf
    refine hcV_i hx hb hml hown hts hKs hT hb0 hH (As := [.int a_1]) (rest := []) (k_X13_urgentAt l E K H.size o a_1 q3.2 ho hq5) (gV m8_26 m8_28 ms_78 m1_16 m8_29) hd_X13_urgentAt ⟨Nat.le_of_ble_eq_true rfl, Nat.le_of_ble_eq_true rfl, rfl, rfl⟩ rfl ho rfl rfl rfl hl.1 rfl rc0 rfl dX13_urgent_23 ⟨Nat.zero_le _, Nat.zero_le _⟩ (fun H locs hH => ?_)
    refine lv_goto (tgt := 30) hx hb dX13_urgent_26 (by decide) ?_
    exact hw_iret hx hb hret hf hH hlocks dX13_urgent_30

theorem dX13_plans_0 : decode cX13_plans 0 = .ok (.aload_n 0, 1) := by decide +kernel
theorem dX13_plans_1 : decode cX13_plans 1 = .ok (.iload_n 1, 1) := by decide +kernel
theorem dX13_plans_2 : decode cX13_plans 2 = .ok (.iconst 0, 1) := by decide +kernel
theorem dX13_plans_3 : decode cX13_plans 3 = .ok (.iconst 1, 1) := by decide +kernel
theorem dX13_plans_4 : decode cX13_plans 4 = .ok (.invokevirtual 258, 3) := by decide +kernel
theorem dX13_plans_7 : decode cX13_plans 7 = .ok (.aload_n 0, 1) := by decide +kernel
theorem dX13_plans_8 : decode cX13_plans 8 = .ok (.iload_n 1, 1) := by decide +kernel
theorem dX13_plans_9 : decode cX13_plans 9 = .ok (.iconst 3, 1) := by decide +kernel
theorem dX13_plans_10 : decode cX13_plans 10 = .ok (.iload_n 2, 1) := by decide +kernel
theorem dX13_plans_11 : decode cX13_plans 11 = .ok (.invokevirtual 258, 3) := by decide +kernel
theorem dX13_plans_14 : decode cX13_plans 14 = .ok (.aload_n 0, 1) := by decide +kernel
theorem dX13_plans_15 : decode cX13_plans 15 = .ok (.iload_n 1, 1) := by decide +kernel
theorem dX13_plans_16 : decode cX13_plans 16 = .ok (.iconst 4, 1) := by decide +kernel
theorem dX13_plans_17 : decode cX13_plans 17 = .ok (.iload_n 3, 1) := by decide +kernel
theorem dX13_plans_18 : decode cX13_plans 18 = .ok (.invokevirtual 258, 3) := by decide +kernel
theorem dX13_plans_21 : decode cX13_plans 21 = .ok (.aload_n 0, 1) := by decide +kernel
theorem dX13_plans_22 : decode cX13_plans 22 = .ok (.iload_n 1, 1) := by decide +kernel
theorem dX13_plans_23 : decode cX13_plans 23 = .ok (.iconst 5, 1) := by decide +kernel
theorem dX13_plans_24 : decode cX13_plans 24 = .ok (.iload 4, 2) := by decide +kernel
theorem dX13_plans_26 : decode cX13_plans 26 = .ok (.invokevirtual 258, 3) := by decide +kernel
theorem dX13_plans_29 : decode cX13_plans 29 = .ok (.aload_n 0, 1) := by decide +kernel
theorem dX13_plans_30 : decode cX13_plans 30 = .ok (.iload_n 1, 1) := by decide +kernel
theorem dX13_plans_31 : decode cX13_plans 31 = .ok (.bipush 6, 2) := by decide +kernel
theorem dX13_plans_33 : decode cX13_plans 33 = .ok (.iload 5, 2) := by decide +kernel
theorem dX13_plans_35 : decode cX13_plans 35 = .ok (.invokevirtual 258, 3) := by decide +kernel
theorem dX13_plans_38 : decode cX13_plans 38 = .ok (.return_, 1) := by decide +kernel
theorem hd_X13_plans : yX13_plans.cls = RX13 ∧ yX13_plans.cls ≠ "java/lang/invoke/MethodHandle" ∧ yX13_plans.cls ≠ "java/lang/invoke/VarHandle" ∧ (parseMethodDescriptor yX13_plans.desc).map (fun d => d.parameters.length) = some 5 := by decide +kernel
theorem hs_X13_plans : yX13_plans.cls ≠ "java/lang/invoke/MethodHandle" ∧ yX13_plans.cls ≠ "java/lang/invoke/VarHandle" ∧ (parseMethodDescriptor yX13_plans.desc).map (fun d => d.parameters.length) = some 5 := by decide +kernel
set_option maxHeartbeats 4000000 in
set_option maxRecDepth 100000 in
theorem k_X13_plans (l : Launch) (E : Ev) (K : Kd) (z : Nat) (o : Nat) (a_1 : Int32) (a_2 : Int32) (a_3 : Int32) (a_4 : Int32) (a_5 : Int32) (w : Wd) (ho : K o = some (11, 0)) {w' : Wd} (hf : f_X13_plans K o a_1 a_2 a_3 a_4 a_5 w = some w') : Met l yX13_plans (Cond.code yX13_plans cX13_plans 6 (Option.none : Option Jvm.ClassFile.FieldType) :: bt) ({ frames := 2, cells := 0, slots := 0, locals := 45 } : Room) (va_Pc [rv E (some o), .int a_1, .int a_2, .int a_3, .int a_4, .int a_5] (HB E K w z)) (QV E K z w') 0 0 (hA E) := by
  refine Met.ofW (cc := cX13_plans) (maxL := 6) (ret := (Option.none : Option Jvm.ClassFile.FieldType)) (by decide) rfl ?_
  intro p e s m args below meth c s₁ B hml hv
  obtain ⟨rfl, hz, hP, hKs, hT, hb0⟩ := hv
  have C : CX p l e s m _ meth c cX13_plans 6 RX13 (Option.none : Option Jvm.ClassFile.FieldType) E := ⟨B.exec, B.bytes, hml, findClass_of_methodNamed B.named, fun w h => atoms_spec (ws := Cond.code yX13_plans cX13_plans 6 (Option.none : Option Jvm.ClassFile.FieldType) :: bt) B.pre w (List.mem_cons_of_mem _ h), hKs, hT, by rw [hz]; exact hb0, B.notSynchronized, B.returns⟩
  have hH : HQ E K z w s s.heap [] := ⟨hP, va_S.rf, hz⟩
  obtain ⟨hx, hb, hml, hown, hts, hKs, hT, hb0, hlocks, hret⟩ := id C
  have hl := lv_entry [rv E (some o), .int a_1, .int a_2, .int a_3, .int a_4, .int a_5] (n := 6) (by simp [lg_len_nil, lg_len_i, lg_len_j, lg_len_q, lg_len_f, lg_len_d, lg_len_r])
  rw [lg_entry_eq]
  generalize (lg_sl [rv E (some o), .int a_1, .int a_2, .int a_3, .int a_4, .int a_5] ++ List.replicate (6 - (lg_sl [rv E (some o), .int a_1, .int a_2, .int a_3, .int a_4, .int a_5]).length) Slot.unset).toArray = ls at hl ⊢
  replace hl : lv_has ls 6 [(0, rv E (some o)), (1, .int a_1), (2, .int a_2), (3, .int a_3), (4, .int a_4), (5, .int a_5)] := by simpa only [lv_args, cat_q, cat_i, cat_j, reduceIte, Nat.reduceEqDiff, Nat.reduceAdd, Nat.zero_add] using hl
  generalize s.heap = H at hH ⊢
  unfold f_X13_plans at hf
  refine hl_aload_n hx hb dX13_plans_0 rfl (lv_at hl 0 rfl) ?_
  refine lv_iload_n hx hb dX13_plans_1 rfl (lv_at hl 1 rfl) ?_
  refine lv_iconst (v := 0) hx hb dX13_plans_2 (by decide) ?_
  refine lv_iconst (v := 1) hx hb dX13_plans_3 (by decide) ?_
  obtain ⟨q1, hq1, hf⟩ := bnd hf
  refine hcV_v hx hb hml hown hts hKs hT hb0 hH (As := [.int a_1, .int 0, .int 1]) (rest := []) (k_X13_lays l E K H.size o a_1 0 1 w ho hq1) (gV m8_46 m8_48 ms_82 m1_16 m8_49) hd_X13_lays ⟨Nat.le_of_ble_eq_true rfl, Nat.le_of_ble_eq_true rfl, rfl, rfl⟩ rfl ho rfl rfl rfl hl.1 rfl rc0 rfl dX13_plans_4 ⟨Nat.zero_le _, Nat.zero_le _⟩ (fun H locs hH => ?_)
  refine hl_aload_n hx hb dX13_plans_7 rfl (lv_at hl 0 rfl) ?_
  refine lv_iload_n hx hb dX13_plans_8 rfl (lv_at hl 1 rfl) ?_
  refine lv_iconst (v := 3) hx hb dX13_plans_9 (by decide) ?_
  refine lv_iload_n hx hb dX13_plans_10 rfl (lv_at hl 2 rfl) ?_
  obtain ⟨q2, hq2, hf⟩ := bnd hf
  refine hcV_v hx hb hml hown hts hKs hT hb0 hH (As := [.int a_1, .int 3, .int a_2]) (rest := []) (k_X13_lays l E K H.size o a_1 3 a_2 q1 ho hq2) (gV m8_46 m8_48 ms_82 m1_16 m8_49) hd_X13_lays ⟨Nat.le_of_ble_eq_true rfl, Nat.le_of_ble_eq_true rfl, rfl, rfl⟩ rfl ho rfl rfl rfl hl.1 rfl rc0 rfl dX13_plans_11 ⟨Nat.zero_le _, Nat.zero_le _⟩ (fun H locs hH => ?_)
  refine hl_aload_n hx hb dX13_plans_14 rfl (lv_at hl 0 rfl) ?_
  refine lv_iload_n hx hb dX13_plans_15 rfl (lv_at hl 1 rfl) ?_
  refine lv_iconst (v := 4) hx hb dX13_plans_16 (by decide) ?_
  refine lv_iload_n hx hb dX13_plans_17 rfl (lv_at hl 3 rfl) ?_
  obtain ⟨q3, hq3, hf⟩ := bnd hf
  refine hcV_v hx hb hml hown hts hKs hT hb0 hH (As := [.int a_1, .int 4, .int a_3]) (rest := []) (k_X13_lays l E K H.size o a_1 4 a_3 q2 ho hq3) (gV m8_46 m8_48 ms_82 m1_16 m8_49) hd_X13_lays ⟨Nat.le_of_ble_eq_true rfl, Nat.le_of_ble_eq_true rfl, rfl, rfl⟩ rfl ho rfl rfl rfl hl.1 rfl rc0 rfl dX13_plans_18 ⟨Nat.zero_le _, Nat.zero_le _⟩ (fun H locs hH => ?_)
  refine hl_aload_n hx hb dX13_plans_21 rfl (lv_at hl 0 rfl) ?_
  refine lv_iload_n hx hb dX13_plans_22 rfl (lv_at hl 1 rfl) ?_
  refine lv_iconst (v := 5) hx hb dX13_plans_23 (by decide) ?_
  refine lv_iload hx hb dX13_plans_24 (lv_at hl 4 rfl) ?_
  obtain ⟨q4, hq4, hf⟩ := bnd hf
  refine hcV_v hx hb hml hown hts hKs hT hb0 hH (As := [.int a_1, .int 5, .int a_4]) (rest := []) (k_X13_lays l E K H.size o a_1 5 a_4 q3 ho hq4) (gV m8_46 m8_48 ms_82 m1_16 m8_49) hd_X13_lays ⟨Nat.le_of_ble_eq_true rfl, Nat.le_of_ble_eq_true rfl, rfl, rfl⟩ rfl ho rfl rfl rfl hl.1 rfl rc0 rfl dX13_plans_26 ⟨Nat.zero_le _, Nat.zero_le _⟩ (fun H locs hH => ?_)
  refine hl_aload_n hx hb dX13_plans_29 rfl (lv_at hl 0 rfl) ?_
  refine lv_iload_n hx hb dX13_plans_30 rfl (lv_at hl 1 rfl) ?_
  refine lv_bipush (v := 6) hx hb dX13_plans_31 (by decide) ?_
  refine lv_iload hx hb dX13_plans_33 (lv_at hl 5 rfl) ?_
  obtain ⟨q5, hq5, hf⟩ := bnd hf
  refine hcV_v hx hb hml hown hts hKs hT hb0 hH (As := [.int a_1, .int 6, .int a_5]) (rest := []) (k_X13_lays l E K H.size o a_1 6 a_5 q4 ho hq5) (gV m8_46 m8_48 ms_82 m1_16 m8_49) hd_X13_lays ⟨Nat.le_of_ble_eq_true rfl, Nat.le_of_ble_eq_true rfl, rfl, rfl⟩ rfl ho rfl rfl rfl hl.1 rfl rc0 rfl dX13_plans_35 ⟨Nat.zero_le _, Nat.zero_le _⟩ (fun H locs hH => ?_)
  exact hw_vret hx hb hret hf hH hlocks dX13_plans_38

theorem dX13_plan_0 : decode cX13_plan 0 = .ok (.aload_n 0, 1) := by decide +kernel
theorem dX13_plan_1 : decode cX13_plan 1 = .ok (.aload_n 0, 1) := by decide +kernel
theorem dX13_plan_2 : decode cX13_plan 2 = .ok (.iload_n 1, 1) := by decide +kernel
theorem dX13_plan_3 : decode cX13_plan 3 = .ok (.iload 4, 2) := by decide +kernel
theorem dX13_plan_5 : decode cX13_plan 5 = .ok (.iload 5, 2) := by decide +kernel
theorem dX13_plan_7 : decode cX13_plan 7 = .ok (.invokevirtual 208, 3) := by decide +kernel
theorem dX13_plan_10 : decode cX13_plan 10 = .ok (.invokevirtual 110, 3) := by decide +kernel
theorem dX13_plan_13 : decode cX13_plan 13 = .ok (.ifCond .eq 51, 3) := by decide +kernel
theorem dX13_plan_16 : decode cX13_plan 16 = .ok (.aload_n 0, 1) := by decide +kernel
theorem dX13_plan_17 : decode cX13_plan 17 = .ok (.iload_n 2, 1) := by decide +kernel
theorem dX13_plan_18 : decode cX13_plan 18 = .ok (.iload_n 3, 1) := by decide +kernel
theorem dX13_plan_19 : decode cX13_plan 19 = .ok (.invokestatic 211, 3) := by decide +kernel
theorem dX13_plan_22 : decode cX13_plan 22 = .ok (.iconst 2, 1) := by decide +kernel
theorem dX13_plan_23 : decode cX13_plan 23 = .ok (.invokevirtual 214, 3) := by decide +kernel
theorem dX13_plan_26 : decode cX13_plan 26 = .ok (.ifCond .eq 38, 3) := by decide +kernel
theorem dX13_plan_29 : decode cX13_plan 29 = .ok (.aload_n 0, 1) := by decide +kernel
theorem dX13_plan_30 : decode cX13_plan 30 = .ok (.aload_n 0, 1) := by decide +kernel
theorem dX13_plan_31 : decode cX13_plan 31 = .ok (.iload_n 1, 1) := by decide +kernel
theorem dX13_plan_32 : decode cX13_plan 32 = .ok (.invokevirtual 218, 3) := by decide +kernel
theorem dX13_plan_35 : decode cX13_plan 35 = .ok (.ifCond .eq 21, 3) := by decide +kernel
theorem dX13_plan_38 : decode cX13_plan 38 = .ok (.aload_n 0, 1) := by decide +kernel
theorem dX13_plan_39 : decode cX13_plan 39 = .ok (.iload_n 1, 1) := by decide +kernel
theorem dX13_plan_40 : decode cX13_plan 40 = .ok (.iload_n 2, 1) := by decide +kernel
theorem dX13_plan_41 : decode cX13_plan 41 = .ok (.iload_n 3, 1) := by decide +kernel
theorem dX13_plan_42 : decode cX13_plan 42 = .ok (.iload 4, 2) := by decide +kernel
theorem dX13_plan_44 : decode cX13_plan 44 = .ok (.iload 5, 2) := by decide +kernel
theorem dX13_plan_46 : decode cX13_plan 46 = .ok (.invokevirtual 221, 3) := by decide +kernel
theorem dX13_plan_49 : decode cX13_plan 49 = .ok (.ifCond .ne 7, 3) := by decide +kernel
theorem dX13_plan_52 : decode cX13_plan 52 = .ok (.iconst 1, 1) := by decide +kernel
theorem dX13_plan_53 : decode cX13_plan 53 = .ok (.goto 4, 3) := by decide +kernel
theorem dX13_plan_56 : decode cX13_plan 56 = .ok (.iconst 0, 1) := by decide +kernel
theorem dX13_plan_57 : decode cX13_plan 57 = .ok (.iconst 3, 1) := by decide +kernel
theorem dX13_plan_58 : decode cX13_plan 58 = .ok (.invokevirtual 214, 3) := by decide +kernel
theorem dX13_plan_61 : decode cX13_plan 61 = .ok (.ifCond .ne 5, 3) := by decide +kernel
theorem dX13_plan_64 : decode cX13_plan 64 = .ok (.iconst 0, 1) := by decide +kernel
theorem dX13_plan_65 : decode cX13_plan 65 = .ok (.ireturn, 1) := by decide +kernel
theorem dX13_plan_66 : decode cX13_plan 66 = .ok (.aload_n 0, 1) := by decide +kernel
theorem dX13_plan_67 : decode cX13_plan 67 = .ok (.invokevirtual 262, 3) := by decide +kernel
theorem dX13_plan_70 : decode cX13_plan 70 = .ok (.aload_n 0, 1) := by decide +kernel
theorem dX13_plan_71 : decode cX13_plan 71 = .ok (.iload_n 1, 1) := by decide +kernel
theorem dX13_plan_72 : decode cX13_plan 72 = .ok (.iload_n 2, 1) := by decide +kernel
theorem dX13_plan_73 : decode cX13_plan 73 = .ok (.iload_n 3, 1) := by decide +kernel
theorem dX13_plan_74 : decode cX13_plan 74 = .ok (.iload 4, 2) := by decide +kernel
theorem dX13_plan_76 : decode cX13_plan 76 = .ok (.iload 5, 2) := by decide +kernel
theorem dX13_plan_78 : decode cX13_plan 78 = .ok (.invokevirtual 265, 3) := by decide +kernel
theorem dX13_plan_81 : decode cX13_plan 81 = .ok (.aload_n 0, 1) := by decide +kernel
theorem dX13_plan_82 : decode cX13_plan 82 = .ok (.aload_n 0, 1) := by decide +kernel
theorem dX13_plan_83 : decode cX13_plan 83 = .ok (.iload_n 2, 1) := by decide +kernel
theorem dX13_plan_84 : decode cX13_plan 84 = .ok (.iconst 1, 1) := by decide +kernel
theorem dX13_plan_85 : decode cX13_plan 85 = .ok (.iadd, 1) := by decide +kernel
theorem dX13_plan_86 : decode cX13_plan 86 = .ok (.aload_n 0, 1) := by decide +kernel
theorem dX13_plan_87 : decode cX13_plan 87 = .ok (.iload_n 1, 1) := by decide +kernel
theorem dX13_plan_88 : decode cX13_plan 88 = .ok (.invokevirtual 144, 3) := by decide +kernel
theorem dX13_plan_91 : decode cX13_plan 91 = .ok (.invokevirtual 134, 3) := by decide +kernel
theorem dX13_plan_94 : decode cX13_plan 94 = .ok (.invokevirtual 269, 3) := by decide +kernel
theorem dX13_plan_97 : decode cX13_plan 97 = .ok (.ireturn, 1) := by decide +kernel
theorem hd_X13_plan : yX13_plan.cls = RX13 ∧ yX13_plan.cls ≠ "java/lang/invoke/MethodHandle" ∧ yX13_plan.cls ≠ "java/lang/invoke/VarHandle" ∧ (parseMethodDescriptor yX13_plan.desc).map (fun d => d.parameters.length) = some 5 := by decide +kernel
theorem hs_X13_plan : yX13_plan.cls ≠ "java/lang/invoke/MethodHandle" ∧ yX13_plan.cls ≠ "java/lang/invoke/VarHandle" ∧ (parseMethodDescriptor yX13_plan.desc).map (fun d => d.parameters.length) = some 5 := by decide +kernel
set_option maxHeartbeats 4000000 in
set_option maxRecDepth 100000 in
theorem k_X13_plan (l : Launch) (E : Ev) (K : Kd) (z : Nat) (o : Nat) (a_1 : Int32) (a_2 : Int32) (a_3 : Int32) (a_4 : Int32) (a_5 : Int32) (w : Wd) (ho : K o = some (11, 0)) {r : Int32} {w' : Wd} (hf : f_X13_plan K o a_1 a_2 a_3 a_4 a_5 w = some (r, w')) : Met l yX13_plan (Cond.code yX13_plan cX13_plan 6 (Option.some Jvm.ClassFile.FieldType.int) :: bt) ({ frames := 7, cells := 0, slots := 0, locals := 165 } : Room) (va_Pc [rv E (some o), .int a_1, .int a_2, .int a_3, .int a_4, .int a_5] (HB E K w z)) (QI E K z w' r) 0 0 (hA E) := by
  refine Met.ofW (cc := cX13_plan) (maxL := 6) (ret := (Option.some Jvm.ClassFile.FieldType.int)) (by decide) rfl ?_
  intro p e s m args below meth c s₁ B hml hv
  obtain ⟨rfl, hz, hP, hKs, hT, hb0⟩ := hv
  have C : CX p l e s m _ meth c cX13_plan 6 RX13 (Option.some Jvm.ClassFile.FieldType.int) E := ⟨B.exec, B.bytes, hml, findClass_of_methodNamed B.named, fun w h => atoms_spec (ws := Cond.code yX13_plan cX13_plan 6 (Option.some Jvm.ClassFile.FieldType.int) :: bt) B.pre w (List.mem_cons_of_mem _ h), hKs, hT, by rw [hz]; exact hb0, B.notSynchronized, B.returns⟩
  have hH : HQ E K z w s s.heap [] := ⟨hP, va_S.rf, hz⟩
  obtain ⟨hx, hb, hml, hown, hts, hKs, hT, hb0, hlocks, hret⟩ := id C
  have hl := lv_entry [rv E (some o), .int a_1, .int a_2, .int a_3, .int a_4, .int a_5] (n := 6) (by simp [lg_len_nil, lg_len_i, lg_len_j, lg_len_q, lg_len_f, lg_len_d, lg_len_r])
  rw [lg_entry_eq]
  generalize (lg_sl [rv E (some o), .int a_1, .int a_2, .int a_3, .int a_4, .int a_5] ++ List.replicate (6 - (lg_sl [rv E (some o), .int a_1, .int a_2, .int a_3, .int a_4, .int a_5]).length) Slot.unset).toArray = ls at hl ⊢
  replace hl : lv_has ls 6 [(0, rv E (some o)), (1, .int a_1), (2, .int a_2), (3, .int a_3), (4, .int a_4), (5, .int a_5)] := by simpa only [lv_args, cat_q, cat_i, cat_j, reduceIte, Nat.reduceEqDiff, Nat.reduceAdd, Nat.zero_add] using hl
  generalize s.heap = H at hH ⊢
  unfold f_X13_plan at hf
  refine hl_aload_n hx hb dX13_plan_0 rfl (lv_at hl 0 rfl) ?_
  refine hl_aload_n hx hb dX13_plan_1 rfl (lv_at hl 0 rfl) ?_
  refine lv_iload_n hx hb dX13_plan_2 rfl (lv_at hl 1 rfl) ?_
  refine lv_iload hx hb dX13_plan_3 (lv_at hl 4 rfl) ?_
  refine lv_iload hx hb dX13_plan_5 (lv_at hl 5 rfl) ?_
  obtain ⟨q1, hq1, hf⟩ := bnd hf
  refine hcV_i hx hb hml hown hts hKs hT hb0 hH (As := [.int a_1, .int a_4, .int a_5]) (rest := [rv E (some o)]) (k_X13_areThere l E K H.size o a_1 a_4 a_5 w ho hq1) (gV m7_167 m7_169 ms_58 m1_16 m7_170) hd_X13_areThere ⟨Nat.le_of_ble_eq_true rfl, Nat.le_of_ble_eq_true rfl, rfl, rfl⟩ rfl ho rfl rfl rfl hl.1 rfl (rcV rc0) rfl dX13_plan_7 ⟨Nat.zero_le _, Nat.zero_le _⟩ (fun H locs hH => ?_)
  obtain ⟨q2, hq2, hf⟩ := bnd hf
  refine hcV_i hx hb hml hown hts hKs hT hb0 hH (As := [.int (b2i q1.1)]) (rest := []) (k_X13_is l E K H.size o q1.1 q1.2 ho hq2) (gV m7_68 m7_70 ms_47 m1_16 m7_71) hd_X13_is ⟨Nat.le_of_ble_eq_true rfl, Nat.le_of_ble_eq_true rfl, rfl, rfl⟩ rfl ho rfl rfl rfl hl.1 rfl rc0 rfl dX13_plan_10 ⟨Nat.zero_le _, Nat.zero_le _⟩ (fun H locs hH => ?_)
  refine lv_if_eq (tgt := 64) hx hb dX13_plan_13 (by decide) (fun c3 => ?_) (fun c3 => ?_)
  · replace hf := (if_pos c3).symm.trans hf
    refine lv_iconst (v := 0) hx hb dX13_plan_64 (by decide) ?_
    exact hw_iret hx hb hret hf hH hlocks dX13_plan_65
  · replace hf := (if_neg c3).symm.trans hf
    refine hl_aload_n hx hb dX13_plan_16 rfl (lv_at hl 0 rfl) ?_
    refine lv_iload_n hx hb dX13_plan_17 rfl (lv_at hl 2 rfl) ?_
    refine lv_iload_n hx hb dX13_plan_18 rfl (lv_at hl 3 rfl) ?_
    obtain ⟨q4, hq4, hf⟩ := bnd hf
    refine hcS_i hx hb hml hown hts hKs hT hb0 hH (As := [.int a_2, .int a_3]) (rest := [rv E (some o)]) (k_X13_isTime l E K H.size a_2 a_3 q2.2 hq4) (gS m7_179 m7_180 m1_16 m7_181) hs_X13_isTime ⟨Nat.le_of_ble_eq_true rfl, Nat.le_of_ble_eq_true rfl, rfl, rfl⟩ hl.1 rfl (rcV rc0) rfl dX13_plan_19 ⟨Nat.zero_le _, Nat.zero_le _⟩ (fun H locs hH => ?_)
    refine lv_iconst (v := 2) hx hb dX13_plan_22 (by decide) ?_
    obtain ⟨q5, hq5, hf⟩ := bnd hf
    refine hcV_i hx hb hml hown hts hKs hT hb0 hH (As := [.int (b2i q4.1), .int 2]) (rest := []) (k_X13_may l E K H.size o q4.1 2 q4.2 ho hq5) (gV m7_183 m7_185 ms_61 m1_16 m7_186) hd_X13_may ⟨Nat.le_of_ble_eq_true rfl, Nat.le_of_ble_eq_true rfl, rfl, rfl⟩ rfl ho rfl rfl rfl hl.1 rfl rc0 rfl dX13_plan_23 ⟨Nat.zero_le _, Nat.zero_le _⟩ (fun H locs hH => ?_)
    refine lv_if_eq (tgt := 64) hx hb dX13_plan_26 (by decide) (fun c6 => ?_) (fun c6 => ?_)
    · replace hf := (if_pos c6).symm.trans hf
      refine lv_iconst (v := 0) hx hb dX13_plan_64 (by decide) ?_
      exact hw_iret hx hb hret hf hH hlocks dX13_plan_65
    · replace hf := (if_neg c6).symm.trans hf
      refine hl_aload_n hx hb dX13_plan_29 rfl (lv_at hl 0 rfl) ?_
      refine hl_aload_n hx hb dX13_plan_30 rfl (lv_at hl 0 rfl) ?_
      refine lv_iload_n hx hb dX13_plan_31 rfl (lv_at hl 1 rfl) ?_
      obtain ⟨q7, hq7, hf⟩ := bnd hf
      refine hcV_i hx hb hml hown hts hKs hT hb0 hH (As := [.int a_1]) (rest := [rv E (some o)]) (k_X13_isOpen l E K H.size o a_1 q5.2 ho hq7) (gV m7_187 m7_189 ms_62 m1_16 m7_190) hd_X13_isOpen ⟨Nat.le_of_ble_eq_true rfl, Nat.le_of_ble_eq_true rfl, rfl, rfl⟩ rfl ho rfl rfl rfl hl.1 rfl (rcV rc0) rfl dX13_plan_32 ⟨Nat.zero_le _, Nat.zero_le _⟩ (fun H locs hH => ?_)
      refine lv_if_eq (tgt := 56) hx hb dX13_plan_35 (by decide) (fun c8 => ?_) (fun c8 => ?_)
      · replace hf := (if_pos c8).symm.trans hf
        refine lv_iconst (v := 0) hx hb dX13_plan_56 (by decide) ?_
        refine lv_iconst (v := 3) hx hb dX13_plan_57 (by decide) ?_
        obtain ⟨q9, hq9, hf⟩ := bnd hf
        refine hcV_i hx hb hml hown hts hKs hT hb0 hH (As := [.int 0, .int 3]) (rest := []) (k_X13_may l E K H.size o false 3 q7.2 ho hq9) (gV m7_183 m7_185 ms_61 m1_16 m7_186) hd_X13_may ⟨Nat.le_of_ble_eq_true rfl, Nat.le_of_ble_eq_true rfl, rfl, rfl⟩ rfl ho rfl rfl rfl hl.1 rfl rc0 rfl dX13_plan_58 ⟨Nat.zero_le _, Nat.zero_le _⟩ (fun H locs hH => ?_)
        refine lv_if_ne (tgt := 66) hx hb dX13_plan_61 (by decide) (fun c10 => ?_) (fun c10 => ?_)
        · replace hf := (if_neg c10).symm.trans hf
          refine hl_aload_n hx hb dX13_plan_66 rfl (lv_at hl 0 rfl) ?_
          obtain ⟨q11, hq11, hf⟩ := bnd hf
          refine hcV_v hx hb hml hown hts hKs hT hb0 hH (As := []) (rest := []) (k_X13_starts l E K H.size o q9.2 ho hq11) (gV m8_38 m8_40 ms_80 m1_16 m8_41) hd_X13_starts ⟨Nat.le_of_ble_eq_true rfl, Nat.le_of_ble_eq_true rfl, rfl, rfl⟩ rfl ho rfl rfl rfl hl.1 rfl rc0 rfl dX13_plan_67 ⟨Nat.zero_le _, Nat.zero_le _⟩ (fun H locs hH => ?_)
          refine hl_aload_n hx hb dX13_plan_70 rfl (lv_at hl 0 rfl) ?_
          refine lv_iload_n hx hb dX13_plan_71 rfl (lv_at hl 1 rfl) ?_
          refine lv_iload_n hx hb dX13_plan_72 rfl (lv_at hl 2 rfl) ?_
          refine lv_iload_n hx hb dX13_plan_73 rfl (lv_at hl 3 rfl) ?_
          refine lv_iload hx hb dX13_plan_74 (lv_at hl 4 rfl) ?_
          refine lv_iload hx hb dX13_plan_76 (lv_at hl 5 rfl) ?_
          obtain ⟨q12, hq12, hf⟩ := bnd hf
          refine hcV_v hx hb hml hown hts hKs hT hb0 hH (As := [.int a_1, .int a_2, .int a_3, .int a_4, .int a_5]) (rest := []) (k_X13_plans l E K H.size o a_1 a_2 a_3 a_4 a_5 q11 ho hq12) (gV m8_42 m8_44 ms_81 m1_16 m8_45) hd_X13_plans ⟨Nat.le_of_ble_eq_true rfl, Nat.le_of_ble_eq_true rfl, rfl, rfl⟩ rfl ho rfl rfl rfl hl.1 rfl rc0 rfl dX13_plan_78 ⟨Nat.zero_le _, Nat.zero_le _⟩ (fun H locs hH => ?_)
          refine hl_aload_n hx hb dX13_plan_81 rfl (lv_at hl 0 rfl) ?_
          refine hl_aload_n hx hb dX13_plan_82 rfl (lv_at hl 0 rfl) ?_
          refine lv_iload_n hx hb dX13_plan_83 rfl (lv_at hl 2 rfl) ?_
          refine lv_iconst (v := 1) hx hb dX13_plan_84 (by decide) ?_
          refine lv_iadd hx hb dX13_plan_85 ?_
          refine hl_aload_n hx hb dX13_plan_86 rfl (lv_at hl 0 rfl) ?_
          refine lv_iload_n hx hb dX13_plan_87 rfl (lv_at hl 1 rfl) ?_
          obtain ⟨q13, hq13, hf⟩ := bnd hf
          refine hcV_i hx hb hml hown hts hKs hT hb0 hH (As := [.int a_1]) (rest := [.int ((a_2 + 1)), rv E (some o), rv E (some o)]) (k_X13_limitDay l E K H.size o a_1 q12 ho hq13) (gV m7_122 m7_124 ms_53 m1_16 m7_125) hd_X13_limitDay ⟨Nat.le_of_ble_eq_true rfl, Nat.le_of_ble_eq_true rfl, rfl, rfl⟩ rfl ho rfl rfl rfl hl.1 rfl (rcI (rcV (rcV rc0))) rfl dX13_plan_88 ⟨Nat.zero_le _, Nat.zero_le _⟩ (fun H locs hH => ?_)
          obtain ⟨q14, hq14, hf⟩ := bnd hf
          refine hcV_i hx hb hml hown hts hKs hT hb0 hH (As := [.int ((a_2 + 1)), .int (q13.1)]) (rest := [rv E (some o)]) (k_X13_workingIn l E K H.size o (a_2 + 1) q13.1 q13.2 ho hq14) (gV m7_106 m7_108 ms_50 m1_16 m7_109) hd_X13_workingIn ⟨Nat.le_of_ble_eq_true rfl, Nat.le_of_ble_eq_true rfl, rfl, rfl⟩ rfl ho rfl rfl rfl hl.1 rfl (rcV rc0) rfl dX13_plan_91 ⟨Nat.zero_le _, Nat.zero_le _⟩ (fun H locs hH => ?_)
          obtain ⟨q15, hq15, hf⟩ := bnd hf
          refine hcV_i hx hb hml hown hts hKs hT hb0 hH (As := [.int (q14.1)]) (rest := []) (k_X13_done l E K H.size o q14.1 q14.2 ho hq15) (gV m8_50 m8_52 ms_83 m1_16 m8_53) hd_X13_done ⟨Nat.le_of_ble_eq_true rfl, Nat.le_of_ble_eq_true rfl, rfl, rfl⟩ rfl ho rfl rfl rfl hl.1 rfl rc0 rfl dX13_plan_94 ⟨Nat.zero_le _, Nat.zero_le _⟩ (fun H locs hH => ?_)
          exact hw_iret hx hb hret hf hH hlocks dX13_plan_97
        · replace hf := (if_pos c10).symm.trans hf
          refine lv_iconst (v := 0) hx hb dX13_plan_64 (by decide) ?_
          exact hw_iret hx hb hret hf hH hlocks dX13_plan_65
      · replace hf := (if_neg c8).symm.trans hf
        refine hl_aload_n hx hb dX13_plan_38 rfl (lv_at hl 0 rfl) ?_
        refine lv_iload_n hx hb dX13_plan_39 rfl (lv_at hl 1 rfl) ?_
        refine lv_iload_n hx hb dX13_plan_40 rfl (lv_at hl 2 rfl) ?_
        refine lv_iload_n hx hb dX13_plan_41 rfl (lv_at hl 3 rfl) ?_
        refine lv_iload hx hb dX13_plan_42 (lv_at hl 4 rfl) ?_
        refine lv_iload hx hb dX13_plan_44 (lv_at hl 5 rfl) ?_
        obtain ⟨q16, hq16, hf⟩ := bnd hf
        refine hcV_i hx hb hml hown hts hKs hT hb0 hH (As := [.int a_1, .int a_2, .int a_3, .int a_4, .int a_5]) (rest := [rv E (some o)]) (k_X13_problemOf l E K H.size o a_1 a_2 a_3 a_4 a_5 q7.2 ho hq16) (gV m7_191 m7_193 ms_63 m1_16 m7_194) hd_X13_problemOf ⟨Nat.le_of_ble_eq_true rfl, Nat.le_of_ble_eq_true rfl, rfl, rfl⟩ rfl ho rfl rfl rfl hl.1 rfl (rcV rc0) rfl dX13_plan_46 ⟨Nat.zero_le _, Nat.zero_le _⟩ (fun H locs hH => ?_)
        refine lv_if_ne (tgt := 56) hx hb dX13_plan_49 (by decide) (fun c17 => ?_) (fun c17 => ?_)
        · replace hf := (if_neg c17).symm.trans hf
          refine lv_iconst (v := 0) hx hb dX13_plan_56 (by decide) ?_
          refine lv_iconst (v := 3) hx hb dX13_plan_57 (by decide) ?_
          obtain ⟨q18, hq18, hf⟩ := bnd hf
          refine hcV_i hx hb hml hown hts hKs hT hb0 hH (As := [.int 0, .int 3]) (rest := []) (k_X13_may l E K H.size o false 3 q16.2 ho hq18) (gV m7_183 m7_185 ms_61 m1_16 m7_186) hd_X13_may ⟨Nat.le_of_ble_eq_true rfl, Nat.le_of_ble_eq_true rfl, rfl, rfl⟩ rfl ho rfl rfl rfl hl.1 rfl rc0 rfl dX13_plan_58 ⟨Nat.zero_le _, Nat.zero_le _⟩ (fun H locs hH => ?_)
          refine lv_if_ne (tgt := 66) hx hb dX13_plan_61 (by decide) (fun c19 => ?_) (fun c19 => ?_)
          · replace hf := (if_neg c19).symm.trans hf
            refine hl_aload_n hx hb dX13_plan_66 rfl (lv_at hl 0 rfl) ?_
            obtain ⟨q20, hq20, hf⟩ := bnd hf
            refine hcV_v hx hb hml hown hts hKs hT hb0 hH (As := []) (rest := []) (k_X13_starts l E K H.size o q18.2 ho hq20) (gV m8_38 m8_40 ms_80 m1_16 m8_41) hd_X13_starts ⟨Nat.le_of_ble_eq_true rfl, Nat.le_of_ble_eq_true rfl, rfl, rfl⟩ rfl ho rfl rfl rfl hl.1 rfl rc0 rfl dX13_plan_67 ⟨Nat.zero_le _, Nat.zero_le _⟩ (fun H locs hH => ?_)
            refine hl_aload_n hx hb dX13_plan_70 rfl (lv_at hl 0 rfl) ?_
            refine lv_iload_n hx hb dX13_plan_71 rfl (lv_at hl 1 rfl) ?_
            refine lv_iload_n hx hb dX13_plan_72 rfl (lv_at hl 2 rfl) ?_
            refine lv_iload_n hx hb dX13_plan_73 rfl (lv_at hl 3 rfl) ?_
            refine lv_iload hx hb dX13_plan_74 (lv_at hl 4 rfl) ?_
            refine lv_iload hx hb dX13_plan_76 (lv_at hl 5 rfl) ?_
            obtain ⟨q21, hq21, hf⟩ := bnd hf
            refine hcV_v hx hb hml hown hts hKs hT hb0 hH (As := [.int a_1, .int a_2, .int a_3, .int a_4, .int a_5]) (rest := []) (k_X13_plans l E K H.size o a_1 a_2 a_3 a_4 a_5 q20 ho hq21) (gV m8_42 m8_44 ms_81 m1_16 m8_45) hd_X13_plans ⟨Nat.le_of_ble_eq_true rfl, Nat.le_of_ble_eq_true rfl, rfl, rfl⟩ rfl ho rfl rfl rfl hl.1 rfl rc0 rfl dX13_plan_78 ⟨Nat.zero_le _, Nat.zero_le _⟩ (fun H locs hH => ?_)
            refine hl_aload_n hx hb dX13_plan_81 rfl (lv_at hl 0 rfl) ?_
            refine hl_aload_n hx hb dX13_plan_82 rfl (lv_at hl 0 rfl) ?_
            refine lv_iload_n hx hb dX13_plan_83 rfl (lv_at hl 2 rfl) ?_
            refine lv_iconst (v := 1) hx hb dX13_plan_84 (by decide) ?_
            refine lv_iadd hx hb dX13_plan_85 ?_
            refine hl_aload_n hx hb dX13_plan_86 rfl (lv_at hl 0 rfl) ?_
            refine lv_iload_n hx hb dX13_plan_87 rfl (lv_at hl 1 rfl) ?_
            obtain ⟨q22, hq22, hf⟩ := bnd hf
            refine hcV_i hx hb hml hown hts hKs hT hb0 hH (As := [.int a_1]) (rest := [.int ((a_2 + 1)), rv E (some o), rv E (some o)]) (k_X13_limitDay l E K H.size o a_1 q21 ho hq22) (gV m7_122 m7_124 ms_53 m1_16 m7_125) hd_X13_limitDay ⟨Nat.le_of_ble_eq_true rfl, Nat.le_of_ble_eq_true rfl, rfl, rfl⟩ rfl ho rfl rfl rfl hl.1 rfl (rcI (rcV (rcV rc0))) rfl dX13_plan_88 ⟨Nat.zero_le _, Nat.zero_le _⟩ (fun H locs hH => ?_)
            obtain ⟨q23, hq23, hf⟩ := bnd hf
            refine hcV_i hx hb hml hown hts hKs hT hb0 hH (As := [.int ((a_2 + 1)), .int (q22.1)]) (rest := [rv E (some o)]) (k_X13_workingIn l E K H.size o (a_2 + 1) q22.1 q22.2 ho hq23) (gV m7_106 m7_108 ms_50 m1_16 m7_109) hd_X13_workingIn ⟨Nat.le_of_ble_eq_true rfl, Nat.le_of_ble_eq_true rfl, rfl, rfl⟩ rfl ho rfl rfl rfl hl.1 rfl (rcV rc0) rfl dX13_plan_91 ⟨Nat.zero_le _, Nat.zero_le _⟩ (fun H locs hH => ?_)
            obtain ⟨q24, hq24, hf⟩ := bnd hf
            refine hcV_i hx hb hml hown hts hKs hT hb0 hH (As := [.int (q23.1)]) (rest := []) (k_X13_done l E K H.size o q23.1 q23.2 ho hq24) (gV m8_50 m8_52 ms_83 m1_16 m8_53) hd_X13_done ⟨Nat.le_of_ble_eq_true rfl, Nat.le_of_ble_eq_true rfl, rfl, rfl⟩ rfl ho rfl rfl rfl hl.1 rfl rc0 rfl dX13_plan_94 ⟨Nat.zero_le _, Nat.zero_le _⟩ (fun H locs hH => ?_)
            exact hw_iret hx hb hret hf hH hlocks dX13_plan_97
          · replace hf := (if_pos c19).symm.trans hf
            refine lv_iconst (v := 0) hx hb dX13_plan_64 (by decide) ?_
            exact hw_iret hx hb hret hf hH hlocks dX13_plan_65
        · replace hf := (if_pos c17).symm.trans hf
          refine lv_iconst (v := 1) hx hb dX13_plan_52 (by decide) ?_
          refine lv_goto (tgt := 57) hx hb dX13_plan_53 (by decide) ?_
          refine lv_iconst (v := 3) hx hb dX13_plan_57 (by decide) ?_
          obtain ⟨q25, hq25, hf⟩ := bnd hf
          refine hcV_i hx hb hml hown hts hKs hT hb0 hH (As := [.int 1, .int 3]) (rest := []) (k_X13_may l E K H.size o true 3 q16.2 ho hq25) (gV m7_183 m7_185 ms_61 m1_16 m7_186) hd_X13_may ⟨Nat.le_of_ble_eq_true rfl, Nat.le_of_ble_eq_true rfl, rfl, rfl⟩ rfl ho rfl rfl rfl hl.1 rfl rc0 rfl dX13_plan_58 ⟨Nat.zero_le _, Nat.zero_le _⟩ (fun H locs hH => ?_)
          refine lv_if_ne (tgt := 66) hx hb dX13_plan_61 (by decide) (fun c26 => ?_) (fun c26 => ?_)
          · replace hf := (if_neg c26).symm.trans hf
            refine hl_aload_n hx hb dX13_plan_66 rfl (lv_at hl 0 rfl) ?_
            obtain ⟨q27, hq27, hf⟩ := bnd hf
            refine hcV_v hx hb hml hown hts hKs hT hb0 hH (As := []) (rest := []) (k_X13_starts l E K H.size o q25.2 ho hq27) (gV m8_38 m8_40 ms_80 m1_16 m8_41) hd_X13_starts ⟨Nat.le_of_ble_eq_true rfl, Nat.le_of_ble_eq_true rfl, rfl, rfl⟩ rfl ho rfl rfl rfl hl.1 rfl rc0 rfl dX13_plan_67 ⟨Nat.zero_le _, Nat.zero_le _⟩ (fun H locs hH => ?_)
            refine hl_aload_n hx hb dX13_plan_70 rfl (lv_at hl 0 rfl) ?_
            refine lv_iload_n hx hb dX13_plan_71 rfl (lv_at hl 1 rfl) ?_
            refine lv_iload_n hx hb dX13_plan_72 rfl (lv_at hl 2 rfl) ?_
            refine lv_iload_n hx hb dX13_plan_73 rfl (lv_at hl 3 rfl) ?_
            refine lv_iload hx hb dX13_plan_74 (lv_at hl 4 rfl) ?_
            refine lv_iload hx hb dX13_plan_76 (lv_at hl 5 rfl) ?_
            obtain ⟨q28, hq28, hf⟩ := bnd hf
            refine hcV_v hx hb hml hown hts hKs hT hb0 hH (As := [.int a_1, .int a_2, .int a_3, .int a_4, .int a_5]) (rest := []) (k_X13_plans l E K H.size o a_1 a_2 a_3 a_4 a_5 q27 ho hq28) (gV m8_42 m8_44 ms_81 m1_16 m8_45) hd_X13_plans ⟨Nat.le_of_ble_eq_true rfl, Nat.le_of_ble_eq_true rfl, rfl, rfl⟩ rfl ho rfl rfl rfl hl.1 rfl rc0 rfl dX13_plan_78 ⟨Nat.zero_le _, Nat.zero_le _⟩ (fun H locs hH => ?_)
            refine hl_aload_n hx hb dX13_plan_81 rfl (lv_at hl 0 rfl) ?_
            refine hl_aload_n hx hb dX13_plan_82 rfl (lv_at hl 0 rfl) ?_
            refine lv_iload_n hx hb dX13_plan_83 rfl (lv_at hl 2 rfl) ?_
            refine lv_iconst (v := 1) hx hb dX13_plan_84 (by decide) ?_
            refine lv_iadd hx hb dX13_plan_85 ?_
            refine hl_aload_n hx hb dX13_plan_86 rfl (lv_at hl 0 rfl) ?_
            refine lv_iload_n hx hb dX13_plan_87 rfl (lv_at hl 1 rfl) ?_
            obtain ⟨q29, hq29, hf⟩ := bnd hf
            refine hcV_i hx hb hml hown hts hKs hT hb0 hH (As := [.int a_1]) (rest := [.int ((a_2 + 1)), rv E (some o), rv E (some o)]) (k_X13_limitDay l E K H.size o a_1 q28 ho hq29) (gV m7_122 m7_124 ms_53 m1_16 m7_125) hd_X13_limitDay ⟨Nat.le_of_ble_eq_true rfl, Nat.le_of_ble_eq_true rfl, rfl, rfl⟩ rfl ho rfl rfl rfl hl.1 rfl (rcI (rcV (rcV rc0))) rfl dX13_plan_88 ⟨Nat.zero_le _, Nat.zero_le _⟩ (fun H locs hH => ?_)
            obtain ⟨q30, hq30, hf⟩ := bnd hf
            refine hcV_i hx hb hml hown hts hKs hT hb0 hH (As := [.int ((a_2 + 1)), .int (q29.1)]) (rest := [rv E (some o)]) (k_X13_workingIn l E K H.size o (a_2 + 1) q29.1 q29.2 ho hq30) (gV m7_106 m7_108 ms_50 m1_16 m7_109) hd_X13_workingIn ⟨Nat.le_of_ble_eq_true rfl, Nat.le_of_ble_eq_true rfl, rfl, rfl⟩ rfl ho rfl rfl rfl hl.1 rfl (rcV rc0) rfl dX13_plan_91 ⟨Nat.zero_le _, Nat.zero_le _⟩ (fun H locs hH => ?_)
            obtain ⟨q31, hq31, hf⟩ := bnd hf
            refine hcV_i hx hb hml hown hts hKs hT hb0 hH (As := [.int (q30.1)]) (rest := []) (k_X13_done l E K H.size o q30.1 q30.2 ho hq31) (gV m8_50 m8_52 ms_83 m1_16 m8_53) hd_X13_done ⟨Nat.le_of_ble_eq_true rfl, Nat.le_of_ble_eq_true rfl, rfl, rfl⟩ rfl ho rfl rfl rfl hl.1 rfl rc0 rfl dX13_plan_94 ⟨Nat.zero_le _, Nat.zero_le _⟩ (fun H locs hH => ?_)
            exact hw_iret hx hb hret hf hH hlocks dX13_plan_97
          · replace hf := (if_pos c26).symm.trans hf
            refine lv_iconst (v := 0) hx hb dX13_plan_64 (by decide) ?_
            exact hw_iret hx hb hret hf hH hlocks dX13_plan_65

theorem dX13_plansNext_0 : decode cX13_plansNext 0 = .ok (.aload_n 0, 1) := by decide +kernel
theorem dX13_plansNext_1 : decode cX13_plansNext 1 = .ok (.iload_n 1, 1) := by decide +kernel
theorem dX13_plansNext_2 : decode cX13_plansNext 2 = .ok (.invokevirtual 249, 3) := by decide +kernel
theorem dX13_plansNext_5 : decode cX13_plansNext 5 = .ok (.ifCond .ne 5, 3) := by decide +kernel
theorem dX13_plansNext_8 : decode cX13_plansNext 8 = .ok (.iconst 0, 1) := by decide +kernel
theorem dX13_plansNext_9 : decode cX13_plansNext 9 = .ok (.ireturn, 1) := by decide +kernel
theorem dX13_plansNext_10 : decode cX13_plansNext 10 = .ok (.aload_n 0, 1) := by decide +kernel
theorem dX13_plansNext_11 : decode cX13_plansNext 11 = .ok (.iload_n 1, 1) := by decide +kernel
theorem dX13_plansNext_12 : decode cX13_plansNext 12 = .ok (.aload_n 0, 1) := by decide +kernel
theorem dX13_plansNext_13 : decode cX13_plansNext 13 = .ok (.getfield 231, 3) := by decide +kernel
theorem dX13_plansNext_16 : decode cX13_plansNext 16 = .ok (.aload_n 0, 1) := by decide +kernel
theorem dX13_plansNext_17 : decode cX13_plansNext 17 = .ok (.getfield 234, 3) := by decide +kernel
theorem dX13_plansNext_20 : decode cX13_plansNext 20 = .ok (.aload_n 0, 1) := by decide +kernel
theorem dX13_plansNext_21 : decode cX13_plansNext 21 = .ok (.getfield 237, 3) := by decide +kernel
theorem dX13_plansNext_24 : decode cX13_plansNext 24 = .ok (.aload_n 0, 1) := by decide +kernel
theorem dX13_plansNext_25 : decode cX13_plansNext 25 = .ok (.getfield 240, 3) := by decide +kernel
theorem dX13_plansNext_28 : decode cX13_plansNext 28 = .ok (.invokevirtual 265, 3) := by decide +kernel
theorem dX13_plansNext_31 : decode cX13_plansNext 31 = .ok (.iconst 1, 1) := by decide +kernel
theorem dX13_plansNext_32 : decode cX13_plansNext 32 = .ok (.ireturn, 1) := by decide +kernel
theorem hd_X13_plansNext : yX13_plansNext.cls = RX13 ∧ yX13_plansNext.cls ≠ "java/lang/invoke/MethodHandle" ∧ yX13_plansNext.cls ≠ "java/lang/invoke/VarHandle" ∧ (parseMethodDescriptor yX13_plansNext.desc).map (fun d => d.parameters.length) = some 1 := by decide +kernel
theorem hs_X13_plansNext : yX13_plansNext.cls ≠ "java/lang/invoke/MethodHandle" ∧ yX13_plansNext.cls ≠ "java/lang/invoke/VarHandle" ∧ (parseMethodDescriptor yX13_plansNext.desc).map (fun d => d.parameters.length) = some 1 := by decide +kernel
set_option maxHeartbeats 4000000 in
set_option maxRecDepth 100000 in
theorem k_X13_plansNext (l : Launch) (E : Ev) (K : Kd) (z : Nat) (o : Nat) (a_1 : Int32) (w : Wd) (ho : K o = some (11, 0)) {r : Bool} {w' : Wd} (hf : f_X13_plansNext K o a_1 w = some (r, w')) : Met l yX13_plansNext (Cond.code yX13_plansNext cX13_plansNext 2 (Option.some Jvm.ClassFile.FieldType.boolean) :: bt) ({ frames := 9, cells := 0, slots := 0, locals := 214 } : Room) (va_Pc [rv E (some o), .int a_1] (HB E K w z)) (QI E K z w' (b2i r)) 0 0 (hA E) := by
  refine Met.ofW (cc := cX13_plansNext) (maxL := 2) (ret := (Option.some Jvm.ClassFile.FieldType.boolean)) (by decide) rfl ?_
  intro p e s m args below meth c s₁ B hml hv
  obtain ⟨rfl, hz, hP, hKs, hT, hb0⟩ := hv
  have C : CX p l e s m _ meth c cX13_plansNext 2 RX13 (Option.some Jvm.ClassFile.FieldType.boolean) E := ⟨B.exec, B.bytes, hml, findClass_of_methodNamed B.named, fun w h => atoms_spec (ws := Cond.code yX13_plansNext cX13_plansNext 2 (Option.some Jvm.ClassFile.FieldType.boolean) :: bt) B.pre w (List.mem_cons_of_mem _ h), hKs, hT, by rw [hz]; exact hb0, B.notSynchronized, B.returns⟩
  have hH : HQ E K z w s s.heap [] := ⟨hP, va_S.rf, hz⟩
  obtain ⟨hx, hb, hml, hown, hts, hKs, hT, hb0, hlocks, hret⟩ := id C
  have hl := lv_entry [rv E (some o), .int a_1] (n := 2) (by simp [lg_len_nil, lg_len_i, lg_len_j, lg_len_q, lg_len_f, lg_len_d, lg_len_r])
  rw [lg_entry_eq]
  generalize (lg_sl [rv E (some o), .int a_1] ++ List.replicate (2 - (lg_sl [rv E (some o), .int a_1]).length) Slot.unset).toArray = ls at hl ⊢
  replace hl : lv_has ls 2 [(0, rv E (some o)), (1, .int a_1)] := by simpa only [lv_args, cat_q, cat_i, cat_j, reduceIte, Nat.reduceEqDiff, Nat.reduceAdd, Nat.zero_add] using hl
  generalize s.heap = H at hH ⊢
  unfold f_X13_plansNext at hf
  refine hl_aload_n hx hb dX13_plansNext_0 rfl (lv_at hl 0 rfl) ?_
  refine lv_iload_n hx hb dX13_plansNext_1 rfl (lv_at hl 1 rfl) ?_
  obtain ⟨q1, hq1, hf⟩ := bnd hf
  refine hcV_i hx hb hml hown hts hKs hT hb0 hH (As := [.int a_1]) (rest := []) (k_X13_finds l E K H.size o a_1 w ho hq1) (gV m7_238 m8_0 ms_73 m1_16 m8_1) hd_X13_finds ⟨Nat.le_of_ble_eq_true rfl, Nat.le_of_ble_eq_true rfl, rfl, rfl⟩ rfl ho rfl rfl rfl hl.1 rfl rc0 rfl dX13_plansNext_2 ⟨Nat.zero_le _, Nat.zero_le _⟩ (fun H locs hH => ?_)
  refine lv_if_ne (tgt := 10) hx hb dX13_plansNext_5 (by decide) (fun c2 => ?_) (fun c2 => ?_)
  · replace hf := (if_neg c2).symm.trans hf
    refine hl_aload_n hx hb dX13_plansNext_10 rfl (lv_at hl 0 rfl) ?_
    refine lv_iload_n hx hb dX13_plansNext_11 rfl (lv_at hl 1 rfl) ?_
    refine hl_aload_n hx hb dX13_plansNext_12 rfl (lv_at hl 0 rfl) ?_
    refine g13_16 hx hb hts hown hKs hH rfl ho m6_197 dX13_plansNext_13 ?_
    refine hl_aload_n hx hb dX13_plansNext_16 rfl (lv_at hl 0 rfl) ?_
    refine g13_17 hx hb hts hown hKs hH rfl ho m6_198 dX13_plansNext_17 ?_
    refine hl_aload_n hx hb dX13_plansNext_20 rfl (lv_at hl 0 rfl) ?_
    refine g13_18 hx hb hts hown hKs hH rfl ho m6_199 dX13_plansNext_21 ?_
    refine hl_aload_n hx hb dX13_plansNext_24 rfl (lv_at hl 0 rfl) ?_
    refine g13_19 hx hb hts hown hKs hH rfl ho m6_200 dX13_plansNext_25 ?_
    obtain ⟨q3, hq3, hf⟩ := bnd hf
    refine hcV_v hx hb hml hown hts hKs hT hb0 hH (As := [.int a_1, .int ((wI q1.2 1316 o)), .int ((wI q1.2 1317 o)), .int ((wI q1.2 1318 o)), .int ((wI q1.2 1319 o))]) (rest := []) (k_X13_plans l E K H.size o a_1 (wI q1.2 1316 o) (wI q1.2 1317 o) (wI q1.2 1318 o) (wI q1.2 1319 o) q1.2 ho hq3) (gV m8_42 m8_44 ms_81 m1_16 m8_45) hd_X13_plans ⟨Nat.le_of_ble_eq_true rfl, Nat.le_of_ble_eq_true rfl, rfl, rfl⟩ rfl ho rfl rfl rfl hl.1 rfl rc0 rfl dX13_plansNext_28 ⟨Nat.zero_le _, Nat.zero_le _⟩ (fun H locs hH => ?_)
    refine lv_iconst (v := 1) hx hb dX13_plansNext_31 (by decide) ?_
    exact hw_zret hx hb hret rfl hf hH hlocks dX13_plansNext_32
  · replace hf := (if_pos c2).symm.trans hf
    refine lv_iconst (v := 0) hx hb dX13_plansNext_8 (by decide) ?_
    exact hw_zret hx hb hret rfl hf hH hlocks dX13_plansNext_9

theorem dX13_planNext_0 : decode cX13_planNext 0 = .ok (.aload_n 0, 1) := by decide +kernel
theorem dX13_planNext_1 : decode cX13_planNext 1 = .ok (.aload_n 0, 1) := by decide +kernel
theorem dX13_planNext_2 : decode cX13_planNext 2 = .ok (.iload_n 1, 1) := by decide +kernel
theorem dX13_planNext_3 : decode cX13_planNext 3 = .ok (.invokevirtual 148, 3) := by decide +kernel
theorem dX13_planNext_6 : decode cX13_planNext 6 = .ok (.invokevirtual 110, 3) := by decide +kernel
theorem dX13_planNext_9 : decode cX13_planNext 9 = .ok (.ifCond .eq 38, 3) := by decide +kernel
theorem dX13_planNext_12 : decode cX13_planNext 12 = .ok (.aload_n 0, 1) := by decide +kernel
theorem dX13_planNext_13 : decode cX13_planNext 13 = .ok (.aload_n 0, 1) := by decide +kernel
theorem dX13_planNext_14 : decode cX13_planNext 14 = .ok (.iload_n 1, 1) := by decide +kernel
theorem dX13_planNext_15 : decode cX13_planNext 15 = .ok (.iconst 0, 1) := by decide +kernel
theorem dX13_planNext_16 : decode cX13_planNext 16 = .ok (.invokevirtual 141, 3) := by decide +kernel
theorem dX13_planNext_19 : decode cX13_planNext 19 = .ok (.ifCond .ne 7, 3) := by decide +kernel
theorem dX13_planNext_22 : decode cX13_planNext 22 = .ok (.iconst 1, 1) := by decide +kernel
theorem dX13_planNext_23 : decode cX13_planNext 23 = .ok (.goto 4, 3) := by decide +kernel
theorem dX13_planNext_26 : decode cX13_planNext 26 = .ok (.iconst 0, 1) := by decide +kernel
theorem dX13_planNext_27 : decode cX13_planNext 27 = .ok (.iconst 2, 1) := by decide +kernel
theorem dX13_planNext_28 : decode cX13_planNext 28 = .ok (.invokevirtual 214, 3) := by decide +kernel
theorem dX13_planNext_31 : decode cX13_planNext 31 = .ok (.ifCond .eq 16, 3) := by decide +kernel
theorem dX13_planNext_34 : decode cX13_planNext 34 = .ok (.aload_n 0, 1) := by decide +kernel
theorem dX13_planNext_35 : decode cX13_planNext 35 = .ok (.aload_n 0, 1) := by decide +kernel
theorem dX13_planNext_36 : decode cX13_planNext 36 = .ok (.iload_n 1, 1) := by decide +kernel
theorem dX13_planNext_37 : decode cX13_planNext 37 = .ok (.invokevirtual 249, 3) := by decide +kernel
theorem dX13_planNext_40 : decode cX13_planNext 40 = .ok (.iconst 3, 1) := by decide +kernel
theorem dX13_planNext_41 : decode cX13_planNext 41 = .ok (.invokevirtual 214, 3) := by decide +kernel
theorem dX13_planNext_44 : decode cX13_planNext 44 = .ok (.ifCond .ne 5, 3) := by decide +kernel
theorem dX13_planNext_47 : decode cX13_planNext 47 = .ok (.iconst 0, 1) := by decide +kernel
theorem dX13_planNext_48 : decode cX13_planNext 48 = .ok (.ireturn, 1) := by decide +kernel
theorem dX13_planNext_49 : decode cX13_planNext 49 = .ok (.aload_n 0, 1) := by decide +kernel
theorem dX13_planNext_50 : decode cX13_planNext 50 = .ok (.invokevirtual 262, 3) := by decide +kernel
theorem dX13_planNext_53 : decode cX13_planNext 53 = .ok (.aload_n 0, 1) := by decide +kernel
theorem dX13_planNext_54 : decode cX13_planNext 54 = .ok (.iload_n 1, 1) := by decide +kernel
theorem dX13_planNext_55 : decode cX13_planNext 55 = .ok (.aload_n 0, 1) := by decide +kernel
theorem dX13_planNext_56 : decode cX13_planNext 56 = .ok (.getfield 231, 3) := by decide +kernel
theorem dX13_planNext_59 : decode cX13_planNext 59 = .ok (.aload_n 0, 1) := by decide +kernel
theorem dX13_planNext_60 : decode cX13_planNext 60 = .ok (.getfield 234, 3) := by decide +kernel
theorem dX13_planNext_63 : decode cX13_planNext 63 = .ok (.aload_n 0, 1) := by decide +kernel
theorem dX13_planNext_64 : decode cX13_planNext 64 = .ok (.getfield 237, 3) := by decide +kernel
theorem dX13_planNext_67 : decode cX13_planNext 67 = .ok (.aload_n 0, 1) := by decide +kernel
theorem dX13_planNext_68 : decode cX13_planNext 68 = .ok (.getfield 240, 3) := by decide +kernel
theorem dX13_planNext_71 : decode cX13_planNext 71 = .ok (.invokevirtual 265, 3) := by decide +kernel
theorem dX13_planNext_74 : decode cX13_planNext 74 = .ok (.aload_n 0, 1) := by decide +kernel
theorem dX13_planNext_75 : decode cX13_planNext 75 = .ok (.aload_n 0, 1) := by decide +kernel
theorem dX13_planNext_76 : decode cX13_planNext 76 = .ok (.getfield 231, 3) := by decide +kernel
theorem dX13_planNext_79 : decode cX13_planNext 79 = .ok (.invokevirtual 269, 3) := by decide +kernel
theorem dX13_planNext_82 : decode cX13_planNext 82 = .ok (.ireturn, 1) := by decide +kernel
theorem hd_X13_planNext : yX13_planNext.cls = RX13 ∧ yX13_planNext.cls ≠ "java/lang/invoke/MethodHandle" ∧ yX13_planNext.cls ≠ "java/lang/invoke/VarHandle" ∧ (parseMethodDescriptor yX13_planNext.desc).map (fun d => d.parameters.length) = some 1 := by decide +kernel
theorem hs_X13_planNext : yX13_planNext.cls ≠ "java/lang/invoke/MethodHandle" ∧ yX13_planNext.cls ≠ "java/lang/invoke/VarHandle" ∧ (parseMethodDescriptor yX13_planNext.desc).map (fun d => d.parameters.length) = some 1 := by decide +kernel
set_option maxHeartbeats 4000000 in
set_option maxRecDepth 100000 in
theorem k_X13_planNext (l : Launch) (E : Ev) (K : Kd) (z : Nat) (o : Nat) (a_1 : Int32) (w : Wd) (ho : K o = some (11, 0)) {r : Int32} {w' : Wd} (hf : f_X13_planNext K o a_1 w = some (r, w')) : Met l yX13_planNext (Cond.code yX13_planNext cX13_planNext 2 (Option.some Jvm.ClassFile.FieldType.int) :: bt) ({ frames := 9, cells := 0, slots := 0, locals := 214 } : Room) (va_Pc [rv E (some o), .int a_1] (HB E K w z)) (QI E K z w' r) 0 0 (hA E) := by
  refine Met.ofW (cc := cX13_planNext) (maxL := 2) (ret := (Option.some Jvm.ClassFile.FieldType.int)) (by decide) rfl ?_
  intro p e s m args below meth c s₁ B hml hv
  obtain ⟨rfl, hz, hP, hKs, hT, hb0⟩ := hv
  have C : CX p l e s m _ meth c cX13_planNext 2 RX13 (Option.some Jvm.ClassFile.FieldType.int) E := ⟨B.exec, B.bytes, hml, findClass_of_methodNamed B.named, fun w h => atoms_spec (ws := Cond.code yX13_planNext cX13_planNext 2 (Option.some Jvm.ClassFile.FieldType.int) :: bt) B.pre w (List.mem_cons_of_mem _ h), hKs, hT, by rw [hz]; exact hb0, B.notSynchronized, B.returns⟩
  have hH : HQ E K z w s s.heap [] := ⟨hP, va_S.rf, hz⟩
  obtain ⟨hx, hb, hml, hown, hts, hKs, hT, hb0, hlocks, hret⟩ := id C
  have hl := lv_entry [rv E (some o), .int a_1] (n := 2) (by simp [lg_len_nil, lg_len_i, lg_len_j, lg_len_q, lg_len_f, lg_len_d, lg_len_r])
  rw [lg_entry_eq]
  generalize (lg_sl [rv E (some o), .int a_1] ++ List.replicate (2 - (lg_sl [rv E (some o), .int a_1]).length) Slot.unset).toArray = ls at hl ⊢
  replace hl : lv_has ls 2 [(0, rv E (some o)), (1, .int a_1)] := by simpa only [lv_args, cat_q, cat_i, cat_j, reduceIte, Nat.reduceEqDiff, Nat.reduceAdd, Nat.zero_add] using hl
  generalize s.heap = H at hH ⊢
  unfold f_X13_planNext at hf
  refine hl_aload_n hx hb dX13_planNext_0 rfl (lv_at hl 0 rfl) ?_
  refine hl_aload_n hx hb dX13_planNext_1 rfl (lv_at hl 0 rfl) ?_
  refine lv_iload_n hx hb dX13_planNext_2 rfl (lv_at hl 1 rfl) ?_
  obtain ⟨q1, hq1, hf⟩ := bnd hf
  refine hcV_i hx hb hml hown hts hKs hT hb0 hH (As := [.int a_1]) (rest := [rv E (some o)]) (k_X13_isCase l E K H.size o a_1 w ho hq1) (gV m7_114 m7_116 ms_51 m1_16 m7_117) hd_X13_isCase ⟨Nat.le_of_ble_eq_true rfl, Nat.le_of_ble_eq_true rfl, rfl, rfl⟩ rfl ho rfl rfl rfl hl.1 rfl (rcV rc0) rfl dX13_planNext_3 ⟨Nat.zero_le _, Nat.zero_le _⟩ (fun H locs hH => ?_)
  obtain ⟨q2, hq2, hf⟩ := bnd hf
  refine hcV_i hx hb hml hown hts hKs hT hb0 hH (As := [.int (b2i q1.1)]) (rest := []) (k_X13_is l E K H.size o q1.1 q1.2 ho hq2) (gV m7_68 m7_70 ms_47 m1_16 m7_71) hd_X13_is ⟨Nat.le_of_ble_eq_true rfl, Nat.le_of_ble_eq_true rfl, rfl, rfl⟩ rfl ho rfl rfl rfl hl.1 rfl rc0 rfl dX13_planNext_6 ⟨Nat.zero_le _, Nat.zero_le _⟩ (fun H locs hH => ?_)
  refine lv_if_eq (tgt := 47) hx hb dX13_planNext_9 (by decide) (fun c3 => ?_) (fun c3 => ?_)
  · replace hf := (if_pos c3).symm.trans hf
    refine lv_iconst (v := 0) hx hb dX13_planNext_47 (by decide) ?_
    exact hw_iret hx hb hret hf hH hlocks dX13_planNext_48
  · replace hf := (if_neg c3).symm.trans hf
    refine hl_aload_n hx hb dX13_planNext_12 rfl (lv_at hl 0 rfl) ?_
    refine hl_aload_n hx hb dX13_planNext_13 rfl (lv_at hl 0 rfl) ?_
    refine lv_iload_n hx hb dX13_planNext_14 rfl (lv_at hl 1 rfl) ?_
    refine lv_iconst (v := 0) hx hb dX13_planNext_15 (by decide) ?_
    obtain ⟨q4, hq4, hf⟩ := bnd hf
    refine hcV_i hx hb hml hown hts hKs hT hb0 hH (As := [.int a_1, .int 0]) (rest := [rv E (some o)]) (k_X13_of l E K H.size o a_1 0 q2.2 ho hq4) (gV m7_126 m7_128 ms_54 m1_16 m7_129) hd_X13_of ⟨Nat.le_of_ble_eq_true rfl, Nat.le_of_ble_eq_true rfl, rfl, rfl⟩ rfl ho rfl rfl rfl hl.1 rfl (rcV rc0) rfl dX13_planNext_16 ⟨Nat.zero_le _, Nat.zero_le _⟩ (fun H locs hH => ?_)
    refine lv_if_ne (tgt := 26) hx hb dX13_planNext_19 (by decide) (fun c5 => ?_) (fun c5 => ?_)
    · replace hf := (if_neg c5).symm.trans hf
      refine lv_iconst (v := 0) hx hb dX13_planNext_26 (by decide) ?_
      refine lv_iconst (v := 2) hx hb dX13_planNext_27 (by decide) ?_
      obtain ⟨q6, hq6, hf⟩ := bnd hf
      refine hcV_i hx hb hml hown hts hKs hT hb0 hH (As := [.int 0, .int 2]) (rest := []) (k_X13_may l E K H.size o false 2 q4.2 ho hq6) (gV m7_183 m7_185 ms_61 m1_16 m7_186) hd_X13_may ⟨Nat.le_of_ble_eq_true rfl, Nat.le_of_ble_eq_true rfl, rfl, rfl⟩ rfl ho rfl rfl rfl hl.1 rfl rc0 rfl dX13_planNext_28 ⟨Nat.zero_le _, Nat.zero_le _⟩ (fun H locs hH => ?_)
      refine lv_if_eq (tgt := 47) hx hb dX13_planNext_31 (by decide) (fun c7 => ?_) (fun c7 => ?_)
      · replace hf := (if_pos c7).symm.trans hf
        refine lv_iconst (v := 0) hx hb dX13_planNext_47 (by decide) ?_
        exact hw_iret hx hb hret hf hH hlocks dX13_planNext_48
      · replace hf := (if_neg c7).symm.trans hf
        refine hl_aload_n hx hb dX13_planNext_34 rfl (lv_at hl 0 rfl) ?_
        refine hl_aload_n hx hb dX13_planNext_35 rfl (lv_at hl 0 rfl) ?_
        refine lv_iload_n hx hb dX13_planNext_36 rfl (lv_at hl 1 rfl) ?_
        obtain ⟨q8, hq8, hf⟩ := bnd hf
        refine hcV_i hx hb hml hown hts hKs hT hb0 hH (As := [.int a_1]) (rest := [rv E (some o)]) (k_X13_finds l E K H.size o a_1 q6.2 ho hq8) (gV m7_238 m8_0 ms_73 m1_16 m8_1) hd_X13_finds ⟨Nat.le_of_ble_eq_true rfl, Nat.le_of_ble_eq_true rfl, rfl, rfl⟩ rfl ho rfl rfl rfl hl.1 rfl (rcV rc0) rfl dX13_planNext_37 ⟨Nat.zero_le _, Nat.zero_le _⟩ (fun H locs hH => ?_)
        refine lv_iconst (v := 3) hx hb dX13_planNext_40 (by decide) ?_
        obtain ⟨q9, hq9, hf⟩ := bnd hf
        refine hcV_i hx hb hml hown hts hKs hT hb0 hH (As := [.int (b2i q8.1), .int 3]) (rest := []) (k_X13_may l E K H.size o q8.1 3 q8.2 ho hq9) (gV m7_183 m7_185 ms_61 m1_16 m7_186) hd_X13_may ⟨Nat.le_of_ble_eq_true rfl, Nat.le_of_ble_eq_true rfl, rfl, rfl⟩ rfl ho rfl rfl rfl hl.1 rfl rc0 rfl dX13_planNext_41 ⟨Nat.zero_le _, Nat.zero_le _⟩ (fun H locs hH => ?_)
        refine lv_if_ne (tgt := 49) hx hb dX13_planNext_44 (by decide) (fun c10 => ?_) (fun c10 => ?_)
        · replace hf := (if_neg c10).symm.trans hf
          refine hl_aload_n hx hb dX13_planNext_49 rfl (lv_at hl 0 rfl) ?_
          obtain ⟨q11, hq11, hf⟩ := bnd hf
          refine hcV_v hx hb hml hown hts hKs hT hb0 hH (As := []) (rest := []) (k_X13_starts l E K H.size o q9.2 ho hq11) (gV m8_38 m8_40 ms_80 m1_16 m8_41) hd_X13_starts ⟨Nat.le_of_ble_eq_true rfl, Nat.le_of_ble_eq_true rfl, rfl, rfl⟩ rfl ho rfl rfl rfl hl.1 rfl rc0 rfl dX13_planNext_50 ⟨Nat.zero_le _, Nat.zero_le _⟩ (fun H locs hH => ?_)
          refine hl_aload_n hx hb dX13_planNext_53 rfl (lv_at hl 0 rfl) ?_
          refine lv_iload_n hx hb dX13_planNext_54 rfl (lv_at hl 1 rfl) ?_
          refine hl_aload_n hx hb dX13_planNext_55 rfl (lv_at hl 0 rfl) ?_
          refine g13_16 hx hb hts hown hKs hH rfl ho m6_197 dX13_planNext_56 ?_
          refine hl_aload_n hx hb dX13_planNext_59 rfl (lv_at hl 0 rfl) ?_
          refine g13_17 hx hb hts hown hKs hH rfl ho m6_198 dX13_planNext_60 ?_
          refine hl_aload_n hx hb dX13_planNext_63 rfl (lv_at hl 0 rfl) ?_
          refine g13_18 hx hb hts hown hKs hH rfl ho m6_199 dX13_planNext_64 ?_
          refine hl_aload_n hx hb dX13_planNext_67 rfl (lv_at hl 0 rfl) ?_
          refine g13_19 hx hb hts hown hKs hH rfl ho m6_200 dX13_planNext_68 ?_
          obtain ⟨q12, hq12, hf⟩ := bnd hf
          refine hcV_v hx hb hml hown hts hKs hT hb0 hH (As := [.int a_1, .int ((wI q11 1316 o)), .int ((wI q11 1317 o)), .int ((wI q11 1318 o)), .int ((wI q11 1319 o))]) (rest := []) (k_X13_plans l E K H.size o a_1 (wI q11 1316 o) (wI q11 1317 o) (wI q11 1318 o) (wI q11 1319 o) q11 ho hq12) (gV m8_42 m8_44 ms_81 m1_16 m8_45) hd_X13_plans ⟨Nat.le_of_ble_eq_true rfl, Nat.le_of_ble_eq_true rfl, rfl, rfl⟩ rfl ho rfl rfl rfl hl.1 rfl rc0 rfl dX13_planNext_71 ⟨Nat.zero_le _, Nat.zero_le _⟩ (fun H locs hH => ?_)
          refine hl_aload_n hx hb dX13_planNext_74 rfl (lv_at hl 0 rfl) ?_
          refine hl_aload_n hx hb dX13_planNext_75 rfl (lv_at hl 0 rfl) ?_
          refine g13_16 hx hb hts hown hKs hH rfl ho m6_197 dX13_planNext_76 ?_
          obtain ⟨q13, hq13, hf⟩ := bnd hf
          refine hcV_i hx hb hml hown hts hKs hT hb0 hH (As := [.int ((wI q12 1316 o))]) (rest := []) (k_X13_done l E K H.size o (wI q12 1316 o) q12 ho hq13) (gV m8_50 m8_52 ms_83 m1_16 m8_53) hd_X13_done ⟨Nat.le_of_ble_eq_true rfl, Nat.le_of_ble_eq_true rfl, rfl, rfl⟩ rfl ho rfl rfl rfl hl.1 rfl rc0 rfl dX13_planNext_79 ⟨Nat.zero_le _, Nat.zero_le _⟩ (fun H locs hH => ?_)
          exact hw_iret hx hb hret hf hH hlocks dX13_planNext_82
        · replace hf := (if_pos c10).symm.trans hf
          refine lv_iconst (v := 0) hx hb dX13_planNext_47 (by decide) ?_
          exact hw_iret hx hb hret hf hH hlocks dX13_planNext_48
    · replace hf := (if_pos c5).symm.trans hf
      refine lv_iconst (v := 1) hx hb dX13_planNext_22 (by decide) ?_
      refine lv_goto (tgt := 27) hx hb dX13_planNext_23 (by decide) ?_
      refine lv_iconst (v := 2) hx hb dX13_planNext_27 (by decide) ?_
      obtain ⟨q14, hq14, hf⟩ := bnd hf
      refine hcV_i hx hb hml hown hts hKs hT hb0 hH (As := [.int 1, .int 2]) (rest := []) (k_X13_may l E K H.size o true 2 q4.2 ho hq14) (gV m7_183 m7_185 ms_61 m1_16 m7_186) hd_X13_may ⟨Nat.le_of_ble_eq_true rfl, Nat.le_of_ble_eq_true rfl, rfl, rfl⟩ rfl ho rfl rfl rfl hl.1 rfl rc0 rfl dX13_planNext_28 ⟨Nat.zero_le _, Nat.zero_le _⟩ (fun H locs hH => ?_)
      refine lv_if_eq (tgt := 47) hx hb dX13_planNext_31 (by decide) (fun c15 => ?_) (fun c15 => ?_)
      · replace hf := (if_pos c15).symm.trans hf
        refine lv_iconst (v := 0) hx hb dX13_planNext_47 (by decide) ?_
        exact hw_iret hx hb hret hf hH hlocks dX13_planNext_48
      · replace hf := (if_neg c15).symm.trans hf
        refine hl_aload_n hx hb dX13_planNext_34 rfl (lv_at hl 0 rfl) ?_
        refine hl_aload_n hx hb dX13_planNext_35 rfl (lv_at hl 0 rfl) ?_
        refine lv_iload_n hx hb dX13_planNext_36 rfl (lv_at hl 1 rfl) ?_
        obtain ⟨q16, hq16, hf⟩ := bnd hf
        refine hcV_i hx hb hml hown hts hKs hT hb0 hH (As := [.int a_1]) (rest := [rv E (some o)]) (k_X13_finds l E K H.size o a_1 q14.2 ho hq16) (gV m7_238 m8_0 ms_73 m1_16 m8_1) hd_X13_finds ⟨Nat.le_of_ble_eq_true rfl, Nat.le_of_ble_eq_true rfl, rfl, rfl⟩ rfl ho rfl rfl rfl hl.1 rfl (rcV rc0) rfl dX13_planNext_37 ⟨Nat.zero_le _, Nat.zero_le _⟩ (fun H locs hH => ?_)
        refine lv_iconst (v := 3) hx hb dX13_planNext_40 (by decide) ?_
        obtain ⟨q17, hq17, hf⟩ := bnd hf
        refine hcV_i hx hb hml hown hts hKs hT hb0 hH (As := [.int (b2i q16.1), .int 3]) (rest := []) (k_X13_may l E K H.size o q16.1 3 q16.2 ho hq17) (gV m7_183 m7_185 ms_61 m1_16 m7_186) hd_X13_may ⟨Nat.le_of_ble_eq_true rfl, Nat.le_of_ble_eq_true rfl, rfl, rfl⟩ rfl ho rfl rfl rfl hl.1 rfl rc0 rfl dX13_planNext_41 ⟨Nat.zero_le _, Nat.zero_le _⟩ (fun H locs hH => ?_)
        refine lv_if_ne (tgt := 49) hx hb dX13_planNext_44 (by decide) (fun c18 => ?_) (fun c18 => ?_)
        · replace hf := (if_neg c18).symm.trans hf
          refine hl_aload_n hx hb dX13_planNext_49 rfl (lv_at hl 0 rfl) ?_
          obtain ⟨q19, hq19, hf⟩ := bnd hf
          refine hcV_v hx hb hml hown hts hKs hT hb0 hH (As := []) (rest := []) (k_X13_starts l E K H.size o q17.2 ho hq19) (gV m8_38 m8_40 ms_80 m1_16 m8_41) hd_X13_starts ⟨Nat.le_of_ble_eq_true rfl, Nat.le_of_ble_eq_true rfl, rfl, rfl⟩ rfl ho rfl rfl rfl hl.1 rfl rc0 rfl dX13_planNext_50 ⟨Nat.zero_le _, Nat.zero_le _⟩ (fun H locs hH => ?_)
          refine hl_aload_n hx hb dX13_planNext_53 rfl (lv_at hl 0 rfl) ?_
          refine lv_iload_n hx hb dX13_planNext_54 rfl (lv_at hl 1 rfl) ?_
          refine hl_aload_n hx hb dX13_planNext_55 rfl (lv_at hl 0 rfl) ?_
          refine g13_16 hx hb hts hown hKs hH rfl ho m6_197 dX13_planNext_56 ?_
          refine hl_aload_n hx hb dX13_planNext_59 rfl (lv_at hl 0 rfl) ?_
          refine g13_17 hx hb hts hown hKs hH rfl ho m6_198 dX13_planNext_60 ?_
          refine hl_aload_n hx hb dX13_planNext_63 rfl (lv_at hl 0 rfl) ?_
          refine g13_18 hx hb hts hown hKs hH rfl ho m6_199 dX13_planNext_64 ?_
          refine hl_aload_n hx hb dX13_planNext_67 rfl (lv_at hl 0 rfl) ?_
          refine g13_19 hx hb hts hown hKs hH rfl ho m6_200 dX13_planNext_68 ?_
          obtain ⟨q20, hq20, hf⟩ := bnd hf
          refine hcV_v hx hb hml hown hts hKs hT hb0 hH (As := [.int a_1, .int ((wI q19 1316 o)), .int ((wI q19 1317 o)), .int ((wI q19 1318 o)), .int ((wI q19 1319 o))]) (rest := []) (k_X13_plans l E K H.size o a_1 (wI q19 1316 o) (wI q19 1317 o) (wI q19 1318 o) (wI q19 1319 o) q19 ho hq20) (gV m8_42 m8_44 ms_81 m1_16 m8_45) hd_X13_plans ⟨Nat.le_of_ble_eq_true rfl, Nat.le_of_ble_eq_true rfl, rfl, rfl⟩ rfl ho rfl rfl rfl hl.1 rfl rc0 rfl dX13_planNext_71 ⟨Nat.zero_le _, Nat.zero_le _⟩ (fun H locs hH => ?_)
          refine hl_aload_n hx hb dX13_planNext_74 rfl (lv_at hl 0 rfl) ?_
          refine hl_aload_n hx hb dX13_planNext_75 rfl (lv_at hl 0 rfl) ?_
          refine g13_16 hx hb hts hown hKs hH rfl ho m6_197 dX13_planNext_76 ?_
          obtain ⟨q21, hq21, hf⟩ := bnd hf
          refine hcV_i hx hb hml hown hts hKs hT hb0 hH (As := [.int ((wI q20 1316 o))]) (rest := []) (k_X13_done l E K H.size o (wI q20 1316 o) q20 ho hq21) (gV m8_50 m8_52 ms_83 m1_16 m8_53) hd_X13_done ⟨Nat.le_of_ble_eq_true rfl, Nat.le_of_ble_eq_true rfl, rfl, rfl⟩ rfl ho rfl rfl rfl hl.1 rfl rc0 rfl dX13_planNext_79 ⟨Nat.zero_le _, Nat.zero_le _⟩ (fun H locs hH => ?_)
          exact hw_iret hx hb hret hf hH hlocks dX13_planNext_82
        · replace hf := (if_pos c18).symm.trans hf
          refine lv_iconst (v := 0) hx hb dX13_planNext_47 (by decide) ?_
          exact hw_iret hx hb hret hf hH hlocks dX13_planNext_48

theorem dX13_plansAll_0 : decode cX13_plansAll 0 = .ok (.aload_n 0, 1) := by decide +kernel
theorem dX13_plansAll_1 : decode cX13_plansAll 1 = .ok (.iconst 0, 1) := by decide +kernel
theorem dX13_plansAll_2 : decode cX13_plansAll 2 = .ok (.invokevirtual 154, 3) := by decide +kernel
theorem dX13_plansAll_5 : decode cX13_plansAll 5 = .ok (.istore_n 1, 1) := by decide +kernel
theorem dX13_plansAll_6 : decode cX13_plansAll 6 = .ok (.iconst 0, 1) := by decide +kernel
theorem dX13_plansAll_7 : decode cX13_plansAll 7 = .ok (.istore_n 2, 1) := by decide +kernel
theorem dX13_plansAll_8 : decode cX13_plansAll 8 = .ok (.iload_n 2, 1) := by decide +kernel
theorem dX13_plansAll_9 : decode cX13_plansAll 9 = .ok (.iload_n 1, 1) := by decide +kernel
theorem dX13_plansAll_10 : decode cX13_plansAll 10 = .ok (.if_icmp .ge 20, 3) := by decide +kernel
theorem dX13_plansAll_13 : decode cX13_plansAll 13 = .ok (.aload_n 0, 1) := by decide +kernel
theorem dX13_plansAll_14 : decode cX13_plansAll 14 = .ok (.getfield 51, 3) := by decide +kernel
theorem dX13_plansAll_17 : decode cX13_plansAll 17 = .ok (.iload_n 2, 1) := by decide +kernel
theorem dX13_plansAll_18 : decode cX13_plansAll 18 = .ok (.aload_n 0, 1) := by decide +kernel
theorem dX13_plansAll_19 : decode cX13_plansAll 19 = .ok (.iload_n 2, 1) := by decide +kernel
theorem dX13_plansAll_20 : decode cX13_plansAll 20 = .ok (.invokevirtual 255, 3) := by decide +kernel
theorem dX13_plansAll_23 : decode cX13_plansAll 23 = .ok (.iastore, 1) := by decide +kernel
theorem dX13_plansAll_24 : decode cX13_plansAll 24 = .ok (.iinc 2 1, 3) := by decide +kernel
theorem dX13_plansAll_27 : decode cX13_plansAll 27 = .ok (.goto (-19), 3) := by decide +kernel
theorem dX13_plansAll_30 : decode cX13_plansAll 30 = .ok (.iconst 0, 1) := by decide +kernel
theorem dX13_plansAll_31 : decode cX13_plansAll 31 = .ok (.istore_n 2, 1) := by decide +kernel
theorem dX13_plansAll_32 : decode cX13_plansAll 32 = .ok (.iconst 0, 1) := by decide +kernel
theorem dX13_plansAll_33 : decode cX13_plansAll 33 = .ok (.istore_n 3, 1) := by decide +kernel
theorem dX13_plansAll_34 : decode cX13_plansAll 34 = .ok (.iload_n 3, 1) := by decide +kernel
theorem dX13_plansAll_35 : decode cX13_plansAll 35 = .ok (.iload_n 1, 1) := by decide +kernel
theorem dX13_plansAll_36 : decode cX13_plansAll 36 = .ok (.if_icmp .ge 26, 3) := by decide +kernel
theorem dX13_plansAll_39 : decode cX13_plansAll 39 = .ok (.aload_n 0, 1) := by decide +kernel
theorem dX13_plansAll_40 : decode cX13_plansAll 40 = .ok (.aload_n 0, 1) := by decide +kernel
theorem dX13_plansAll_41 : decode cX13_plansAll 41 = .ok (.getfield 51, 3) := by decide +kernel
theorem dX13_plansAll_44 : decode cX13_plansAll 44 = .ok (.iload_n 3, 1) := by decide +kernel
theorem dX13_plansAll_45 : decode cX13_plansAll 45 = .ok (.iaload, 1) := by decide +kernel
theorem dX13_plansAll_46 : decode cX13_plansAll 46 = .ok (.invokevirtual 272, 3) := by decide +kernel
theorem dX13_plansAll_49 : decode cX13_plansAll 49 = .ok (.ifCond .eq 7, 3) := by decide +kernel
theorem dX13_plansAll_52 : decode cX13_plansAll 52 = .ok (.iload_n 2, 1) := by decide +kernel
theorem dX13_plansAll_53 : decode cX13_plansAll 53 = .ok (.iconst 1, 1) := by decide +kernel
theorem dX13_plansAll_54 : decode cX13_plansAll 54 = .ok (.iadd, 1) := by decide +kernel
theorem dX13_plansAll_55 : decode cX13_plansAll 55 = .ok (.istore_n 2, 1) := by decide +kernel
theorem dX13_plansAll_56 : decode cX13_plansAll 56 = .ok (.iinc 3 1, 3) := by decide +kernel
theorem dX13_plansAll_59 : decode cX13_plansAll 59 = .ok (.goto (-25), 3) := by decide +kernel
theorem dX13_plansAll_62 : decode cX13_plansAll 62 = .ok (.iload_n 2, 1) := by decide +kernel
theorem dX13_plansAll_63 : decode cX13_plansAll 63 = .ok (.ireturn, 1) := by decide +kernel
theorem hd_X13_plansAll : yX13_plansAll.cls = RX13 ∧ yX13_plansAll.cls ≠ "java/lang/invoke/MethodHandle" ∧ yX13_plansAll.cls ≠ "java/lang/invoke/VarHandle" ∧ (parseMethodDescriptor yX13_plansAll.desc).map (fun d => d.parameters.length) = some 0 := by decide +kernel
theorem hs_X13_plansAll : yX13_plansAll.cls ≠ "java/lang/invoke/MethodHandle" ∧ yX13_plansAll.cls ≠ "java/lang/invoke/VarHandle" ∧ (parseMethodDescriptor yX13_plansAll.desc).map (fun d => d.parameters.length) = some 0 := by decide +kernel
set_option maxHeartbeats 4000000 in
set_option maxRecDepth 100000 in
theorem l_X13_plansAll_L8 (C : CX p l e s m args meth c cX13_plansAll 4 RX13 (Option.some Jvm.ClassFile.FieldType.int) E) {o : Nat} (ho : K o = some (11, 0)) {r : Int32} {w' : Wd} (k : Int32 → Int32 → Wd → Option (Int32 × Wd)) (hk : ∀ (v1_8 : Int32) (v2_8 : Int32) (w : Wd) (H : Heap) (locs : List Loc) (ls : Array Slot), HQ E K z w s H locs → lv_has ls 4 [(1, .int v1_8), (2, .int v2_8), (0, rv E (some o))] → k v1_8 v2_8 w = some (r, w') → W p l e ({ frames := 10, cells := 0, slots := 0, locals := 235 } : Room) s m args below meth c H locs 0 0 (MQ below (QI E K z w' r) args s 0 0 (hA E)) (F0 m 30 ls [])) : ∀ (n : Nat) (v1_8 : Int32) (v2_8 : Int32) (w : Wd) (H : Heap) (locs : List Loc) (ls : Array Slot), HQ E K z w s H locs → lv_has ls 4 [(1, .int v1_8), (2, .int v2_8), (0, rv E (some o))] → f_X13_plansAll_L8 K o k n v1_8 v2_8 w = some (r, w') → W p l e ({ frames := 10, cells := 0, slots := 0, locals := 235 } : Room) s m args below meth c H locs 0 0 (MQ below (QI E K z w' r) args s 0 0 (hA E)) (F0 m 8 ls []) := by
  obtain ⟨hx, hb, hml, hown, hts, hKs, hT, hb0, hlocks, hret⟩ := id C
  intro n
  induction n with
  | zero =>
    intro v1_8 v2_8 w H locs ls hH hl hf
    cases hf
  | succ n ih =>
    intro v1_8 v2_8 w H locs ls hH hl hf
    rw [f_X13_plansAll_L8] at hf
    refine lv_iload_n hx hb dX13_plansAll_8 rfl (lv_at hl 1 rfl) ?_
    refine lv_iload_n hx hb dX13_plansAll_9 rfl (lv_at hl 0 rfl) ?_
    refine lv_icmp_ge (tgt := 30) hx hb dX13_plansAll_10 (by decide) (fun c3 => ?_) (fun c3 => ?_)
    · replace hf := (if_pos c3).symm.trans hf
      exact hk v1_8 v2_8 _ _ _ _ hH (lv_sub hl [0, 1, 2] rfl) hf
    · replace hf := (if_neg c3).symm.trans hf
      refine hl_aload_n hx hb dX13_plansAll_13 rfl (lv_at hl 2 rfl) ?_
      refine g13_20 hx hb hts hown hKs hH rfl ho m6_201 dX13_plansAll_14 ?_
      refine lv_iload_n hx hb dX13_plansAll_17 rfl (lv_at hl 1 rfl) ?_
      refine hl_aload_n hx hb dX13_plansAll_18 rfl (lv_at hl 2 rfl) ?_
      refine lv_iload_n hx hb dX13_plansAll_19 rfl (lv_at hl 1 rfl) ?_
      obtain ⟨q4, hq4, hf⟩ := bnd hf
      refine hcV_i hx hb hml hown hts hKs hT hb0 hH (As := [.int v2_8]) (rest := [.int v2_8, rv E (wR w 1320 o)]) (k_X13_urgentAt l E K H.size o v2_8 w ho hq4) (gV m8_26 m8_28 ms_78 m1_16 m8_29) hd_X13_urgentAt ⟨Nat.le_of_ble_eq_true rfl, Nat.le_of_ble_eq_true rfl, rfl, rfl⟩ rfl ho rfl rfl rfl hl.1 rfl (rcI (rcV rc0)) rfl dX13_plansAll_20 ⟨Nat.zero_le _, Nat.zero_le _⟩ (fun H locs hH => ?_)
      obtain ⟨a5, ha5, hf⟩ := bnd hf
      replace ha5 := cha_some ha5
      obtain ⟨j6, hj6, hf⟩ := bnd hf
      obtain ⟨w7, hw7, hf⟩ := bnd hf
      replace hw7 := Option.some.inj hw7
      refine hw_iast (x := q4.1) hx hb hKs hH ha5.1 ha5.2 hj6 dX13_plansAll_23 (fun H locs hH => ?_)
      rw [hw7] at hH
      refine lv_iinc (v := (v2_8 + 1)) (lv' := [(2, .int ((v2_8 + 1))), (1, .int v1_8), (0, rv E (some o))]) hx hb dX13_plansAll_24 hl (k := 1) rfl rfl (by decide) rfl (fun ls hl => ?_)
      refine lv_goto (tgt := 8) hx hb dX13_plansAll_27 (by decide) ?_
      exact ih v1_8 (v2_8 + 1) _ _ _ _ hH (lv_sub hl [1, 0, 2] rfl) hf
set_option maxHeartbeats 4000000 in
set_option maxRecDepth 100000 in
theorem l_X13_plansAll_L34 (C : CX p l e s m args meth c cX13_plansAll 4 RX13 (Option.some Jvm.ClassFile.FieldType.int) E) {o : Nat} (ho : K o = some (11, 0)) {r : Int32} {w' : Wd} (k : Int32 → Int32 → Int32 → Wd → Option (Int32 × Wd)) (hk : ∀ (v1_34 : Int32) (v2_34 : Int32) (v3_34 : Int32) (w : Wd) (H : Heap) (locs : List Loc) (ls : Array Slot), HQ E K z w s H locs → lv_has ls 4 [(1, .int v1_34), (2, .int v2_34), (3, .int v3_34), (0, rv E (some o))] → k v1_34 v2_34 v3_34 w = some (r, w') → W p l e ({ frames := 10, cells := 0, slots := 0, locals := 235 } : Room) s m args below meth c H locs 0 0 (MQ below (QI E K z w' r) args s 0 0 (hA E)) (F0 m 62 ls [])) : ∀ (n : Nat) (v1_34 : Int32) (v2_34 : Int32) (v3_34 : Int32) (w : Wd) (H : Heap) (locs : List Loc) (ls : Array Slot), HQ E K z w s H locs → lv_has ls 4 [(1, .int v1_34), (2, .int v2_34), (3, .int v3_34), (0, rv E (some o))] → f_X13_plansAll_L34 K o k n v1_34 v2_34 v3_34 w = some (r, w') → W p l e ({ frames := 10, cells := 0, slots := 0, locals := 235 } : Room) s m args below meth c H locs 0 0 (MQ below (QI E K z w' r) args s 0 0 (hA E)) (F0 m 34 ls []) := by
  obtain ⟨hx, hb, hml, hown, hts, hKs, hT, hb0, hlocks, hret⟩ := id C
  intro n
  induction n with
  | zero =>
    intro v1_34 v2_34 v3_34 w H locs ls hH hl hf
    cases hf
  | succ n ih =>
    intro v1_34 v2_34 v3_34 w H locs ls hH hl hf
    rw [f_X13_plansAll_L34] at hf
    refine lv_iload_n hx hb dX13_plansAll_34 rfl (lv_at hl 2 rfl) ?_
    refine lv_iload_n hx hb dX13_plansAll_35 rfl (lv_at hl 0 rfl) ?_
    refine lv_icmp_ge (tgt := 62) hx hb dX13_plansAll_36 (by decide) (fun c9 => ?_) (fun c9 => ?_)
    · replace hf := (if_pos c9).symm.trans hf
      exact hk v1_34 v2_34 v3_34 _ _ _ _ hH (lv_sub hl [0, 1, 2, 3] rfl) hf
    · replace hf := (if_neg c9).symm.trans hf
      refine hl_aload_n hx hb dX13_plansAll_39 rfl (lv_at hl 3 rfl) ?_
      refine hl_aload_n hx hb dX13_plansAll_40 rfl (lv_at hl 3 rfl) ?_
      refine g13_20 hx hb hts hown hKs hH rfl ho m6_201 dX13_plansAll_41 ?_
      refine lv_iload_n hx hb dX13_plansAll_44 rfl (lv_at hl 2 rfl) ?_
      obtain ⟨a10, ha10, hf⟩ := bnd hf
      replace ha10 := cha_some ha10
      obtain ⟨j11, hj11, hf⟩ := bnd hf
      refine hw_iald hx hb hKs hH ha10.1 ha10.2 hj11 dX13_plansAll_45 ?_
      obtain ⟨q12, hq12, hf⟩ := bnd hf
      refine hcV_i hx hb hml hown hts hKs hT hb0 hH (As := [.int ((aI w a10.1 j11))]) (rest := []) (k_X13_plansNext l E K H.size o (aI w a10.1 j11) w ho hq12) (gV m8_70 m8_72 ms_86 m1_16 m8_73) hd_X13_plansNext ⟨Nat.le_of_ble_eq_true rfl, Nat.le_of_ble_eq_true rfl, rfl, rfl⟩ rfl ho rfl rfl rfl hl.1 rfl rc0 rfl dX13_plansAll_46 ⟨Nat.zero_le _, Nat.zero_le _⟩ (fun H locs hH => ?_)
      refine lv_if_eq (tgt := 56) hx hb dX13_plansAll_49 (by decide) (fun c13 => ?_) (fun c13 => ?_)
      · replace hf := (if_pos c13).symm.trans hf
        refine lv_iinc (v := (v3_34 + 1)) (lv' := [(3, .int ((v3_34 + 1))), (1, .int v1_34), (2, .int v2_34), (0, rv E (some o))]) hx hb dX13_plansAll_56 hl (k := 2) rfl rfl (by decide) rfl (fun ls hl => ?_)
        refine lv_goto (tgt := 34) hx hb dX13_plansAll_59 (by decide) ?_
        exact ih v1_34 v2_34 (v3_34 + 1) _ _ _ _ hH (lv_sub hl [1, 2, 0, 3] rfl) hf
      · replace hf := (if_neg c13).symm.trans hf
        refine lv_iload_n hx hb dX13_plansAll_52 rfl (lv_at hl 1 rfl) ?_
        refine lv_iconst (v := 1) hx hb dX13_plansAll_53 (by decide) ?_
        refine lv_iadd hx hb dX13_plansAll_54 ?_
        refine lv_istore_n (i := 2) (lv' := [(2, .int ((v2_34 + 1))), (1, .int v1_34), (3, .int v3_34), (0, rv E (some o))]) hx hb dX13_plansAll_55 rfl hl (by decide) rfl (fun ls hl => ?_)
        refine lv_iinc (v := (v3_34 + 1)) (lv' := [(3, .int ((v3_34 + 1))), (2, .int ((v2_34 + 1))), (1, .int v1_34), (0, rv E (some o))]) hx hb dX13_plansAll_56 hl (k := 2) rfl rfl (by decide) rfl (fun ls hl => ?_)
        refine lv_goto (tgt := 34) hx hb dX13_plansAll_59 (by decide) ?_
        exact ih v1_34 (v2_34 + 1) (v3_34 + 1) _ _ _ _ hH (lv_sub hl [2, 1, 0, 3] rfl) hf
set_option maxHeartbeats 4000000 in
set_option maxRecDepth 100000 in
theorem k_X13_plansAll (l : Launch) (E : Ev) (K : Kd) (z : Nat) (o : Nat) (w : Wd) (ho : K o = some (11, 0)) {r : Int32} {w' : Wd} (hf : f_X13_plansAll K o w = some (r, w')) : Met l yX13_plansAll (Cond.code yX13_plansAll cX13_plansAll 4 (Option.some Jvm.ClassFile.FieldType.int) :: bt) ({ frames := 10, cells := 0, slots := 0, locals := 235 } : Room) (va_Pc [rv E (some o)] (HB E K w z)) (QI E K z w' r) 0 0 (hA E) := by
  refine Met.ofW (cc := cX13_plansAll) (maxL := 4) (ret := (Option.some Jvm.ClassFile.FieldType.int)) (by decide) rfl ?_
  intro p e s m args below meth c s₁ B hml hv
  obtain ⟨rfl, hz, hP, hKs, hT, hb0⟩ := hv
  have C : CX p l e s m _ meth c cX13_plansAll 4 RX13 (Option.some Jvm.ClassFile.FieldType.int) E := ⟨B.exec, B.bytes, hml, findClass_of_methodNamed B.named, fun w h => atoms_spec (ws := Cond.code yX13_plansAll cX13_plansAll 4 (Option.some Jvm.ClassFile.FieldType.int) :: bt) B.pre w (List.mem_cons_of_mem _ h), hKs, hT, by rw [hz]; exact hb0, B.notSynchronized, B.returns⟩
  have hH : HQ E K z w s s.heap [] := ⟨hP, va_S.rf, hz⟩
  obtain ⟨hx, hb, hml, hown, hts, hKs, hT, hb0, hlocks, hret⟩ := id C
  have hl := lv_entry [rv E (some o)] (n := 4) (by simp [lg_len_nil, lg_len_i, lg_len_j, lg_len_q, lg_len_f, lg_len_d, lg_len_r])
  rw [lg_entry_eq]
  generalize (lg_sl [rv E (some o)] ++ List.replicate (4 - (lg_sl [rv E (some o)]).length) Slot.unset).toArray = ls at hl ⊢
  replace hl : lv_has ls 4 [(0, rv E (some o))] := by simpa only [lv_args, cat_q, cat_i, cat_j, reduceIte, Nat.reduceEqDiff, Nat.reduceAdd, Nat.zero_add] using hl
  generalize s.heap = H at hH ⊢
  unfold f_X13_plansAll at hf
  refine hl_aload_n hx hb dX13_plansAll_0 rfl (lv_at hl 0 rfl) ?_
  refine lv_iconst (v := 0) hx hb dX13_plansAll_1 (by decide) ?_
  obtain ⟨q1, hq1, hf⟩ := bnd hf
  refine hcV_i hx hb hml hown hts hKs hT hb0 hH (As := [.int 0]) (rest := []) (k_X13_manyIn l E K H.size o 0 w ho hq1) (gV m7_138 m7_140 ms_56 m1_16 m7_141) hd_X13_manyIn ⟨Nat.le_of_ble_eq_true rfl, Nat.le_of_ble_eq_true rfl, rfl, rfl⟩ rfl ho rfl rfl rfl hl.1 rfl rc0 rfl dX13_plansAll_2 ⟨Nat.zero_le _, Nat.zero_le _⟩ (fun H locs hH => ?_)
  refine lv_istore_n (i := 1) (lv' := [(1, .int (q1.1)), (0, rv E (some o))]) hx hb dX13_plansAll_5 rfl hl (by decide) rfl (fun ls hl => ?_)
  refine lv_iconst (v := 0) hx hb dX13_plansAll_6 (by decide) ?_
  refine lv_istore_n (i := 2) (lv' := [(2, .int 0), (1, .int (q1.1)), (0, rv E (some o))]) hx hb dX13_plansAll_7 rfl hl (by decide) rfl (fun ls hl => ?_)
  refine l_X13_plansAll_L8  C ho _ (fun v1_8 v2_8 w2 H locs ls hH hl hf => ?_) fu q1.1 0 q1.2 _ _ _ hH (lv_sub hl [1, 0, 2] rfl) hf
  refine lv_iconst (v := 0) hx hb dX13_plansAll_30 (by decide) ?_
  refine lv_istore_n (i := 2) (lv' := [(2, .int 0), (1, .int v1_8), (0, rv E (some o))]) hx hb dX13_plansAll_31 rfl hl (by decide) rfl (fun ls hl => ?_)
  refine lv_iconst (v := 0) hx hb dX13_plansAll_32 (by decide) ?_
  refine lv_istore_n (i := 3) (lv' := [(3, .int 0), (2, .int 0), (1, .int v1_8), (0, rv E (some o))]) hx hb dX13_plansAll_33 rfl hl (by decide) rfl (fun ls hl => ?_)
  refine l_X13_plansAll_L34  C ho _ (fun v1_34 v2_34 v3_34 w8 H locs ls hH hl hf => ?_) fu v1_8 0 0 w2 _ _ _ hH (lv_sub hl [2, 1, 0, 3] rfl) hf
  refine lv_iload_n hx hb dX13_plansAll_62 rfl (lv_at hl 1 rfl) ?_
  exact hw_iret hx hb hret hf hH hlocks dX13_plansAll_63

theorem dX13_planAll_0 : decode cX13_planAll 0 = .ok (.aload_n 0, 1) := by decide +kernel
theorem dX13_planAll_1 : decode cX13_planAll 1 = .ok (.iconst 0, 1) := by decide +kernel
theorem dX13_planAll_2 : decode cX13_planAll 2 = .ok (.putfield 104, 3) := by decide +kernel
theorem dX13_planAll_5 : decode cX13_planAll 5 = .ok (.aload_n 0, 1) := by decide +kernel
theorem dX13_planAll_6 : decode cX13_planAll 6 = .ok (.invokevirtual 262, 3) := by decide +kernel
theorem dX13_planAll_9 : decode cX13_planAll 9 = .ok (.aload_n 0, 1) := by decide +kernel
theorem dX13_planAll_10 : decode cX13_planAll 10 = .ok (.aload_n 0, 1) := by decide +kernel
theorem dX13_planAll_11 : decode cX13_planAll 11 = .ok (.invokevirtual 275, 3) := by decide +kernel
theorem dX13_planAll_14 : decode cX13_planAll 14 = .ok (.invokevirtual 269, 3) := by decide +kernel
theorem dX13_planAll_17 : decode cX13_planAll 17 = .ok (.ireturn, 1) := by decide +kernel
theorem hd_X13_planAll : yX13_planAll.cls = RX13 ∧ yX13_planAll.cls ≠ "java/lang/invoke/MethodHandle" ∧ yX13_planAll.cls ≠ "java/lang/invoke/VarHandle" ∧ (parseMethodDescriptor yX13_planAll.desc).map (fun d => d.parameters.length) = some 0 := by decide +kernel
theorem hs_X13_planAll : yX13_planAll.cls ≠ "java/lang/invoke/MethodHandle" ∧ yX13_planAll.cls ≠ "java/lang/invoke/VarHandle" ∧ (parseMethodDescriptor yX13_planAll.desc).map (fun d => d.parameters.length) = some 0 := by decide +kernel
set_option maxHeartbeats 4000000 in
set_option maxRecDepth 100000 in
theorem k_X13_planAll (l : Launch) (E : Ev) (K : Kd) (z : Nat) (o : Nat) (w : Wd) (ho : K o = some (11, 0)) {r : Int32} {w' : Wd} (hf : f_X13_planAll K o w = some (r, w')) : Met l yX13_planAll (Cond.code yX13_planAll cX13_planAll 1 (Option.some Jvm.ClassFile.FieldType.int) :: bt) ({ frames := 11, cells := 0, slots := 0, locals := 258 } : Room) (va_Pc [rv E (some o)] (HB E K w z)) (QI E K z w' r) 0 0 (hA E) := by
  refine Met.ofW (cc := cX13_planAll) (maxL := 1) (ret := (Option.some Jvm.ClassFile.FieldType.int)) (by decide) rfl ?_
  intro p e s m args below meth c s₁ B hml hv
  obtain ⟨rfl, hz, hP, hKs, hT, hb0⟩ := hv
  have C : CX p l e s m _ meth c cX13_planAll 1 RX13 (Option.some Jvm.ClassFile.FieldType.int) E := ⟨B.exec, B.bytes, hml, findClass_of_methodNamed B.named, fun w h => atoms_spec (ws := Cond.code yX13_planAll cX13_planAll 1 (Option.some Jvm.ClassFile.FieldType.int) :: bt) B.pre w (List.mem_cons_of_mem _ h), hKs, hT, by rw [hz]; exact hb0, B.notSynchronized, B.returns⟩
  have hH : HQ E K z w s s.heap [] := ⟨hP, va_S.rf, hz⟩
  obtain ⟨hx, hb, hml, hown, hts, hKs, hT, hb0, hlocks, hret⟩ := id C
  have hl := lv_entry [rv E (some o)] (n := 1) (by simp [lg_len_nil, lg_len_i, lg_len_j, lg_len_q, lg_len_f, lg_len_d, lg_len_r])
  rw [lg_entry_eq]
  generalize (lg_sl [rv E (some o)] ++ List.replicate (1 - (lg_sl [rv E (some o)]).length) Slot.unset).toArray = ls at hl ⊢
  replace hl : lv_has ls 1 [(0, rv E (some o))] := by simpa only [lv_args, cat_q, cat_i, cat_j, reduceIte, Nat.reduceEqDiff, Nat.reduceAdd, Nat.zero_add] using hl
  generalize s.heap = H at hH ⊢
  unfold f_X13_planAll at hf
  refine hl_aload_n hx hb dX13_planAll_0 rfl (lv_at hl 0 rfl) ?_
  refine lv_iconst (v := 0) hx hb dX13_planAll_1 (by decide) ?_
  obtain ⟨w1, hw1, hf⟩ := bnd hf
  replace hw1 := Option.some.inj hw1
  refine p13_0 (v := 0) hx hb hts hown hKs hH rfl ho m6_181 dX13_planAll_2 (fun H locs hH => ?_)
  rw [hw1] at hH
  refine hl_aload_n hx hb dX13_planAll_5 rfl (lv_at hl 0 rfl) ?_
  obtain ⟨q2, hq2, hf⟩ := bnd hf
  refine hcV_v hx hb hml hown hts hKs hT hb0 hH (As := []) (rest := []) (k_X13_starts l E K H.size o w1 ho hq2) (gV m8_38 m8_40 ms_80 m1_16 m8_41) hd_X13_starts ⟨Nat.le_of_ble_eq_true rfl, Nat.le_of_ble_eq_true rfl, rfl, rfl⟩ rfl ho rfl rfl rfl hl.1 rfl rc0 rfl dX13_planAll_6 ⟨Nat.zero_le _, Nat.zero_le _⟩ (fun H locs hH => ?_)
  refine hl_aload_n hx hb dX13_planAll_9 rfl (lv_at hl 0 rfl) ?_
  refine hl_aload_n hx hb dX13_planAll_10 rfl (lv_at hl 0 rfl) ?_
  obtain ⟨q3, hq3, hf⟩ := bnd hf
  refine hcV_i hx hb hml hown hts hKs hT hb0 hH (As := []) (rest := [rv E (some o)]) (k_X13_plansAll l E K H.size o q2 ho hq3) (gV m8_66 m8_68 ms_85 m1_16 m8_69) hd_X13_plansAll ⟨Nat.le_of_ble_eq_true rfl, Nat.le_of_ble_eq_true rfl, rfl, rfl⟩ rfl ho rfl rfl rfl hl.1 rfl (rcV rc0) rfl dX13_planAll_11 ⟨Nat.zero_le _, Nat.zero_le _⟩ (fun H locs hH => ?_)
  obtain ⟨q4, hq4, hf⟩ := bnd hf
  refine hcV_i hx hb hml hown hts hKs hT hb0 hH (As := [.int (q3.1)]) (rest := []) (k_X13_done l E K H.size o q3.1 q3.2 ho hq4) (gV m8_50 m8_52 ms_83 m1_16 m8_53) hd_X13_done ⟨Nat.le_of_ble_eq_true rfl, Nat.le_of_ble_eq_true rfl, rfl, rfl⟩ rfl ho rfl rfl rfl hl.1 rfl rc0 rfl dX13_planAll_14 ⟨Nat.zero_le _, Nat.zero_le _⟩ (fun H locs hH => ?_)
  exact hw_iret hx hb hret hf hH hlocks dX13_planAll_17
end
