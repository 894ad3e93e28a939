section
variable {p : Program} {l : Launch} {e : Env} {s : State} {m : MethodId} {args : Array Value} {below : List Frame} {meth : Method} {c : Code} {E : Ev} {K : Kd} {z : Nat}

theorem dX5_takesOfficer_0 : decode cX5_takesOfficer 0 = .ok (.aload_n 0, 1) := by decide +kernel
theorem dX5_takesOfficer_1 : decode cX5_takesOfficer 1 = .ok (.iconst 1, 1) := by decide +kernel
theorem dX5_takesOfficer_2 : decode cX5_takesOfficer 2 = .ok (.invokevirtual 129, 3) := by decide +kernel
theorem dX5_takesOfficer_5 : decode cX5_takesOfficer 5 = .ok (.ifCond .ne 5, 3) := by decide +kernel
theorem dX5_takesOfficer_8 : decode cX5_takesOfficer 8 = .ok (.iconst 0, 1) := by decide +kernel
theorem dX5_takesOfficer_9 : decode cX5_takesOfficer 9 = .ok (.ireturn, 1) := by decide +kernel
theorem dX5_takesOfficer_10 : decode cX5_takesOfficer 10 = .ok (.iconst 0, 1) := by decide +kernel
theorem dX5_takesOfficer_11 : decode cX5_takesOfficer 11 = .ok (.istore_n 1, 1) := by decide +kernel
theorem dX5_takesOfficer_12 : decode cX5_takesOfficer 12 = .ok (.aload_n 0, 1) := by decide +kernel
theorem dX5_takesOfficer_13 : decode cX5_takesOfficer 13 = .ok (.getfield 12, 3) := by decide +kernel
theorem dX5_takesOfficer_16 : decode cX5_takesOfficer 16 = .ok (.getfield 39, 3) := by decide +kernel
theorem dX5_takesOfficer_19 : decode cX5_takesOfficer 19 = .ok (.getstatic 154, 3) := by decide +kernel
theorem dX5_takesOfficer_22 : decode cX5_takesOfficer 22 = .ok (.if_acmp .ne 64, 3) := by decide +kernel
theorem dX5_takesOfficer_25 : decode cX5_takesOfficer 25 = .ok (.iload_n 1, 1) := by decide +kernel
theorem dX5_takesOfficer_26 : decode cX5_takesOfficer 26 = .ok (.iconst 3, 1) := by decide +kernel
theorem dX5_takesOfficer_27 : decode cX5_takesOfficer 27 = .ok (.if_icmp .lt 9, 3) := by decide +kernel
theorem dX5_takesOfficer_30 : decode cX5_takesOfficer 30 = .ok (.aload_n 0, 1) := by decide +kernel
theorem dX5_takesOfficer_31 : decode cX5_takesOfficer 31 = .ok (.iconst 4, 1) := by decide +kernel
theorem dX5_takesOfficer_32 : decode cX5_takesOfficer 32 = .ok (.invokevirtual 99, 3) := by decide +kernel
theorem dX5_takesOfficer_35 : decode cX5_takesOfficer 35 = .ok (.ireturn, 1) := by decide +kernel
theorem dX5_takesOfficer_36 : decode cX5_takesOfficer 36 = .ok (.aload_n 0, 1) := by decide +kernel
theorem dX5_takesOfficer_37 : decode cX5_takesOfficer 37 = .ok (.getfield 12, 3) := by decide +kernel
theorem dX5_takesOfficer_40 : decode cX5_takesOfficer 40 = .ok (.invokevirtual 112, 3) := by decide +kernel
theorem dX5_takesOfficer_43 : decode cX5_takesOfficer 43 = .ok (.aload_n 0, 1) := by decide +kernel
theorem dX5_takesOfficer_44 : decode cX5_takesOfficer 44 = .ok (.sipush 599, 3) := by decide +kernel
theorem dX5_takesOfficer_47 : decode cX5_takesOfficer 47 = .ok (.invokevirtual 135, 3) := by decide +kernel
theorem dX5_takesOfficer_50 : decode cX5_takesOfficer 50 = .ok (.ifCond .ne 5, 3) := by decide +kernel
theorem dX5_takesOfficer_53 : decode cX5_takesOfficer 53 = .ok (.iconst 0, 1) := by decide +kernel
theorem dX5_takesOfficer_54 : decode cX5_takesOfficer 54 = .ok (.ireturn, 1) := by decide +kernel
theorem dX5_takesOfficer_55 : decode cX5_takesOfficer 55 = .ok (.aload_n 0, 1) := by decide +kernel
theorem dX5_takesOfficer_56 : decode cX5_takesOfficer 56 = .ok (.getfield 21, 3) := by decide +kernel
theorem dX5_takesOfficer_59 : decode cX5_takesOfficer 59 = .ok (.aload_n 0, 1) := by decide +kernel
theorem dX5_takesOfficer_60 : decode cX5_takesOfficer 60 = .ok (.getfield 21, 3) := by decide +kernel
theorem dX5_takesOfficer_63 : decode cX5_takesOfficer 63 = .ok (.iconst 1, 1) := by decide +kernel
theorem dX5_takesOfficer_64 : decode cX5_takesOfficer 64 = .ok (.invokevirtual 141, 3) := by decide +kernel
theorem dX5_takesOfficer_67 : decode cX5_takesOfficer 67 = .ok (.iconst 1, 1) := by decide +kernel
theorem dX5_takesOfficer_68 : decode cX5_takesOfficer 68 = .ok (.isub, 1) := by decide +kernel
theorem dX5_takesOfficer_69 : decode cX5_takesOfficer 69 = .ok (.aload_n 0, 1) := by decide +kernel
theorem dX5_takesOfficer_70 : decode cX5_takesOfficer 70 = .ok (.getfield 144, 3) := by decide +kernel
theorem dX5_takesOfficer_73 : decode cX5_takesOfficer 73 = .ok (.aload_n 0, 1) := by decide +kernel
theorem dX5_takesOfficer_74 : decode cX5_takesOfficer 74 = .ok (.getfield 147, 3) := by decide +kernel
theorem dX5_takesOfficer_77 : decode cX5_takesOfficer 77 = .ok (.invokevirtual 157, 3) := by decide +kernel
theorem dX5_takesOfficer_80 : decode cX5_takesOfficer 80 = .ok (.iinc 1 1, 3) := by decide +kernel
theorem dX5_takesOfficer_83 : decode cX5_takesOfficer 83 = .ok (.goto (-71), 3) := by decide +kernel
theorem dX5_takesOfficer_86 : decode cX5_takesOfficer 86 = .ok (.iconst 1, 1) := by decide +kernel
theorem dX5_takesOfficer_87 : decode cX5_takesOfficer 87 = .ok (.ireturn, 1) := by decide +kernel
theorem hd_X5_takesOfficer : yX5_takesOfficer.cls = RX5 ∧ yX5_takesOfficer.cls ≠ "java/lang/invoke/MethodHandle" ∧ yX5_takesOfficer.cls ≠ "java/lang/invoke/VarHandle" ∧ (parseMethodDescriptor yX5_takesOfficer.desc).map (fun d => d.parameters.length) = some 0 := by decide +kernel
theorem hs_X5_takesOfficer : yX5_takesOfficer.cls ≠ "java/lang/invoke/MethodHandle" ∧ yX5_takesOfficer.cls ≠ "java/lang/invoke/VarHandle" ∧ (parseMethodDescriptor yX5_takesOfficer.desc).map (fun d => d.parameters.length) = some 0 := by decide +kernel
set_option maxHeartbeats 4000000 in
set_option maxRecDepth 100000 in
theorem l_X5_takesOfficer_L12 (C : CX p l e s m args meth c cX5_takesOfficer 2 RX5 (Option.some Jvm.ClassFile.FieldType.boolean) E) {o : Nat} (ho : K o = some (4, 0)) {r : Bool} {w' : Wd} (k : Int32 → Wd → Option (Bool × Wd)) (hk : ∀ (v1_12 : Int32) (w : Wd) (H : Heap) (locs : List Loc) (ls : Array Slot), HQ E K z w s H locs → lv_has ls 2 [(1, .int v1_12), (0, rv E (some o))] → k v1_12 w = some (r, w') → W p l e ({ frames := 4, cells := 0, slots := 0, locals := 86 } : Room) s m args below meth c H locs 0 0 (MQ below (QI E K z w' (b2i r)) args s 0 0 (hA E)) (F0 m 86 ls [])) : ∀ (n : Nat) (v1_12 : Int32) (w : Wd) (H : Heap) (locs : List Loc) (ls : Array Slot), HQ E K z w s H locs → lv_has ls 2 [(1, .int v1_12), (0, rv E (some o))] → f_X5_takesOfficer_L12 K o k n v1_12 w = some (r, w') → W p l e ({ frames := 4, cells := 0, slots := 0, locals := 86 } : Room) s m args below meth c H locs 0 0 (MQ below (QI E K z w' (b2i r)) args s 0 0 (hA E)) (F0 m 12 ls []) := by
  obtain ⟨hx, hb, hml, hown, hts, hKs, hT, hb0, hlocks, hret⟩ := id C
  intro n
  induction n with
  | zero =>
    intro v1_12 w H locs ls hH hl hf
    cases hf
  | succ n ih =>
    intro v1_12 w H locs ls hH hl hf
    rw [f_X5_takesOfficer_L12] at hf
    refine hl_aload_n hx hb dX5_takesOfficer_12 rfl (lv_at hl 1 rfl) ?_
    refine g5_0 hx hb hts hown hKs hH rfl ho m2_24 dX5_takesOfficer_13 ?_
    obtain ⟨a4, ha4, hf⟩ := bnd hf
    replace ha4 := chk_some ha4
    refine gn8_4 hx hb hts hown hKs hH ha4.1 ha4.2 m2_1 dX5_takesOfficer_16 ?_
    refine hw_tok hx hb 4 (by decide) hts hown hT hH m5_4 dX5_takesOfficer_19 ?_
    obtain ⟨_, hg5, hf⟩ := bnd hf
    refine hw_acmp_ne (tgt := 86) hx hb hT (grd_some hg5) rfl dX5_takesOfficer_22 (by decide) (fun c6 => ?_) (fun c6 => ?_)
    · replace hf := (if_neg c6).symm.trans hf
      exact hk v1_12 _ _ _ _ hH (lv_sub hl [0, 1] rfl) hf
    · replace hf := (if_pos c6).symm.trans hf
      refine lv_iload_n hx hb dX5_takesOfficer_25 rfl (lv_at hl 0 rfl) ?_
      refine lv_iconst (v := 3) hx hb dX5_takesOfficer_26 (by decide) ?_
      refine lv_icmp_lt (tgt := 36) hx hb dX5_takesOfficer_27 (by decide) (fun c7 => ?_) (fun c7 => ?_)
      · replace hf := (if_pos c7).symm.trans hf
        refine hl_aload_n hx hb dX5_takesOfficer_36 rfl (lv_at hl 1 rfl) ?_
        refine g5_0 hx hb hts hown hKs hH rfl ho m2_24 dX5_takesOfficer_37 ?_
        obtain ⟨q8, hq8, hf⟩ := bnd hf
        refine hcV_v hx hb hml hown hts hKs hT hb0 hH (As := []) (rest := []) (k_X8_advance l E K H.size a4 w ha4.2 hq8) (gV m4_191 m4_148 m4_149 m1_9 m4_150) hd_X8_advance ⟨Nat.le_of_ble_eq_true rfl, Nat.le_of_ble_eq_true rfl, rfl, rfl⟩ ha4.1 ha4.2 rfl rfl rfl hl.1 rfl rc0 rfl dX5_takesOfficer_40 ⟨Nat.zero_le _, Nat.zero_le _⟩ (fun H locs hH => ?_)
        refine hl_aload_n hx hb dX5_takesOfficer_43 rfl (lv_at hl 1 rfl) ?_
        refine lv_sipush (v := 599) hx hb dX5_takesOfficer_44 (by decide) ?_
        obtain ⟨q9, hq9, hf⟩ := bnd hf
        refine hcV_i hx hb hml hown hts hKs hT hb0 hH (As := [.int 599]) (rest := []) (k_X5_takesSpan l E K H.size o 599 q8 ho hq9) (gV m4_230 m4_232 ms_18 m1_8 m4_233) hd_X5_takesSpan ⟨Nat.le_of_ble_eq_true rfl, Nat.le_of_ble_eq_true rfl, rfl, rfl⟩ rfl ho rfl rfl rfl hl.1 rfl rc0 rfl dX5_takesOfficer_47 ⟨Nat.zero_le _, Nat.zero_le _⟩ (fun H locs hH => ?_)
        refine lv_if_ne (tgt := 55) hx hb dX5_takesOfficer_50 (by decide) (fun c10 => ?_) (fun c10 => ?_)
        · replace hf := (if_neg c10).symm.trans hf
          refine hl_aload_n hx hb dX5_takesOfficer_55 rfl (lv_at hl 1 rfl) ?_
          refine g5_1 hx hb hts hown hKs hH rfl ho m2_25 dX5_takesOfficer_56 ?_
          refine hl_aload_n hx hb dX5_takesOfficer_59 rfl (lv_at hl 1 rfl) ?_
          refine g5_1 hx hb hts hown hKs hH rfl ho m2_25 dX5_takesOfficer_60 ?_
          refine lv_iconst (v := 1) hx hb dX5_takesOfficer_63 (by decide) ?_
          obtain ⟨a11, ha11, hf⟩ := bnd hf
          replace ha11 := chk_some ha11
          obtain ⟨q12, hq12, hf⟩ := bnd hf
          refine hcV_i hx hb hml hown hts hKs hT hb0 hH (As := [.int 1]) (rest := [rv E (wR q9.2 501 o)]) (k_X9_size l E K H.size a11 1 q9.2 ha11.2 hq12) (gV m4_238 m3_22 m3_23 m1_2 m3_24) hd_X9_size ⟨Nat.le_of_ble_eq_true rfl, Nat.le_of_ble_eq_true rfl, rfl, rfl⟩ ha11.1 ha11.2 rfl rfl rfl hl.1 rfl (rcV rc0) rfl dX5_takesOfficer_64 ⟨Nat.zero_le _, Nat.zero_le _⟩ (fun H locs hH => ?_)
          refine lv_iconst (v := 1) hx hb dX5_takesOfficer_67 (by decide) ?_
          refine lv_isub hx hb dX5_takesOfficer_68 ?_
          refine hl_aload_n hx hb dX5_takesOfficer_69 rfl (lv_at hl 1 rfl) ?_
          refine g5_5 hx hb hts hown hKs hH rfl ho m2_31 dX5_takesOfficer_70 ?_
          refine hl_aload_n hx hb dX5_takesOfficer_73 rfl (lv_at hl 1 rfl) ?_
          refine g5_6 hx hb hts hown hKs hH rfl ho m2_32 dX5_takesOfficer_74 ?_
          obtain ⟨q13, hq13, hf⟩ := bnd hf
          refine hcV_v hx hb hml hown hts hKs hT hb0 hH (As := [.int ((q12.1 - 1)), .int ((wI q12.2 505 o)), .int ((wI q12.2 506 o))]) (rest := []) (k_X9_addOff l E K H.size a11 (q12.1 - 1) (wI q12.2 505 o) (wI q12.2 506 o) q12.2 ha11.2 hq13) (gV m5_6 m5_7 m5_8 m1_2 m5_9) hd_X9_addOff ⟨Nat.le_of_ble_eq_true rfl, Nat.le_of_ble_eq_true rfl, rfl, rfl⟩ ha11.1 ha11.2 rfl rfl rfl hl.1 rfl rc0 rfl dX5_takesOfficer_77 ⟨Nat.zero_le _, Nat.zero_le _⟩ (fun H locs hH => ?_)
          refine lv_iinc (v := (v1_12 + 1)) (lv' := [(1, .int ((v1_12 + 1))), (0, rv E (some o))]) hx hb dX5_takesOfficer_80 hl (k := 0) rfl rfl (by decide) rfl (fun ls hl => ?_)
          refine lv_goto (tgt := 12) hx hb dX5_takesOfficer_83 (by decide) ?_
          exact ih (v1_12 + 1) _ _ _ _ hH (lv_sub hl [0, 1] rfl) hf
        · replace hf := (if_pos c10).symm.trans hf
          refine lv_iconst (v := 0) hx hb dX5_takesOfficer_53 (by decide) ?_
          exact hw_zret hx hb hret rfl hf hH hlocks dX5_takesOfficer_54
      · replace hf := (if_neg c7).symm.trans hf
        refine hl_aload_n hx hb dX5_takesOfficer_30 rfl (lv_at hl 1 rfl) ?_
        refine lv_iconst (v := 4) hx hb dX5_takesOfficer_31 (by decide) ?_
        obtain ⟨q14, hq14, hf⟩ := bnd hf
        refine hcV_i hx hb hml hown hts hKs hT hb0 hH (As := [.int 4]) (rest := []) (k_X5_fail l E K H.size o 4 w ho hq14) (gV m4_187 m4_189 ms_13 m1_8 m4_190) hd_X5_fail ⟨Nat.le_of_ble_eq_true rfl, Nat.le_of_ble_eq_true rfl, rfl, rfl⟩ rfl ho rfl rfl rfl hl.1 rfl rc0 rfl dX5_takesOfficer_32 ⟨Nat.zero_le _, Nat.zero_le _⟩ (fun H locs hH => ?_)
        exact hw_zret hx hb hret rfl hf hH hlocks dX5_takesOfficer_35
set_option maxHeartbeats 4000000 in
set_option maxRecDepth 100000 in
theorem k_X5_takesOfficer (l : Launch) (E : Ev) (K : Kd) (z : Nat) (o : Nat) (w : Wd) (ho : K o = some (4, 0)) {r : Bool} {w' : Wd} (hf : f_X5_takesOfficer K o w = some (r, w')) : Met l yX5_takesOfficer (Cond.code yX5_takesOfficer cX5_takesOfficer 2 (Option.some Jvm.ClassFile.FieldType.boolean) :: bt) ({ frames := 4, cells := 0, slots := 0, locals := 86 } : Room) (va_Pc [rv E (some o)] (HB E K w z)) (QI E K z w' (b2i r)) 0 0 (hA E) := by
  refine Met.ofW (cc := cX5_takesOfficer) (maxL := 2) (ret := (Option.some Jvm.ClassFile.FieldType.boolean)) (by decide) rfl ?_
  intro p e s m args below meth c s₁ B hml hv
  obtain ⟨rfl, hz, hP, hKs, hT, hb0⟩ := hv
  have C : CX p l e s m _ meth c cX5_takesOfficer 2 RX5 (Option.some Jvm.ClassFile.FieldType.boolean) E := ⟨B.exec, B.bytes, hml, findClass_of_methodNamed B.named, fun w h => atoms_spec (ws := Cond.code yX5_takesOfficer cX5_takesOfficer 2 (Option.some Jvm.ClassFile.FieldType.boolean) :: bt) B.pre w (List.mem_cons_of_mem _ h), hKs, hT, by rw [hz]; exact hb0, B.notSynchronized, B.returns⟩
  have hH : HQ E K z w s s.heap [] := ⟨hP, va_S.rf, hz⟩
  obtain ⟨hx, hb, hml, hown, hts, hKs, hT, hb0, hlocks, hret⟩ := id C
  have hl := lv_entry [rv E (some o)] (n := 2) (by simp [lg_len_nil, lg_len_i, lg_len_j, lg_len_q, lg_len_f, lg_len_d, lg_len_r])
  rw [lg_entry_eq]
  generalize (lg_sl [rv E (some o)] ++ List.replicate (2 - (lg_sl [rv E (some o)]).length) Slot.unset).toArray = ls at hl ⊢
  replace hl : lv_has ls 2 [(0, rv E (some o))] := by simpa only [lv_args, cat_q, cat_i, cat_j, reduceIte, Nat.reduceEqDiff, Nat.reduceAdd, Nat.zero_add] using hl
  generalize s.heap = H at hH ⊢
  unfold f_X5_takesOfficer at hf
  refine hl_aload_n hx hb dX5_takesOfficer_0 rfl (lv_at hl 0 rfl) ?_
  refine lv_iconst (v := 1) hx hb dX5_takesOfficer_1 (by decide) ?_
  obtain ⟨q1, hq1, hf⟩ := bnd hf
  refine hcV_i hx hb hml hown hts hKs hT hb0 hH (As := [.int 1]) (rest := []) (k_X5_takesNewName l E K H.size o 1 w ho hq1) (gV m4_207 m4_209 ms_16 m1_8 m4_210) hd_X5_takesNewName ⟨Nat.le_of_ble_eq_true rfl, Nat.le_of_ble_eq_true rfl, rfl, rfl⟩ rfl ho rfl rfl rfl hl.1 rfl rc0 rfl dX5_takesOfficer_2 ⟨Nat.zero_le _, Nat.zero_le _⟩ (fun H locs hH => ?_)
  refine lv_if_ne (tgt := 10) hx hb dX5_takesOfficer_5 (by decide) (fun c2 => ?_) (fun c2 => ?_)
  · replace hf := (if_neg c2).symm.trans hf
    refine lv_iconst (v := 0) hx hb dX5_takesOfficer_10 (by decide) ?_
    refine lv_istore_n (i := 1) (lv' := [(1, .int 0), (0, rv E (some o))]) hx hb dX5_takesOfficer_11 rfl hl (by decide) rfl (fun ls hl => ?_)
    refine l_X5_takesOfficer_L12  C ho _ (fun v1_12 w3 H locs ls hH hl hf => ?_) fu 0 q1.2 _ _ _ hH (lv_sub hl [0, 1] rfl) hf
    refine lv_iconst (v := 1) hx hb dX5_takesOfficer_86 (by decide) ?_
    exact hw_zret hx hb hret rfl hf hH hlocks dX5_takesOfficer_87
  · replace hf := (if_pos c2).symm.trans hf
    refine lv_iconst (v := 0) hx hb dX5_takesOfficer_8 (by decide) ?_
    exact hw_zret hx hb hret rfl hf hH hlocks dX5_takesOfficer_9

theorem dX5_takesWitness_0 : decode cX5_takesWitness 0 = .ok (.aload_n 0, 1) := by decide +kernel
theorem dX5_takesWitness_1 : decode cX5_takesWitness 1 = .ok (.iconst 2, 1) := by decide +kernel
theorem dX5_takesWitness_2 : decode cX5_takesWitness 2 = .ok (.invokevirtual 129, 3) := by decide +kernel
theorem dX5_takesWitness_5 : decode cX5_takesWitness 5 = .ok (.ifCond .eq 23, 3) := by decide +kernel
theorem dX5_takesWitness_8 : decode cX5_takesWitness 8 = .ok (.aload_n 0, 1) := by decide +kernel
theorem dX5_takesWitness_9 : decode cX5_takesWitness 9 = .ok (.getstatic 161, 3) := by decide +kernel
theorem dX5_takesWitness_12 : decode cX5_takesWitness 12 = .ok (.invokevirtual 55, 3) := by decide +kernel
theorem dX5_takesWitness_15 : decode cX5_takesWitness 15 = .ok (.ifCond .eq 13, 3) := by decide +kernel
theorem dX5_takesWitness_18 : decode cX5_takesWitness 18 = .ok (.aload_n 0, 1) := by decide +kernel
theorem dX5_takesWitness_19 : decode cX5_takesWitness 19 = .ok (.sipush 599, 3) := by decide +kernel
theorem dX5_takesWitness_22 : decode cX5_takesWitness 22 = .ok (.invokevirtual 135, 3) := by decide +kernel
theorem dX5_takesWitness_25 : decode cX5_takesWitness 25 = .ok (.ifCond .ne 5, 3) := by decide +kernel
theorem dX5_takesWitness_28 : decode cX5_takesWitness 28 = .ok (.iconst 0, 1) := by decide +kernel
theorem dX5_takesWitness_29 : decode cX5_takesWitness 29 = .ok (.ireturn, 1) := by decide +kernel
theorem dX5_takesWitness_30 : decode cX5_takesWitness 30 = .ok (.aload_n 0, 1) := by decide +kernel
theorem dX5_takesWitness_31 : decode cX5_takesWitness 31 = .ok (.getfield 21, 3) := by decide +kernel
theorem dX5_takesWitness_34 : decode cX5_takesWitness 34 = .ok (.iconst 2, 1) := by decide +kernel
theorem dX5_takesWitness_35 : decode cX5_takesWitness 35 = .ok (.invokevirtual 141, 3) := by decide +kernel
theorem dX5_takesWitness_38 : decode cX5_takesWitness 38 = .ok (.iconst 1, 1) := by decide +kernel
theorem dX5_takesWitness_39 : decode cX5_takesWitness 39 = .ok (.isub, 1) := by decide +kernel
theorem dX5_takesWitness_40 : decode cX5_takesWitness 40 = .ok (.istore_n 1, 1) := by decide +kernel
theorem dX5_takesWitness_41 : decode cX5_takesWitness 41 = .ok (.aload_n 0, 1) := by decide +kernel
theorem dX5_takesWitness_42 : decode cX5_takesWitness 42 = .ok (.getfield 21, 3) := by decide +kernel
theorem dX5_takesWitness_45 : decode cX5_takesWitness 45 = .ok (.getfield 164, 3) := by decide +kernel
theorem dX5_takesWitness_48 : decode cX5_takesWitness 48 = .ok (.iload_n 1, 1) := by decide +kernel
theorem dX5_takesWitness_49 : decode cX5_takesWitness 49 = .ok (.aload_n 0, 1) := by decide +kernel
theorem dX5_takesWitness_50 : decode cX5_takesWitness 50 = .ok (.getfield 144, 3) := by decide +kernel
theorem dX5_takesWitness_53 : decode cX5_takesWitness 53 = .ok (.iastore, 1) := by decide +kernel
theorem dX5_takesWitness_54 : decode cX5_takesWitness 54 = .ok (.aload_n 0, 1) := by decide +kernel
theorem dX5_takesWitness_55 : decode cX5_takesWitness 55 = .ok (.getfield 21, 3) := by decide +kernel
theorem dX5_takesWitness_58 : decode cX5_takesWitness 58 = .ok (.getfield 167, 3) := by decide +kernel
theorem dX5_takesWitness_61 : decode cX5_takesWitness 61 = .ok (.iload_n 1, 1) := by decide +kernel
theorem dX5_takesWitness_62 : decode cX5_takesWitness 62 = .ok (.aload_n 0, 1) := by decide +kernel
theorem dX5_takesWitness_63 : decode cX5_takesWitness 63 = .ok (.getfield 147, 3) := by decide +kernel
theorem dX5_takesWitness_66 : decode cX5_takesWitness 66 = .ok (.iastore, 1) := by decide +kernel
theorem dX5_takesWitness_67 : decode cX5_takesWitness 67 = .ok (.aload_n 0, 1) := by decide +kernel
theorem dX5_takesWitness_68 : decode cX5_takesWitness 68 = .ok (.iconst 0, 1) := by decide +kernel
theorem dX5_takesWitness_69 : decode cX5_takesWitness 69 = .ok (.putfield 144, 3) := by decide +kernel
theorem dX5_takesWitness_72 : decode cX5_takesWitness 72 = .ok (.aload_n 0, 1) := by decide +kernel
theorem dX5_takesWitness_73 : decode cX5_takesWitness 73 = .ok (.bipush 7, 2) := by decide +kernel
theorem dX5_takesWitness_75 : decode cX5_takesWitness 75 = .ok (.putfield 147, 3) := by decide +kernel
theorem dX5_takesWitness_78 : decode cX5_takesWitness 78 = .ok (.aload_n 0, 1) := by decide +kernel
theorem dX5_takesWitness_79 : decode cX5_takesWitness 79 = .ok (.getfield 12, 3) := by decide +kernel
theorem dX5_takesWitness_82 : decode cX5_takesWitness 82 = .ok (.getfield 39, 3) := by decide +kernel
theorem dX5_takesWitness_85 : decode cX5_takesWitness 85 = .ok (.getstatic 132, 3) := by decide +kernel
theorem dX5_takesWitness_88 : decode cX5_takesWitness 88 = .ok (.if_acmp .ne 21, 3) := by decide +kernel
theorem dX5_takesWitness_91 : decode cX5_takesWitness 91 = .ok (.aload_n 0, 1) := by decide +kernel
theorem dX5_takesWitness_92 : decode cX5_takesWitness 92 = .ok (.getfield 12, 3) := by decide +kernel
theorem dX5_takesWitness_95 : decode cX5_takesWitness 95 = .ok (.invokevirtual 112, 3) := by decide +kernel
theorem dX5_takesWitness_98 : decode cX5_takesWitness 98 = .ok (.aload_n 0, 1) := by decide +kernel
theorem dX5_takesWitness_99 : decode cX5_takesWitness 99 = .ok (.bipush 7, 2) := by decide +kernel
theorem dX5_takesWitness_101 : decode cX5_takesWitness 101 = .ok (.invokevirtual 135, 3) := by decide +kernel
theorem dX5_takesWitness_104 : decode cX5_takesWitness 104 = .ok (.ifCond .ne 5, 3) := by decide +kernel
theorem dX5_takesWitness_107 : decode cX5_takesWitness 107 = .ok (.iconst 0, 1) := by decide +kernel
theorem dX5_takesWitness_108 : decode cX5_takesWitness 108 = .ok (.ireturn, 1) := by decide +kernel
theorem dX5_takesWitness_109 : decode cX5_takesWitness 109 = .ok (.aload_n 0, 1) := by decide +kernel
theorem dX5_takesWitness_110 : decode cX5_takesWitness 110 = .ok (.getfield 21, 3) := by decide +kernel
theorem dX5_takesWitness_113 : decode cX5_takesWitness 113 = .ok (.getfield 170, 3) := by decide +kernel
theorem dX5_takesWitness_116 : decode cX5_takesWitness 116 = .ok (.iload_n 1, 1) := by decide +kernel
theorem dX5_takesWitness_117 : decode cX5_takesWitness 117 = .ok (.aload_n 0, 1) := by decide +kernel
theorem dX5_takesWitness_118 : decode cX5_takesWitness 118 = .ok (.getfield 144, 3) := by decide +kernel
theorem dX5_takesWitness_121 : decode cX5_takesWitness 121 = .ok (.iastore, 1) := by decide +kernel
theorem dX5_takesWitness_122 : decode cX5_takesWitness 122 = .ok (.aload_n 0, 1) := by decide +kernel
theorem dX5_takesWitness_123 : decode cX5_takesWitness 123 = .ok (.getfield 21, 3) := by decide +kernel
theorem dX5_takesWitness_126 : decode cX5_takesWitness 126 = .ok (.getfield 173, 3) := by decide +kernel
theorem dX5_takesWitness_129 : decode cX5_takesWitness 129 = .ok (.iload_n 1, 1) := by decide +kernel
theorem dX5_takesWitness_130 : decode cX5_takesWitness 130 = .ok (.aload_n 0, 1) := by decide +kernel
theorem dX5_takesWitness_131 : decode cX5_takesWitness 131 = .ok (.getfield 147, 3) := by decide +kernel
theorem dX5_takesWitness_134 : decode cX5_takesWitness 134 = .ok (.iastore, 1) := by decide +kernel
theorem dX5_takesWitness_135 : decode cX5_takesWitness 135 = .ok (.iconst 1, 1) := by decide +kernel
theorem dX5_takesWitness_136 : decode cX5_takesWitness 136 = .ok (.ireturn, 1) := by decide +kernel
theorem hd_X5_takesWitness : yX5_takesWitness.cls = RX5 ∧ yX5_takesWitness.cls ≠ "java/lang/invoke/MethodHandle" ∧ yX5_takesWitness.cls ≠ "java/lang/invoke/VarHandle" ∧ (parseMethodDescriptor yX5_takesWitness.desc).map (fun d => d.parameters.length) = some 0 := by decide +kernel
theorem hs_X5_takesWitness : yX5_takesWitness.cls ≠ "java/lang/invoke/MethodHandle" ∧ yX5_takesWitness.cls ≠ "java/lang/invoke/VarHandle" ∧ (parseMethodDescriptor yX5_takesWitness.desc).map (fun d => d.parameters.length) = some 0 := by decide +kernel
set_option maxHeartbeats 4000000 in
set_option maxRecDepth 100000 in
theorem k_X5_takesWitness (l : Launch) (E : Ev) (K : Kd) (z : Nat) (o : Nat) (w : Wd) (ho : K o = some (4, 0)) {r : Bool} {w' : Wd} (hf : f_X5_takesWitness K o w = some (r, w')) : Met l yX5_takesWitness (Cond.code yX5_takesWitness cX5_takesWitness 2 (Option.some Jvm.ClassFile.FieldType.boolean) :: bt) ({ frames := 4, cells := 0, slots := 0, locals := 86 } : Room) (va_Pc [rv E (some o)] (HB E K w z)) (QI E K z w' (b2i r)) 0 0 (hA E) := by
  refine Met.ofW (cc := cX5_takesWitness) (maxL := 2) (ret := (Option.some Jvm.ClassFile.FieldType.boolean)) (by decide) rfl ?_
  intro p e s m args below meth c s₁ B hml hv
  obtain ⟨rfl, hz, hP, hKs, hT, hb0⟩ := hv
  have C : CX p l e s m _ meth c cX5_takesWitness 2 RX5 (Option.some Jvm.ClassFile.FieldType.boolean) E := ⟨B.exec, B.bytes, hml, findClass_of_methodNamed B.named, fun w h => atoms_spec (ws := Cond.code yX5_takesWitness cX5_takesWitness 2 (Option.some Jvm.ClassFile.FieldType.boolean) :: bt) B.pre w (List.mem_cons_of_mem _ h), hKs, hT, by rw [hz]; exact hb0, B.notSynchronized, B.returns⟩
  have hH : HQ E K z w s s.heap [] := ⟨hP, va_S.rf, hz⟩
  obtain ⟨hx, hb, hml, hown, hts, hKs, hT, hb0, hlocks, hret⟩ := id C
  have hl := lv_entry [rv E (some o)] (n := 2) (by simp [lg_len_nil, lg_len_i, lg_len_j, lg_len_q, lg_len_f, lg_len_d, lg_len_r])
  rw [lg_entry_eq]
  generalize (lg_sl [rv E (some o)] ++ List.replicate (2 - (lg_sl [rv E (some o)]).length) Slot.unset).toArray = ls at hl ⊢
  replace hl : lv_has ls 2 [(0, rv E (some o))] := by simpa only [lv_args, cat_q, cat_i, cat_j, reduceIte, Nat.reduceEqDiff, Nat.reduceAdd, Nat.zero_add] using hl
  generalize s.heap = H at hH ⊢
  unfold f_X5_takesWitness at hf
  refine hl_aload_n hx hb dX5_takesWitness_0 rfl (lv_at hl 0 rfl) ?_
  refine lv_iconst (v := 2) hx hb dX5_takesWitness_1 (by decide) ?_
  obtain ⟨q1, hq1, hf⟩ := bnd hf
  refine hcV_i hx hb hml hown hts hKs hT hb0 hH (As := [.int 2]) (rest := []) (k_X5_takesNewName l E K H.size o 2 w ho hq1) (gV m4_207 m4_209 ms_16 m1_8 m4_210) hd_X5_takesNewName ⟨Nat.le_of_ble_eq_true rfl, Nat.le_of_ble_eq_true rfl, rfl, rfl⟩ rfl ho rfl rfl rfl hl.1 rfl rc0 rfl dX5_takesWitness_2 ⟨Nat.zero_le _, Nat.zero_le _⟩ (fun H locs hH => ?_)
  refine lv_if_eq (tgt := 28) hx hb dX5_takesWitness_5 (by decide) (fun c2 => ?_) (fun c2 => ?_)
  · replace hf := (if_pos c2).symm.trans hf
    refine lv_iconst (v := 0) hx hb dX5_takesWitness_28 (by decide) ?_
    exact hw_zret hx hb hret rfl hf hH hlocks dX5_takesWitness_29
  · replace hf := (if_neg c2).symm.trans hf
    refine hl_aload_n hx hb dX5_takesWitness_8 rfl (lv_at hl 0 rfl) ?_
    refine hw_tok hx hb 6 (by decide) hts hown hT hH m5_14 dX5_takesWitness_9 ?_
    obtain ⟨q3, hq3, hf⟩ := bnd hf
    refine hcV_i hx hb hml hown hts hKs hT hb0 hH (As := [re E (some 6)]) (rest := []) (k_X5_takes l E K H.size o (some 6) q1.2 ho hq3) (gV m4_226 m4_228 ms_17 m1_8 m4_229) hd_X5_takes ⟨Nat.le_of_ble_eq_true rfl, Nat.le_of_ble_eq_true rfl, rfl, rfl⟩ rfl ho rfl rfl rfl hl.1 rfl rc0 rfl dX5_takesWitness_12 ⟨Nat.zero_le _, Nat.zero_le _⟩ (fun H locs hH => ?_)
    refine lv_if_eq (tgt := 28) hx hb dX5_takesWitness_15 (by decide) (fun c4 => ?_) (fun c4 => ?_)
    · replace hf := (if_pos c4).symm.trans hf
      refine lv_iconst (v := 0) hx hb dX5_takesWitness_28 (by decide) ?_
      exact hw_zret hx hb hret rfl hf hH hlocks dX5_takesWitness_29
    · replace hf := (if_neg c4).symm.trans hf
      refine hl_aload_n hx hb dX5_takesWitness_18 rfl (lv_at hl 0 rfl) ?_
      refine lv_sipush (v := 599) hx hb dX5_takesWitness_19 (by decide) ?_
      obtain ⟨q5, hq5, hf⟩ := bnd hf
      refine hcV_i hx hb hml hown hts hKs hT hb0 hH (As := [.int 599]) (rest := []) (k_X5_takesSpan l E K H.size o 599 q3.2 ho hq5) (gV m4_230 m4_232 ms_18 m1_8 m4_233) hd_X5_takesSpan ⟨Nat.le_of_ble_eq_true rfl, Nat.le_of_ble_eq_true rfl, rfl, rfl⟩ rfl ho rfl rfl rfl hl.1 rfl rc0 rfl dX5_takesWitness_22 ⟨Nat.zero_le _, Nat.zero_le _⟩ (fun H locs hH => ?_)
      refine lv_if_ne (tgt := 30) hx hb dX5_takesWitness_25 (by decide) (fun c6 => ?_) (fun c6 => ?_)
      · replace hf := (if_neg c6).symm.trans hf
        refine hl_aload_n hx hb dX5_takesWitness_30 rfl (lv_at hl 0 rfl) ?_
        refine g5_1 hx hb hts hown hKs hH rfl ho m2_25 dX5_takesWitness_31 ?_
        refine lv_iconst (v := 2) hx hb dX5_takesWitness_34 (by decide) ?_
        obtain ⟨a7, ha7, hf⟩ := bnd hf
        replace ha7 := chk_some ha7
        obtain ⟨q8, hq8, hf⟩ := bnd hf
        refine hcV_i hx hb hml hown hts hKs hT hb0 hH (As := [.int 2]) (rest := []) (k_X9_size l E K H.size a7 2 q5.2 ha7.2 hq8) (gV m4_238 m3_22 m3_23 m1_2 m3_24) hd_X9_size ⟨Nat.le_of_ble_eq_true rfl, Nat.le_of_ble_eq_true rfl, rfl, rfl⟩ ha7.1 ha7.2 rfl rfl rfl hl.1 rfl rc0 rfl dX5_takesWitness_35 ⟨Nat.zero_le _, Nat.zero_le _⟩ (fun H locs hH => ?_)
        refine lv_iconst (v := 1) hx hb dX5_takesWitness_38 (by decide) ?_
        refine lv_isub hx hb dX5_takesWitness_39 ?_
        refine lv_istore_n (i := 1) (lv' := [(1, .int ((q8.1 - 1))), (0, rv E (some o))]) hx hb dX5_takesWitness_40 rfl hl (by decide) rfl (fun ls hl => ?_)
        refine hl_aload_n hx hb dX5_takesWitness_41 rfl (lv_at hl 1 rfl) ?_
        refine g5_1 hx hb hts hown hKs hH rfl ho m2_25 dX5_takesWitness_42 ?_
        obtain ⟨a9, ha9, hf⟩ := bnd hf
        replace ha9 := chk_some ha9
        refine gn9_5 hx hb hts hown hKs hH ha9.1 ha9.2 m1_160 dX5_takesWitness_45 ?_
        refine lv_iload_n hx hb dX5_takesWitness_48 rfl (lv_at hl 0 rfl) ?_
        refine hl_aload_n hx hb dX5_takesWitness_49 rfl (lv_at hl 1 rfl) ?_
        refine g5_5 hx hb hts hown hKs hH rfl ho m2_31 dX5_takesWitness_50 ?_
        obtain ⟨a10, ha10, hf⟩ := bnd hf
        replace ha10 := cha_some ha10
        obtain ⟨j11, hj11, hf⟩ := bnd hf
        obtain ⟨w12, hw12, hf⟩ := bnd hf
        replace hw12 := Option.some.inj hw12
        refine hw_iast (x := (wI q8.2 505 o)) hx hb hKs hH ha10.1 ha10.2 hj11 dX5_takesWitness_53 (fun H locs hH => ?_)
        rw [hw12] at hH
        refine hl_aload_n hx hb dX5_takesWitness_54 rfl (lv_at hl 1 rfl) ?_
        refine g5_1 hx hb hts hown hKs hH rfl ho m2_25 dX5_takesWitness_55 ?_
        obtain ⟨a13, ha13, hf⟩ := bnd hf
        replace ha13 := chk_some ha13
        refine gn9_6 hx hb hts hown hKs hH ha13.1 ha13.2 m1_164 dX5_takesWitness_58 ?_
        refine lv_iload_n hx hb dX5_takesWitness_61 rfl (lv_at hl 0 rfl) ?_
        refine hl_aload_n hx hb dX5_takesWitness_62 rfl (lv_at hl 1 rfl) ?_
        refine g5_6 hx hb hts hown hKs hH rfl ho m2_32 dX5_takesWitness_63 ?_
        obtain ⟨a14, ha14, hf⟩ := bnd hf
        replace ha14 := cha_some ha14
        obtain ⟨j15, hj15, hf⟩ := bnd hf
        obtain ⟨w16, hw16, hf⟩ := bnd hf
        replace hw16 := Option.some.inj hw16
        refine hw_iast (x := (wI w12 506 o)) hx hb hKs hH ha14.1 ha14.2 hj15 dX5_takesWitness_66 (fun H locs hH => ?_)
        rw [hw16] at hH
        refine hl_aload_n hx hb dX5_takesWitness_67 rfl (lv_at hl 1 rfl) ?_
        refine lv_iconst (v := 0) hx hb dX5_takesWitness_68 (by decide) ?_
        obtain ⟨w17, hw17, hf⟩ := bnd hf
        replace hw17 := Option.some.inj hw17
        refine p5_5 (v := 0) hx hb hts hown hKs hH rfl ho m2_31 dX5_takesWitness_69 (fun H locs hH => ?_)
        rw [hw17] at hH
        refine hl_aload_n hx hb dX5_takesWitness_72 rfl (lv_at hl 1 rfl) ?_
        refine lv_bipush (v := 7) hx hb dX5_takesWitness_73 (by decide) ?_
        obtain ⟨w18, hw18, hf⟩ := bnd hf
        replace hw18 := Option.some.inj hw18
        refine p5_6 (v := 7) hx hb hts hown hKs hH rfl ho m2_32 dX5_takesWitness_75 (fun H locs hH => ?_)
        rw [hw18] at hH
        refine hl_aload_n hx hb dX5_takesWitness_78 rfl (lv_at hl 1 rfl) ?_
        refine g5_0 hx hb hts hown hKs hH rfl ho m2_24 dX5_takesWitness_79 ?_
        obtain ⟨a19, ha19, hf⟩ := bnd hf
        replace ha19 := chk_some ha19
        refine gn8_4 hx hb hts hown hKs hH ha19.1 ha19.2 m2_1 dX5_takesWitness_82 ?_
        refine hw_tok hx hb 2 (by decide) hts hown hT hH m4_224 dX5_takesWitness_85 ?_
        obtain ⟨_, hg20, hf⟩ := bnd hf
        refine hw_acmp_ne (tgt := 109) hx hb hT (grd_some hg20) rfl dX5_takesWitness_88 (by decide) (fun c21 => ?_) (fun c21 => ?_)
        · replace hf := (if_neg c21).symm.trans hf
          refine hl_aload_n hx hb dX5_takesWitness_109 rfl (lv_at hl 1 rfl) ?_
          refine g5_1 hx hb hts hown hKs hH rfl ho m2_25 dX5_takesWitness_110 ?_
          obtain ⟨a22, ha22, hf⟩ := bnd hf
          replace ha22 := chk_some ha22
          refine gn9_7 hx hb hts hown hKs hH ha22.1 ha22.2 m1_166 dX5_takesWitness_113 ?_
          refine lv_iload_n hx hb dX5_takesWitness_116 rfl (lv_at hl 0 rfl) ?_
          refine hl_aload_n hx hb dX5_takesWitness_117 rfl (lv_at hl 1 rfl) ?_
          refine g5_5 hx hb hts hown hKs hH rfl ho m2_31 dX5_takesWitness_118 ?_
          obtain ⟨a23, ha23, hf⟩ := bnd hf
          replace ha23 := cha_some ha23
          obtain ⟨j24, hj24, hf⟩ := bnd hf
          obtain ⟨w25, hw25, hf⟩ := bnd hf
          replace hw25 := Option.some.inj hw25
          refine hw_iast (x := (wI w18 505 o)) hx hb hKs hH ha23.1 ha23.2 hj24 dX5_takesWitness_121 (fun H locs hH => ?_)
          rw [hw25] at hH
          refine hl_aload_n hx hb dX5_takesWitness_122 rfl (lv_at hl 1 rfl) ?_
          refine g5_1 hx hb hts hown hKs hH rfl ho m2_25 dX5_takesWitness_123 ?_
          obtain ⟨a26, ha26, hf⟩ := bnd hf
          replace ha26 := chk_some ha26
          refine gn9_8 hx hb hts hown hKs hH ha26.1 ha26.2 m1_169 dX5_takesWitness_126 ?_
          refine lv_iload_n hx hb dX5_takesWitness_129 rfl (lv_at hl 0 rfl) ?_
          refine hl_aload_n hx hb dX5_takesWitness_130 rfl (lv_at hl 1 rfl) ?_
          refine g5_6 hx hb hts hown hKs hH rfl ho m2_32 dX5_takesWitness_131 ?_
          obtain ⟨a27, ha27, hf⟩ := bnd hf
          replace ha27 := cha_some ha27
          obtain ⟨j28, hj28, hf⟩ := bnd hf
          obtain ⟨w29, hw29, hf⟩ := bnd hf
          replace hw29 := Option.some.inj hw29
          refine hw_iast (x := (wI w25 506 o)) hx hb hKs hH ha27.1 ha27.2 hj28 dX5_takesWitness_134 (fun H locs hH => ?_)
          rw [hw29] at hH
          refine lv_iconst (v := 1) hx hb dX5_takesWitness_135 (by decide) ?_
          exact hw_zret hx hb hret rfl hf hH hlocks dX5_takesWitness_136
        · replace hf := (if_pos c21).symm.trans hf
          refine hl_aload_n hx hb dX5_takesWitness_91 rfl (lv_at hl 1 rfl) ?_
          refine g5_0 hx hb hts hown hKs hH rfl ho m2_24 dX5_takesWitness_92 ?_
          obtain ⟨q30, hq30, hf⟩ := bnd hf
          refine hcV_v hx hb hml hown hts hKs hT hb0 hH (As := []) (rest := []) (k_X8_advance l E K H.size a19 w18 ha19.2 hq30) (gV m4_191 m4_148 m4_149 m1_9 m4_150) hd_X8_advance ⟨Nat.le_of_ble_eq_true rfl, Nat.le_of_ble_eq_true rfl, rfl, rfl⟩ ha19.1 ha19.2 rfl rfl rfl hl.1 rfl rc0 rfl dX5_takesWitness_95 ⟨Nat.zero_le _, Nat.zero_le _⟩ (fun H locs hH => ?_)
          refine hl_aload_n hx hb dX5_takesWitness_98 rfl (lv_at hl 1 rfl) ?_
          refine lv_bipush (v := 7) hx hb dX5_takesWitness_99 (by decide) ?_
          obtain ⟨q31, hq31, hf⟩ := bnd hf
          refine hcV_i hx hb hml hown hts hKs hT hb0 hH (As := [.int 7]) (rest := []) (k_X5_takesSpan l E K H.size o 7 q30 ho hq31) (gV m4_230 m4_232 ms_18 m1_8 m4_233) hd_X5_takesSpan ⟨Nat.le_of_ble_eq_true rfl, Nat.le_of_ble_eq_true rfl, rfl, rfl⟩ rfl ho rfl rfl rfl hl.1 rfl rc0 rfl dX5_takesWitness_101 ⟨Nat.zero_le _, Nat.zero_le _⟩ (fun H locs hH => ?_)
          refine lv_if_ne (tgt := 109) hx hb dX5_takesWitness_104 (by decide) (fun c32 => ?_) (fun c32 => ?_)
          · replace hf := (if_neg c32).symm.trans hf
            refine hl_aload_n hx hb dX5_takesWitness_109 rfl (lv_at hl 1 rfl) ?_
            refine g5_1 hx hb hts hown hKs hH rfl ho m2_25 dX5_takesWitness_110 ?_
            obtain ⟨a33, ha33, hf⟩ := bnd hf
            replace ha33 := chk_some ha33
            refine gn9_7 hx hb hts hown hKs hH ha33.1 ha33.2 m1_166 dX5_takesWitness_113 ?_
            refine lv_iload_n hx hb dX5_takesWitness_116 rfl (lv_at hl 0 rfl) ?_
            refine hl_aload_n hx hb dX5_takesWitness_117 rfl (lv_at hl 1 rfl) ?_
            refine g5_5 hx hb hts hown hKs hH rfl ho m2_31 dX5_takesWitness_118 ?_
            obtain ⟨a34, ha34, hf⟩ := bnd hf
            replace ha34 := cha_some ha34
            obtain ⟨j35, hj35, hf⟩ := bnd hf
            obtain ⟨w36, hw36, hf⟩ := bnd hf
            replace hw36 := Option.some.inj hw36
            refine hw_iast (x := (wI q31.2 505 o)) hx hb hKs hH ha34.1 ha34.2 hj35 dX5_takesWitness_121 (fun H locs hH => ?_)
            rw [hw36] at hH
            refine hl_aload_n hx hb dX5_takesWitness_122 rfl (lv_at hl 1 rfl) ?_
            refine g5_1 hx hb hts hown hKs hH rfl ho m2_25 dX5_takesWitness_123 ?_
            obtain ⟨a37, ha37, hf⟩ := bnd hf
            replace ha37 := chk_some ha37
            refine gn9_8 hx hb hts hown hKs hH ha37.1 ha37.2 m1_169 dX5_takesWitness_126 ?_
            refine lv_iload_n hx hb dX5_takesWitness_129 rfl (lv_at hl 0 rfl) ?_
            refine hl_aload_n hx hb dX5_takesWitness_130 rfl (lv_at hl 1 rfl) ?_
            refine g5_6 hx hb hts hown hKs hH rfl ho m2_32 dX5_takesWitness_131 ?_
            obtain ⟨a38, ha38, hf⟩ := bnd hf
            replace ha38 := cha_some ha38
            obtain ⟨j39, hj39, hf⟩ := bnd hf
            obtain ⟨w40, hw40, hf⟩ := bnd hf
            replace hw40 := Option.some.inj hw40
            refine hw_iast (x := (wI w36 506 o)) hx hb hKs hH ha38.1 ha38.2 hj39 dX5_takesWitness_134 (fun H locs hH => ?_)
            rw [hw40] at hH
            refine lv_iconst (v := 1) hx hb dX5_takesWitness_135 (by decide) ?_
            exact hw_zret hx hb hret rfl hf hH hlocks dX5_takesWitness_136
          · replace hf := (if_pos c32).symm.trans hf
            refine lv_iconst (v := 0) hx hb dX5_takesWitness_107 (by decide) ?_
            exact hw_zret hx hb hret rfl hf hH hlocks dX5_takesWitness_108
      · replace hf := (if_pos c6).symm.trans hf
        refine lv_iconst (v := 0) hx hb dX5_takesWitness_28 (by decide) ?_
        exact hw_zret hx hb hret rfl hf hH hlocks dX5_takesWitness_29

theorem dX5_takesCase_0 : decode cX5_takesCase 0 = .ok (.aload_n 0, 1) := by decide +kernel
theorem dX5_takesCase_1 : decode cX5_takesCase 1 = .ok (.iconst 3, 1) := by decide +kernel
theorem dX5_takesCase_2 : decode cX5_takesCase 2 = .ok (.invokevirtual 129, 3) := by decide +kernel
theorem dX5_takesCase_5 : decode cX5_takesCase 5 = .ok (.ifCond .ne 5, 3) := by decide +kernel
theorem dX5_takesCase_8 : decode cX5_takesCase 8 = .ok (.iconst 0, 1) := by decide +kernel
theorem dX5_takesCase_9 : decode cX5_takesCase 9 = .ok (.ireturn, 1) := by decide +kernel
theorem dX5_takesCase_10 : decode cX5_takesCase 10 = .ok (.aload_n 0, 1) := by decide +kernel
theorem dX5_takesCase_11 : decode cX5_takesCase 11 = .ok (.getfield 21, 3) := by decide +kernel
theorem dX5_takesCase_14 : decode cX5_takesCase 14 = .ok (.getfield 176, 3) := by decide +kernel
theorem dX5_takesCase_17 : decode cX5_takesCase 17 = .ok (.aload_n 0, 1) := by decide +kernel
theorem dX5_takesCase_18 : decode cX5_takesCase 18 = .ok (.getfield 21, 3) := by decide +kernel
theorem dX5_takesCase_21 : decode cX5_takesCase 21 = .ok (.iconst 3, 1) := by decide +kernel
theorem dX5_takesCase_22 : decode cX5_takesCase 22 = .ok (.invokevirtual 141, 3) := by decide +kernel
theorem dX5_takesCase_25 : decode cX5_takesCase 25 = .ok (.iconst 1, 1) := by decide +kernel
theorem dX5_takesCase_26 : decode cX5_takesCase 26 = .ok (.isub, 1) := by decide +kernel
theorem dX5_takesCase_27 : decode cX5_takesCase 27 = .ok (.aaload, 1) := by decide +kernel
theorem dX5_takesCase_28 : decode cX5_takesCase 28 = .ok (.astore_n 1, 1) := by decide +kernel
theorem dX5_takesCase_29 : decode cX5_takesCase 29 = .ok (.aload_n 0, 1) := by decide +kernel
theorem dX5_takesCase_30 : decode cX5_takesCase 30 = .ok (.getstatic 180, 3) := by decide +kernel
theorem dX5_takesCase_33 : decode cX5_takesCase 33 = .ok (.invokevirtual 55, 3) := by decide +kernel
theorem dX5_takesCase_36 : decode cX5_takesCase 36 = .ok (.ifCond .eq 13, 3) := by decide +kernel
theorem dX5_takesCase_39 : decode cX5_takesCase 39 = .ok (.aload_n 0, 1) := by decide +kernel
theorem dX5_takesCase_40 : decode cX5_takesCase 40 = .ok (.iconst 0, 1) := by decide +kernel
theorem dX5_takesCase_41 : decode cX5_takesCase 41 = .ok (.bipush 99, 2) := by decide +kernel
theorem dX5_takesCase_43 : decode cX5_takesCase 43 = .ok (.invokevirtual 183, 3) := by decide +kernel
theorem dX5_takesCase_46 : decode cX5_takesCase 46 = .ok (.ifCond .ne 5, 3) := by decide +kernel
theorem dX5_takesCase_49 : decode cX5_takesCase 49 = .ok (.iconst 0, 1) := by decide +kernel
theorem dX5_takesCase_50 : decode cX5_takesCase 50 = .ok (.ireturn, 1) := by decide +kernel
theorem dX5_takesCase_51 : decode cX5_takesCase 51 = .ok (.aload_n 1, 1) := by decide +kernel
theorem dX5_takesCase_52 : decode cX5_takesCase 52 = .ok (.aload_n 0, 1) := by decide +kernel
theorem dX5_takesCase_53 : decode cX5_takesCase 53 = .ok (.getfield 186, 3) := by decide +kernel
theorem dX5_takesCase_56 : decode cX5_takesCase 56 = .ok (.putfield 189, 3) := by decide +kernel
theorem dX5_takesCase_59 : decode cX5_takesCase 59 = .ok (.aload_n 0, 1) := by decide +kernel
theorem dX5_takesCase_60 : decode cX5_takesCase 60 = .ok (.getstatic 132, 3) := by decide +kernel
theorem dX5_takesCase_63 : decode cX5_takesCase 63 = .ok (.invokevirtual 55, 3) := by decide +kernel
theorem dX5_takesCase_66 : decode cX5_takesCase 66 = .ok (.ifCond .eq 12, 3) := by decide +kernel
theorem dX5_takesCase_69 : decode cX5_takesCase 69 = .ok (.aload_n 0, 1) := by decide +kernel
theorem dX5_takesCase_70 : decode cX5_takesCase 70 = .ok (.iconst 1, 1) := by decide +kernel
theorem dX5_takesCase_71 : decode cX5_takesCase 71 = .ok (.iconst 4, 1) := by decide +kernel
theorem dX5_takesCase_72 : decode cX5_takesCase 72 = .ok (.invokevirtual 183, 3) := by decide +kernel
theorem dX5_takesCase_75 : decode cX5_takesCase 75 = .ok (.ifCond .ne 5, 3) := by decide +kernel
theorem dX5_takesCase_78 : decode cX5_takesCase 78 = .ok (.iconst 0, 1) := by decide +kernel
theorem dX5_takesCase_79 : decode cX5_takesCase 79 = .ok (.ireturn, 1) := by decide +kernel
theorem dX5_takesCase_80 : decode cX5_takesCase 80 = .ok (.aload_n 1, 1) := by decide +kernel
theorem dX5_takesCase_81 : decode cX5_takesCase 81 = .ok (.aload_n 0, 1) := by decide +kernel
theorem dX5_takesCase_82 : decode cX5_takesCase 82 = .ok (.getfield 186, 3) := by decide +kernel
theorem dX5_takesCase_85 : decode cX5_takesCase 85 = .ok (.putfield 194, 3) := by decide +kernel
theorem dX5_takesCase_88 : decode cX5_takesCase 88 = .ok (.aload_n 0, 1) := by decide +kernel
theorem dX5_takesCase_89 : decode cX5_takesCase 89 = .ok (.getstatic 197, 3) := by decide +kernel
theorem dX5_takesCase_92 : decode cX5_takesCase 92 = .ok (.invokevirtual 55, 3) := by decide +kernel
theorem dX5_takesCase_95 : decode cX5_takesCase 95 = .ok (.ifCond .eq 13, 3) := by decide +kernel
theorem dX5_takesCase_98 : decode cX5_takesCase 98 = .ok (.aload_n 0, 1) := by decide +kernel
theorem dX5_takesCase_99 : decode cX5_takesCase 99 = .ok (.iconst 1, 1) := by decide +kernel
theorem dX5_takesCase_100 : decode cX5_takesCase 100 = .ok (.bipush 60, 2) := by decide +kernel
theorem dX5_takesCase_102 : decode cX5_takesCase 102 = .ok (.invokevirtual 183, 3) := by decide +kernel
theorem dX5_takesCase_105 : decode cX5_takesCase 105 = .ok (.ifCond .ne 5, 3) := by decide +kernel
theorem dX5_takesCase_108 : decode cX5_takesCase 108 = .ok (.iconst 0, 1) := by decide +kernel
theorem dX5_takesCase_109 : decode cX5_takesCase 109 = .ok (.ireturn, 1) := by decide +kernel
theorem dX5_takesCase_110 : decode cX5_takesCase 110 = .ok (.aload_n 1, 1) := by decide +kernel
theorem dX5_takesCase_111 : decode cX5_takesCase 111 = .ok (.aload_n 0, 1) := by decide +kernel
theorem dX5_takesCase_112 : decode cX5_takesCase 112 = .ok (.getfield 186, 3) := by decide +kernel
theorem dX5_takesCase_115 : decode cX5_takesCase 115 = .ok (.putfield 200, 3) := by decide +kernel
theorem dX5_takesCase_118 : decode cX5_takesCase 118 = .ok (.aload_n 0, 1) := by decide +kernel
theorem dX5_takesCase_119 : decode cX5_takesCase 119 = .ok (.getfield 12, 3) := by decide +kernel
theorem dX5_takesCase_122 : decode cX5_takesCase 122 = .ok (.getfield 39, 3) := by decide +kernel
theorem dX5_takesCase_125 : decode cX5_takesCase 125 = .ok (.getstatic 203, 3) := by decide +kernel
theorem dX5_takesCase_128 : decode cX5_takesCase 128 = .ok (.if_acmp .ne 15, 3) := by decide +kernel
theorem dX5_takesCase_131 : decode cX5_takesCase 131 = .ok (.aload_n 1, 1) := by decide +kernel
theorem dX5_takesCase_132 : decode cX5_takesCase 132 = .ok (.iconst 1, 1) := by decide +kernel
theorem dX5_takesCase_133 : decode cX5_takesCase 133 = .ok (.putfield 206, 3) := by decide +kernel
theorem dX5_takesCase_136 : decode cX5_takesCase 136 = .ok (.aload_n 0, 1) := by decide +kernel
theorem dX5_takesCase_137 : decode cX5_takesCase 137 = .ok (.getfield 12, 3) := by decide +kernel
theorem dX5_takesCase_140 : decode cX5_takesCase 140 = .ok (.invokevirtual 112, 3) := by decide +kernel
theorem dX5_takesCase_143 : decode cX5_takesCase 143 = .ok (.aload_n 0, 1) := by decide +kernel
theorem dX5_takesCase_144 : decode cX5_takesCase 144 = .ok (.aload_n 1, 1) := by decide +kernel
theorem dX5_takesCase_145 : decode cX5_takesCase 145 = .ok (.invokevirtual 210, 3) := by decide +kernel
theorem dX5_takesCase_148 : decode cX5_takesCase 148 = .ok (.ireturn, 1) := by decide +kernel
theorem hd_X5_takesCase : yX5_takesCase.cls = RX5 ∧ yX5_takesCase.cls ≠ "java/lang/invoke/MethodHandle" ∧ yX5_takesCase.cls ≠ "java/lang/invoke/VarHandle" ∧ (parseMethodDescriptor yX5_takesCase.desc).map (fun d => d.parameters.length) = some 0 := by decide +kernel
theorem hs_X5_takesCase : yX5_takesCase.cls ≠ "java/lang/invoke/MethodHandle" ∧ yX5_takesCase.cls ≠ "java/lang/invoke/VarHandle" ∧ (parseMethodDescriptor yX5_takesCase.desc).map (fun d => d.parameters.length) = some 0 := by decide +kernel
set_option maxHeartbeats 4000000 in
set_option maxRecDepth 100000 in
theorem k_X5_takesCase (l : Launch) (E : Ev) (K : Kd) (z : Nat) (o : Nat) (w : Wd) (ho : K o = some (4, 0)) {r : Bool} {w' : Wd} (hf : f_X5_takesCase K o w = some (r, w')) : Met l yX5_takesCase (Cond.code yX5_takesCase cX5_takesCase 2 (Option.some Jvm.ClassFile.FieldType.boolean) :: bt) ({ frames := 3, cells := 0, slots := 0, locals := 66 } : Room) (va_Pc [rv E (some o)] (HB E K w z)) (QI E K z w' (b2i r)) 0 0 (hA E) := by
  refine Met.ofW (cc := cX5_takesCase) (maxL := 2) (ret := (Option.some Jvm.ClassFile.FieldType.boolean)) (by decide) rfl ?_
  intro p e s m args below meth c s₁ B hml hv
  obtain ⟨rfl, hz, hP, hKs, hT, hb0⟩ := hv
  have C : CX p l e s m _ meth c cX5_takesCase 2 RX5 (Option.some Jvm.ClassFile.FieldType.boolean) E := ⟨B.exec, B.bytes, hml, findClass_of_methodNamed B.named, fun w h => atoms_spec (ws := Cond.code yX5_takesCase cX5_takesCase 2 (Option.some Jvm.ClassFile.FieldType.boolean) :: bt) B.pre w (List.mem_cons_of_mem _ h), hKs, hT, by rw [hz]; exact hb0, B.notSynchronized, B.returns⟩
  have hH : HQ E K z w s s.heap [] := ⟨hP, va_S.rf, hz⟩
  obtain ⟨hx, hb, hml, hown, hts, hKs, hT, hb0, hlocks, hret⟩ := id C
  have hl := lv_entry [rv E (some o)] (n := 2) (by simp [lg_len_nil, lg_len_i, lg_len_j, lg_len_q, lg_len_f, lg_len_d, lg_len_r])
  rw [lg_entry_eq]
  generalize (lg_sl [rv E (some o)] ++ List.replicate (2 - (lg_sl [rv E (some o)]).length) Slot.unset).toArray = ls at hl ⊢
  replace hl : lv_has ls 2 [(0, rv E (some o))] := by simpa only [lv_args, cat_q, cat_i, cat_j, reduceIte, Nat.reduceEqDiff, Nat.reduceAdd, Nat.zero_add] using hl
  generalize s.heap = H at hH ⊢
  unfold f_X5_takesCase at hf
  refine hl_aload_n hx hb dX5_takesCase_0 rfl (lv_at hl 0 rfl) ?_
  refine lv_iconst (v := 3) hx hb dX5_takesCase_1 (by decide) ?_
  obtain ⟨q1, hq1, hf⟩ := bnd hf
  refine hcV_i hx hb hml hown hts hKs hT hb0 hH (As := [.int 3]) (rest := []) (k_X5_takesNewName l E K H.size o 3 w ho hq1) (gV m4_207 m4_209 ms_16 m1_8 m4_210) hd_X5_takesNewName ⟨Nat.le_of_ble_eq_true rfl, Nat.le_of_ble_eq_true rfl, rfl, rfl⟩ rfl ho rfl rfl rfl hl.1 rfl rc0 rfl dX5_takesCase_2 ⟨Nat.zero_le _, Nat.zero_le _⟩ (fun H locs hH => ?_)
  refine lv_if_ne (tgt := 10) hx hb dX5_takesCase_5 (by decide) (fun c2 => ?_) (fun c2 => ?_)
  · replace hf := (if_neg c2).symm.trans hf
    refine hl_aload_n hx hb dX5_takesCase_10 rfl (lv_at hl 0 rfl) ?_
    refine g5_1 hx hb hts hown hKs hH rfl ho m2_25 dX5_takesCase_11 ?_
    obtain ⟨a3, ha3, hf⟩ := bnd hf
    replace ha3 := chk_some ha3
    refine gn9_9 hx hb hts hown hKs hH ha3.1 ha3.2 m1_174 dX5_takesCase_14 ?_
    refine hl_aload_n hx hb dX5_takesCase_17 rfl (lv_at hl 0 rfl) ?_
    refine g5_1 hx hb hts hown hKs hH rfl ho m2_25 dX5_takesCase_18 ?_
    refine lv_iconst (v := 3) hx hb dX5_takesCase_21 (by decide) ?_
    obtain ⟨q4, hq4, hf⟩ := bnd hf
    refine hcV_i hx hb hml hown hts hKs hT hb0 hH (As := [.int 3]) (rest := [rv E (wR q1.2 909 a3)]) (k_X9_size l E K H.size a3 3 q1.2 ha3.2 hq4) (gV m4_238 m3_22 m3_23 m1_2 m3_24) hd_X9_size ⟨Nat.le_of_ble_eq_true rfl, Nat.le_of_ble_eq_true rfl, rfl, rfl⟩ ha3.1 ha3.2 rfl rfl rfl hl.1 rfl (rcV rc0) rfl dX5_takesCase_22 ⟨Nat.zero_le _, Nat.zero_le _⟩ (fun H locs hH => ?_)
    refine lv_iconst (v := 1) hx hb dX5_takesCase_25 (by decide) ?_
    refine lv_isub hx hb dX5_takesCase_26 ?_
    obtain ⟨a5, ha5, hf⟩ := bnd hf
    replace ha5 := cha_some ha5
    obtain ⟨j6, hj6, hf⟩ := bnd hf
    refine hw_aald25 hx hb hKs hH ha5.1 ha5.2 hj6 dX5_takesCase_27 ?_
    refine hl_astore_n (i := 1) (lv' := [(1, rv E (aR q4.2 a5.1 j6)), (0, rv E (some o))]) hx hb dX5_takesCase_28 rfl hl (by decide) rfl (fun ls hl => ?_)
    refine hl_aload_n hx hb dX5_takesCase_29 rfl (lv_at hl 1 rfl) ?_
    refine hw_tok hx hb 8 (by decide) hts hown hT hH m5_20 dX5_takesCase_30 ?_
    obtain ⟨q7, hq7, hf⟩ := bnd hf
    refine hcV_i hx hb hml hown hts hKs hT hb0 hH (As := [re E (some 8)]) (rest := []) (k_X5_takes l E K H.size o (some 8) q4.2 ho hq7) (gV m4_226 m4_228 ms_17 m1_8 m4_229) hd_X5_takes ⟨Nat.le_of_ble_eq_true rfl, Nat.le_of_ble_eq_true rfl, rfl, rfl⟩ rfl ho rfl rfl rfl hl.1 rfl rc0 rfl dX5_takesCase_33 ⟨Nat.zero_le _, Nat.zero_le _⟩ (fun H locs hH => ?_)
    refine lv_if_eq (tgt := 49) hx hb dX5_takesCase_36 (by decide) (fun c8 => ?_) (fun c8 => ?_)
    · replace hf := (if_pos c8).symm.trans hf
      refine lv_iconst (v := 0) hx hb dX5_takesCase_49 (by decide) ?_
      exact hw_zret hx hb hret rfl hf hH hlocks dX5_takesCase_50
    · replace hf := (if_neg c8).symm.trans hf
      refine hl_aload_n hx hb dX5_takesCase_39 rfl (lv_at hl 1 rfl) ?_
      refine lv_iconst (v := 0) hx hb dX5_takesCase_40 (by decide) ?_
      refine lv_bipush (v := 99) hx hb dX5_takesCase_41 (by decide) ?_
      obtain ⟨q9, hq9, hf⟩ := bnd hf
      refine hcV_i hx hb hml hown hts hKs hT hb0 hH (As := [.int 0, .int 99]) (rest := []) (k_X5_takesNumber l E K H.size o 0 99 q7.2 ho hq9) (gV m4_234 m4_236 ms_19 m1_8 m4_237) hd_X5_takesNumber ⟨Nat.le_of_ble_eq_true rfl, Nat.le_of_ble_eq_true rfl, rfl, rfl⟩ rfl ho rfl rfl rfl hl.1 rfl rc0 rfl dX5_takesCase_43 ⟨Nat.zero_le _, Nat.zero_le _⟩ (fun H locs hH => ?_)
      refine lv_if_ne (tgt := 51) hx hb dX5_takesCase_46 (by decide) (fun c10 => ?_) (fun c10 => ?_)
      · replace hf := (if_neg c10).symm.trans hf
        refine hl_aload_n hx hb dX5_takesCase_51 rfl (lv_at hl 0 rfl) ?_
        refine hl_aload_n hx hb dX5_takesCase_52 rfl (lv_at hl 1 rfl) ?_
        refine g5_4 hx hb hts hown hKs hH rfl ho m2_30 dX5_takesCase_53 ?_
        obtain ⟨a11, ha11, hf⟩ := bnd hf
        replace ha11 := chk_some ha11
        obtain ⟨w12, hw12, hf⟩ := bnd hf
        replace hw12 := Option.some.inj hw12
        refine pn3_0 (v := (wI q9.2 504 o)) hx hb hts hown hKs hH ha11.1 ha11.2 m1_93 dX5_takesCase_56 (fun H locs hH => ?_)
        rw [hw12] at hH
        refine hl_aload_n hx hb dX5_takesCase_59 rfl (lv_at hl 1 rfl) ?_
        refine hw_tok hx hb 2 (by decide) hts hown hT hH m4_224 dX5_takesCase_60 ?_
        obtain ⟨q13, hq13, hf⟩ := bnd hf
        refine hcV_i hx hb hml hown hts hKs hT hb0 hH (As := [re E (some 2)]) (rest := []) (k_X5_takes l E K H.size o (some 2) w12 ho hq13) (gV m4_226 m4_228 ms_17 m1_8 m4_229) hd_X5_takes ⟨Nat.le_of_ble_eq_true rfl, Nat.le_of_ble_eq_true rfl, rfl, rfl⟩ rfl ho rfl rfl rfl hl.1 rfl rc0 rfl dX5_takesCase_63 ⟨Nat.zero_le _, Nat.zero_le _⟩ (fun H locs hH => ?_)
        refine lv_if_eq (tgt := 78) hx hb dX5_takesCase_66 (by decide) (fun c14 => ?_) (fun c14 => ?_)
        · replace hf := (if_pos c14).symm.trans hf
          refine lv_iconst (v := 0) hx hb dX5_takesCase_78 (by decide) ?_
          exact hw_zret hx hb hret rfl hf hH hlocks dX5_takesCase_79
        · replace hf := (if_neg c14).symm.trans hf
          refine hl_aload_n hx hb dX5_takesCase_69 rfl (lv_at hl 1 rfl) ?_
          refine lv_iconst (v := 1) hx hb dX5_takesCase_70 (by decide) ?_
          refine lv_iconst (v := 4) hx hb dX5_takesCase_71 (by decide) ?_
          obtain ⟨q15, hq15, hf⟩ := bnd hf
          refine hcV_i hx hb hml hown hts hKs hT hb0 hH (As := [.int 1, .int 4]) (rest := []) (k_X5_takesNumber l E K H.size o 1 4 q13.2 ho hq15) (gV m4_234 m4_236 ms_19 m1_8 m4_237) hd_X5_takesNumber ⟨Nat.le_of_ble_eq_true rfl, Nat.le_of_ble_eq_true rfl, rfl, rfl⟩ rfl ho rfl rfl rfl hl.1 rfl rc0 rfl dX5_takesCase_72 ⟨Nat.zero_le _, Nat.zero_le _⟩ (fun H locs hH => ?_)
          refine lv_if_ne (tgt := 80) hx hb dX5_takesCase_75 (by decide) (fun c16 => ?_) (fun c16 => ?_)
          · replace hf := (if_neg c16).symm.trans hf
            refine hl_aload_n hx hb dX5_takesCase_80 rfl (lv_at hl 0 rfl) ?_
            refine hl_aload_n hx hb dX5_takesCase_81 rfl (lv_at hl 1 rfl) ?_
            refine g5_4 hx hb hts hown hKs hH rfl ho m2_30 dX5_takesCase_82 ?_
            obtain ⟨w17, hw17, hf⟩ := bnd hf
            replace hw17 := Option.some.inj hw17
            refine pn3_1 (v := (wI q15.2 504 o)) hx hb hts hown hKs hH ha11.1 ha11.2 m1_97 dX5_takesCase_85 (fun H locs hH => ?_)
            rw [hw17] at hH
            refine hl_aload_n hx hb dX5_takesCase_88 rfl (lv_at hl 1 rfl) ?_
            refine hw_tok hx hb 9 (by decide) hts hown hT hH m5_22 dX5_takesCase_89 ?_
            obtain ⟨q18, hq18, hf⟩ := bnd hf
            refine hcV_i hx hb hml hown hts hKs hT hb0 hH (As := [re E (some 9)]) (rest := []) (k_X5_takes l E K H.size o (some 9) w17 ho hq18) (gV m4_226 m4_228 ms_17 m1_8 m4_229) hd_X5_takes ⟨Nat.le_of_ble_eq_true rfl, Nat.le_of_ble_eq_true rfl, rfl, rfl⟩ rfl ho rfl rfl rfl hl.1 rfl rc0 rfl dX5_takesCase_92 ⟨Nat.zero_le _, Nat.zero_le _⟩ (fun H locs hH => ?_)
            refine lv_if_eq (tgt := 108) hx hb dX5_takesCase_95 (by decide) (fun c19 => ?_) (fun c19 => ?_)
            · replace hf := (if_pos c19).symm.trans hf
              refine lv_iconst (v := 0) hx hb dX5_takesCase_108 (by decide) ?_
              exact hw_zret hx hb hret rfl hf hH hlocks dX5_takesCase_109
            · replace hf := (if_neg c19).symm.trans hf
              refine hl_aload_n hx hb dX5_takesCase_98 rfl (lv_at hl 1 rfl) ?_
              refine lv_iconst (v := 1) hx hb dX5_takesCase_99 (by decide) ?_
              refine lv_bipush (v := 60) hx hb dX5_takesCase_100 (by decide) ?_
              obtain ⟨q20, hq20, hf⟩ := bnd hf
              refine hcV_i hx hb hml hown hts hKs hT hb0 hH (As := [.int 1, .int 60]) (rest := []) (k_X5_takesNumber l E K H.size o 1 60 q18.2 ho hq20) (gV m4_234 m4_236 ms_19 m1_8 m4_237) hd_X5_takesNumber ⟨Nat.le_of_ble_eq_true rfl, Nat.le_of_ble_eq_true rfl, rfl, rfl⟩ rfl ho rfl rfl rfl hl.1 rfl rc0 rfl dX5_takesCase_102 ⟨Nat.zero_le _, Nat.zero_le _⟩ (fun H locs hH => ?_)
              refine lv_if_ne (tgt := 110) hx hb dX5_takesCase_105 (by decide) (fun c21 => ?_) (fun c21 => ?_)
              · replace hf := (if_neg c21).symm.trans hf
                refine hl_aload_n hx hb dX5_takesCase_110 rfl (lv_at hl 0 rfl) ?_
                refine hl_aload_n hx hb dX5_takesCase_111 rfl (lv_at hl 1 rfl) ?_
                refine g5_4 hx hb hts hown hKs hH rfl ho m2_30 dX5_takesCase_112 ?_
                obtain ⟨w22, hw22, hf⟩ := bnd hf
                replace hw22 := Option.some.inj hw22
                refine pn3_2 (v := (wI q20.2 504 o)) hx hb hts hown hKs hH ha11.1 ha11.2 m1_102 dX5_takesCase_115 (fun H locs hH => ?_)
                rw [hw22] at hH
                refine hl_aload_n hx hb dX5_takesCase_118 rfl (lv_at hl 1 rfl) ?_
                refine g5_0 hx hb hts hown hKs hH rfl ho m2_24 dX5_takesCase_119 ?_
                obtain ⟨a23, ha23, hf⟩ := bnd hf
                replace ha23 := chk_some ha23
                refine gn8_4 hx hb hts hown hKs hH ha23.1 ha23.2 m2_1 dX5_takesCase_122 ?_
                refine hw_tok hx hb 10 (by decide) hts hown hT hH m5_24 dX5_takesCase_125 ?_
                obtain ⟨_, hg24, hf⟩ := bnd hf
                refine hw_acmp_ne (tgt := 143) hx hb hT (grd_some hg24) rfl dX5_takesCase_128 (by decide) (fun c25 => ?_) (fun c25 => ?_)
                · replace hf := (if_neg c25).symm.trans hf
                  refine hl_aload_n hx hb dX5_takesCase_143 rfl (lv_at hl 1 rfl) ?_
                  refine hl_aload_n hx hb dX5_takesCase_144 rfl (lv_at hl 0 rfl) ?_
                  obtain ⟨q26, hq26, hf⟩ := bnd hf
                  refine hcV_i hx hb hml hown hts hKs hT hb0 hH (As := [rv E (aR q4.2 a5.1 j6)]) (rest := []) (k_X5_takesNeeds l E K H.size o (aR q4.2 a5.1 j6) w22 ho hq26) (gV m5_26 m5_28 ms_23 m1_8 m5_29) hd_X5_takesNeeds ⟨Nat.le_of_ble_eq_true rfl, Nat.le_of_ble_eq_true rfl, rfl, rfl⟩ rfl ho rfl rfl rfl hl.1 rfl rc0 rfl dX5_takesCase_145 ⟨Nat.zero_le _, Nat.zero_le _⟩ (fun H locs hH => ?_)
                  exact hw_zret hx hb hret rfl hf hH hlocks dX5_takesCase_148
                · replace hf := (if_pos c25).symm.trans hf
                  refine hl_aload_n hx hb dX5_takesCase_131 rfl (lv_at hl 0 rfl) ?_
                  refine lv_iconst (v := 1) hx hb dX5_takesCase_132 (by decide) ?_
                  obtain ⟨w27, hw27, hf⟩ := bnd hf
                  replace hw27 := Option.some.inj hw27
                  refine pn3_3 (v := true) hx hb hts hown hKs hH ha11.1 ha11.2 m1_105 dX5_takesCase_133 (fun H locs hH => ?_)
                  rw [hw27] at hH
                  refine hl_aload_n hx hb dX5_takesCase_136 rfl (lv_at hl 1 rfl) ?_
                  refine g5_0 hx hb hts hown hKs hH rfl ho m2_24 dX5_takesCase_137 ?_
                  obtain ⟨a28, ha28, hf⟩ := bnd hf
                  replace ha28 := chk_some ha28
                  obtain ⟨q29, hq29, hf⟩ := bnd hf
                  refine hcV_v hx hb hml hown hts hKs hT hb0 hH (As := []) (rest := []) (k_X8_advance l E K H.size a28 w27 ha28.2 hq29) (gV m4_191 m4_148 m4_149 m1_9 m4_150) hd_X8_advance ⟨Nat.le_of_ble_eq_true rfl, Nat.le_of_ble_eq_true rfl, rfl, rfl⟩ ha28.1 ha28.2 rfl rfl rfl hl.1 rfl rc0 rfl dX5_takesCase_140 ⟨Nat.zero_le _, Nat.zero_le _⟩ (fun H locs hH => ?_)
                  refine hl_aload_n hx hb dX5_takesCase_143 rfl (lv_at hl 1 rfl) ?_
                  refine hl_aload_n hx hb dX5_takesCase_144 rfl (lv_at hl 0 rfl) ?_
                  obtain ⟨q30, hq30, hf⟩ := bnd hf
                  refine hcV_i hx hb hml hown hts hKs hT hb0 hH (As := [rv E (aR q4.2 a5.1 j6)]) (rest := []) (k_X5_takesNeeds l E K H.size o (aR q4.2 a5.1 j6) q29 ho hq30) (gV m5_26 m5_28 ms_23 m1_8 m5_29) hd_X5_takesNeeds ⟨Nat.le_of_ble_eq_true rfl, Nat.le_of_ble_eq_true rfl, rfl, rfl⟩ rfl ho rfl rfl rfl hl.1 rfl rc0 rfl dX5_takesCase_145 ⟨Nat.zero_le _, Nat.zero_le _⟩ (fun H locs hH => ?_)
                  exact hw_zret hx hb hret rfl hf hH hlocks dX5_takesCase_148
              · replace hf := (if_pos c21).symm.trans hf
                refine lv_iconst (v := 0) hx hb dX5_takesCase_108 (by decide) ?_
                exact hw_zret hx hb hret rfl hf hH hlocks dX5_takesCase_109
          · replace hf := (if_pos c16).symm.trans hf
            refine lv_iconst (v := 0) hx hb dX5_takesCase_78 (by decide) ?_
            exact hw_zret hx hb hret rfl hf hH hlocks dX5_takesCase_79
      · replace hf := (if_pos c10).symm.trans hf
        refine lv_iconst (v := 0) hx hb dX5_takesCase_49 (by decide) ?_
        exact hw_zret hx hb hret rfl hf hH hlocks dX5_takesCase_50
  · replace hf := (if_pos c2).symm.trans hf
    refine lv_iconst (v := 0) hx hb dX5_takesCase_8 (by decide) ?_
    exact hw_zret hx hb hret rfl hf hH hlocks dX5_takesCase_9

theorem dX5_takesLengthen_0 : decode cX5_takesLengthen 0 = .ok (.aload_n 0, 1) := by decide +kernel
theorem dX5_takesLengthen_1 : decode cX5_takesLengthen 1 = .ok (.getfield 12, 3) := by decide +kernel
theorem dX5_takesLengthen_4 : decode cX5_takesLengthen 4 = .ok (.invokevirtual 112, 3) := by decide +kernel
theorem dX5_takesLengthen_7 : decode cX5_takesLengthen 7 = .ok (.aload_n 0, 1) := by decide +kernel
theorem dX5_takesLengthen_8 : decode cX5_takesLengthen 8 = .ok (.iconst 0, 1) := by decide +kernel
theorem dX5_takesLengthen_9 : decode cX5_takesLengthen 9 = .ok (.iconst 3, 1) := by decide +kernel
theorem dX5_takesLengthen_10 : decode cX5_takesLengthen 10 = .ok (.invokevirtual 115, 3) := by decide +kernel
theorem dX5_takesLengthen_13 : decode cX5_takesLengthen 13 = .ok (.ifCond .ne 5, 3) := by decide +kernel
theorem dX5_takesLengthen_16 : decode cX5_takesLengthen 16 = .ok (.iconst 0, 1) := by decide +kernel
theorem dX5_takesLengthen_17 : decode cX5_takesLengthen 17 = .ok (.ireturn, 1) := by decide +kernel
theorem dX5_takesLengthen_18 : decode cX5_takesLengthen 18 = .ok (.aload_n 0, 1) := by decide +kernel
theorem dX5_takesLengthen_19 : decode cX5_takesLengthen 19 = .ok (.getfield 12, 3) := by decide +kernel
theorem dX5_takesLengthen_22 : decode cX5_takesLengthen 22 = .ok (.getfield 119, 3) := by decide +kernel
theorem dX5_takesLengthen_25 : decode cX5_takesLengthen 25 = .ok (.istore_n 1, 1) := by decide +kernel
theorem dX5_takesLengthen_26 : decode cX5_takesLengthen 26 = .ok (.aload_n 0, 1) := by decide +kernel
theorem dX5_takesLengthen_27 : decode cX5_takesLengthen 27 = .ok (.getfield 21, 3) := by decide +kernel
theorem dX5_takesLengthen_30 : decode cX5_takesLengthen 30 = .ok (.getfield 232, 3) := by decide +kernel
theorem dX5_takesLengthen_33 : decode cX5_takesLengthen 33 = .ok (.iload_n 1, 1) := by decide +kernel
theorem dX5_takesLengthen_34 : decode cX5_takesLengthen 34 = .ok (.invokestatic 223, 3) := by decide +kernel
theorem dX5_takesLengthen_37 : decode cX5_takesLengthen 37 = .ok (.ifCond .eq 9, 3) := by decide +kernel
theorem dX5_takesLengthen_40 : decode cX5_takesLengthen 40 = .ok (.aload_n 0, 1) := by decide +kernel
theorem dX5_takesLengthen_41 : decode cX5_takesLengthen 41 = .ok (.iconst 3, 1) := by decide +kernel
theorem dX5_takesLengthen_42 : decode cX5_takesLengthen 42 = .ok (.invokevirtual 99, 3) := by decide +kernel
theorem dX5_takesLengthen_45 : decode cX5_takesLengthen 45 = .ok (.ireturn, 1) := by decide +kernel
theorem dX5_takesLengthen_46 : decode cX5_takesLengthen 46 = .ok (.aload_n 0, 1) := by decide +kernel
theorem dX5_takesLengthen_47 : decode cX5_takesLengthen 47 = .ok (.getfield 21, 3) := by decide +kernel
theorem dX5_takesLengthen_50 : decode cX5_takesLengthen 50 = .ok (.dup, 1) := by decide +kernel
theorem dX5_takesLengthen_51 : decode cX5_takesLengthen 51 = .ok (.getfield 232, 3) := by decide +kernel
theorem dX5_takesLengthen_54 : decode cX5_takesLengthen 54 = .ok (.iconst 1, 1) := by decide +kernel
theorem dX5_takesLengthen_55 : decode cX5_takesLengthen 55 = .ok (.iload_n 1, 1) := by decide +kernel
theorem dX5_takesLengthen_56 : decode cX5_takesLengthen 56 = .ok (.ishl, 1) := by decide +kernel
theorem dX5_takesLengthen_57 : decode cX5_takesLengthen 57 = .ok (.ior, 1) := by decide +kernel
theorem dX5_takesLengthen_58 : decode cX5_takesLengthen 58 = .ok (.putfield 232, 3) := by decide +kernel
theorem dX5_takesLengthen_61 : decode cX5_takesLengthen 61 = .ok (.aload_n 0, 1) := by decide +kernel
theorem dX5_takesLengthen_62 : decode cX5_takesLengthen 62 = .ok (.getfield 12, 3) := by decide +kernel
theorem dX5_takesLengthen_65 : decode cX5_takesLengthen 65 = .ok (.invokevirtual 112, 3) := by decide +kernel
theorem dX5_takesLengthen_68 : decode cX5_takesLengthen 68 = .ok (.aload_n 0, 1) := by decide +kernel
theorem dX5_takesLengthen_69 : decode cX5_takesLengthen 69 = .ok (.iconst 0, 1) := by decide +kernel
theorem dX5_takesLengthen_70 : decode cX5_takesLengthen 70 = .ok (.bipush 30, 2) := by decide +kernel
theorem dX5_takesLengthen_72 : decode cX5_takesLengthen 72 = .ok (.invokevirtual 183, 3) := by decide +kernel
theorem dX5_takesLengthen_75 : decode cX5_takesLengthen 75 = .ok (.ifCond .ne 5, 3) := by decide +kernel
theorem dX5_takesLengthen_78 : decode cX5_takesLengthen 78 = .ok (.iconst 0, 1) := by decide +kernel
theorem dX5_takesLengthen_79 : decode cX5_takesLengthen 79 = .ok (.ireturn, 1) := by decide +kernel
theorem dX5_takesLengthen_80 : decode cX5_takesLengthen 80 = .ok (.aload_n 0, 1) := by decide +kernel
theorem dX5_takesLengthen_81 : decode cX5_takesLengthen 81 = .ok (.getfield 21, 3) := by decide +kernel
theorem dX5_takesLengthen_84 : decode cX5_takesLengthen 84 = .ok (.getfield 235, 3) := by decide +kernel
theorem dX5_takesLengthen_87 : decode cX5_takesLengthen 87 = .ok (.iload_n 1, 1) := by decide +kernel
theorem dX5_takesLengthen_88 : decode cX5_takesLengthen 88 = .ok (.aload_n 0, 1) := by decide +kernel
theorem dX5_takesLengthen_89 : decode cX5_takesLengthen 89 = .ok (.getfield 186, 3) := by decide +kernel
theorem dX5_takesLengthen_92 : decode cX5_takesLengthen 92 = .ok (.iastore, 1) := by decide +kernel
theorem dX5_takesLengthen_93 : decode cX5_takesLengthen 93 = .ok (.iconst 1, 1) := by decide +kernel
theorem dX5_takesLengthen_94 : decode cX5_takesLengthen 94 = .ok (.ireturn, 1) := by decide +kernel
theorem hd_X5_takesLengthen : yX5_takesLengthen.cls = RX5 ∧ yX5_takesLengthen.cls ≠ "java/lang/invoke/MethodHandle" ∧ yX5_takesLengthen.cls ≠ "java/lang/invoke/VarHandle" ∧ (parseMethodDescriptor yX5_takesLengthen.desc).map (fun d => d.parameters.length) = some 0 := by decide +kernel
theorem hs_X5_takesLengthen : yX5_takesLengthen.cls ≠ "java/lang/invoke/MethodHandle" ∧ yX5_takesLengthen.cls ≠ "java/lang/invoke/VarHandle" ∧ (parseMethodDescriptor yX5_takesLengthen.desc).map (fun d => d.parameters.length) = some 0 := by decide +kernel
set_option maxHeartbeats 4000000 in
set_option maxRecDepth 100000 in
theorem k_X5_takesLengthen (l : Launch) (E : Ev) (K : Kd) (z : Nat) (o : Nat) (w : Wd) (ho : K o = some (4, 0)) {r : Bool} {w' : Wd} (hf : f_X5_takesLengthen K o w = some (r, w')) : Met l yX5_takesLengthen (Cond.code yX5_takesLengthen cX5_takesLengthen 2 (Option.some Jvm.ClassFile.FieldType.boolean) :: bt) ({ frames := 3, cells := 0, slots := 0, locals := 65 } : Room) (va_Pc [rv E (some o)] (HB E K w z)) (QI E K z w' (b2i r)) 0 0 (hA E) := by
  refine Met.ofW (cc := cX5_takesLengthen) (maxL := 2) (ret := (Option.some Jvm.ClassFile.FieldType.boolean)) (by decide) rfl ?_
  intro p e s m args below meth c s₁ B hml hv
  obtain ⟨rfl, hz, hP, hKs, hT, hb0⟩ := hv
  have C : CX p l e s m _ meth c cX5_takesLengthen 2 RX5 (Option.some Jvm.ClassFile.FieldType.boolean) E := ⟨B.exec, B.bytes, hml, findClass_of_methodNamed B.named, fun w h => atoms_spec (ws := Cond.code yX5_takesLengthen cX5_takesLengthen 2 (Option.some Jvm.ClassFile.FieldType.boolean) :: bt) B.pre w (List.mem_cons_of_mem _ h), hKs, hT, by rw [hz]; exact hb0, B.notSynchronized, B.returns⟩
  have hH : HQ E K z w s s.heap [] := ⟨hP, va_S.rf, hz⟩
  obtain ⟨hx, hb, hml, hown, hts, hKs, hT, hb0, hlocks, hret⟩ := id C
  have hl := lv_entry [rv E (some o)] (n := 2) (by simp [lg_len_nil, lg_len_i, lg_len_j, lg_len_q, lg_len_f, lg_len_d, lg_len_r])
  rw [lg_entry_eq]
  generalize (lg_sl [rv E (some o)] ++ List.replicate (2 - (lg_sl [rv E (some o)]).length) Slot.unset).toArray = ls at hl ⊢
  replace hl : lv_has ls 2 [(0, rv E (some o))] := by simpa only [lv_args, cat_q, cat_i, cat_j, reduceIte, Nat.reduceEqDiff, Nat.reduceAdd, Nat.zero_add] using hl
  generalize s.heap = H at hH ⊢
  unfold f_X5_takesLengthen at hf
  refine hl_aload_n hx hb dX5_takesLengthen_0 rfl (lv_at hl 0 rfl) ?_
  refine g5_0 hx hb hts hown hKs hH rfl ho m2_24 dX5_takesLengthen_1 ?_
  obtain ⟨a1, ha1, hf⟩ := bnd hf
  replace ha1 := chk_some ha1
  obtain ⟨q2, hq2, hf⟩ := bnd hf
  refine hcV_v hx hb hml hown hts hKs hT hb0 hH (As := []) (rest := []) (k_X8_advance l E K H.size a1 w ha1.2 hq2) (gV m4_191 m4_148 m4_149 m1_9 m4_150) hd_X8_advance ⟨Nat.le_of_ble_eq_true rfl, Nat.le_of_ble_eq_true rfl, rfl, rfl⟩ ha1.1 ha1.2 rfl rfl rfl hl.1 rfl rc0 rfl dX5_takesLengthen_4 ⟨Nat.zero_le _, Nat.zero_le _⟩ (fun H locs hH => ?_)
  refine hl_aload_n hx hb dX5_takesLengthen_7 rfl (lv_at hl 0 rfl) ?_
  refine lv_iconst (v := 0) hx hb dX5_takesLengthen_8 (by decide) ?_
  refine lv_iconst (v := 3) hx hb dX5_takesLengthen_9 (by decide) ?_
  obtain ⟨q3, hq3, hf⟩ := bnd hf
  refine hcV_i hx hb hml hown hts hKs hT hb0 hH (As := [.int 0, .int 3]) (rest := []) (k_X5_seesNumber l E K H.size o 0 3 q2 ho hq3) (gV m4_192 m4_194 ms_14 m1_8 m4_195) hd_X5_seesNumber ⟨Nat.le_of_ble_eq_true rfl, Nat.le_of_ble_eq_true rfl, rfl, rfl⟩ rfl ho rfl rfl rfl hl.1 rfl rc0 rfl dX5_takesLengthen_10 ⟨Nat.zero_le _, Nat.zero_le _⟩ (fun H locs hH => ?_)
  refine lv_if_ne (tgt := 18) hx hb dX5_takesLengthen_13 (by decide) (fun c4 => ?_) (fun c4 => ?_)
  · replace hf := (if_neg c4).symm.trans hf
    refine hl_aload_n hx hb dX5_takesLengthen_18 rfl (lv_at hl 0 rfl) ?_
    refine g5_0 hx hb hts hown hKs hH rfl ho m2_24 dX5_takesLengthen_19 ?_
    obtain ⟨a5, ha5, hf⟩ := bnd hf
    replace ha5 := chk_some ha5
    refine gn8_6 hx hb hts hown hKs hH ha5.1 ha5.2 m2_5 dX5_takesLengthen_22 ?_
    refine lv_istore_n (i := 1) (lv' := [(1, .int ((wI q3.2 806 a5))), (0, rv E (some o))]) hx hb dX5_takesLengthen_25 rfl hl (by decide) rfl (fun ls hl => ?_)
    refine hl_aload_n hx hb dX5_takesLengthen_26 rfl (lv_at hl 1 rfl) ?_
    refine g5_1 hx hb hts hown hKs hH rfl ho m2_25 dX5_takesLengthen_27 ?_
    obtain ⟨a6, ha6, hf⟩ := bnd hf
    replace ha6 := chk_some ha6
    refine gn9_12 hx hb hts hown hKs hH ha6.1 ha6.2 m1_183 dX5_takesLengthen_30 ?_
    refine lv_iload_n hx hb dX5_takesLengthen_33 rfl (lv_at hl 0 rfl) ?_
    obtain ⟨q7, hq7, hf⟩ := bnd hf
    refine hcM_i hx hb hml hown hts hKs hT hb0 hH (As := [.int ((wI q3.2 912 a6)), .int ((wI q3.2 806 a5))]) (rest := []) (k_X12_has l E K H.size (wI q3.2 912 a6) (wI q3.2 806 a5) q3.2 hq7) m5_36 m3_188 m1_1 m3_189 hs_X12_has ⟨Nat.le_of_ble_eq_true rfl, Nat.le_of_ble_eq_true rfl, rfl, rfl⟩ hl.1 rfl rc0 rfl dX5_takesLengthen_34 ⟨Nat.zero_le _, Nat.zero_le _⟩ (fun H locs hH => ?_)
    refine lv_if_eq (tgt := 46) hx hb dX5_takesLengthen_37 (by decide) (fun c8 => ?_) (fun c8 => ?_)
    · replace hf := (if_pos c8).symm.trans hf
      refine hl_aload_n hx hb dX5_takesLengthen_46 rfl (lv_at hl 1 rfl) ?_
      refine g5_1 hx hb hts hown hKs hH rfl ho m2_25 dX5_takesLengthen_47 ?_
      refine lv_dup hx hb dX5_takesLengthen_50 rv_cat ?_
      obtain ⟨a9, ha9, hf⟩ := bnd hf
      replace ha9 := chk_some ha9
      refine gn9_12 hx hb hts hown hKs hH ha9.1 ha9.2 m1_183 dX5_takesLengthen_51 ?_
      refine lv_iconst (v := 1) hx hb dX5_takesLengthen_54 (by decide) ?_
      refine lv_iload_n hx hb dX5_takesLengthen_55 rfl (lv_at hl 0 rfl) ?_
      refine lv_ishl hx hb dX5_takesLengthen_56 ?_
      refine lv_ior hx hb dX5_takesLengthen_57 ?_
      obtain ⟨w10, hw10, hf⟩ := bnd hf
      replace hw10 := Option.some.inj hw10
      refine pn9_12 (v := ((wI q7.2 912 a9) ||| (1 <<< ((wI q3.2 806 a5) &&& 31)))) hx hb hts hown hKs hH ha9.1 ha9.2 m1_183 dX5_takesLengthen_58 (fun H locs hH => ?_)
      rw [hw10] at hH
      refine hl_aload_n hx hb dX5_takesLengthen_61 rfl (lv_at hl 1 rfl) ?_
      refine g5_0 hx hb hts hown hKs hH rfl ho m2_24 dX5_takesLengthen_62 ?_
      obtain ⟨a11, ha11, hf⟩ := bnd hf
      replace ha11 := chk_some ha11
      obtain ⟨q12, hq12, hf⟩ := bnd hf
      refine hcV_v hx hb hml hown hts hKs hT hb0 hH (As := []) (rest := []) (k_X8_advance l E K H.size a11 w10 ha11.2 hq12) (gV m4_191 m4_148 m4_149 m1_9 m4_150) hd_X8_advance ⟨Nat.le_of_ble_eq_true rfl, Nat.le_of_ble_eq_true rfl, rfl, rfl⟩ ha11.1 ha11.2 rfl rfl rfl hl.1 rfl rc0 rfl dX5_takesLengthen_65 ⟨Nat.zero_le _, Nat.zero_le _⟩ (fun H locs hH => ?_)
      refine hl_aload_n hx hb dX5_takesLengthen_68 rfl (lv_at hl 1 rfl) ?_
      refine lv_iconst (v := 0) hx hb dX5_takesLengthen_69 (by decide) ?_
      refine lv_bipush (v := 30) hx hb dX5_takesLengthen_70 (by decide) ?_
      obtain ⟨q13, hq13, hf⟩ := bnd hf
      refine hcV_i hx hb hml hown hts hKs hT hb0 hH (As := [.int 0, .int 30]) (rest := []) (k_X5_takesNumber l E K H.size o 0 30 q12 ho hq13) (gV m4_234 m4_236 ms_19 m1_8 m4_237) hd_X5_takesNumber ⟨Nat.le_of_ble_eq_true rfl, Nat.le_of_ble_eq_true rfl, rfl, rfl⟩ rfl ho rfl rfl rfl hl.1 rfl rc0 rfl dX5_takesLengthen_72 ⟨Nat.zero_le _, Nat.zero_le _⟩ (fun H locs hH => ?_)
      refine lv_if_ne (tgt := 80) hx hb dX5_takesLengthen_75 (by decide) (fun c14 => ?_) (fun c14 => ?_)
      · replace hf := (if_neg c14).symm.trans hf
        refine hl_aload_n hx hb dX5_takesLengthen_80 rfl (lv_at hl 1 rfl) ?_
        refine g5_1 hx hb hts hown hKs hH rfl ho m2_25 dX5_takesLengthen_81 ?_
        obtain ⟨a15, ha15, hf⟩ := bnd hf
        replace ha15 := chk_some ha15
        refine gn9_11 hx hb hts hown hKs hH ha15.1 ha15.2 m1_180 dX5_takesLengthen_84 ?_
        refine lv_iload_n hx hb dX5_takesLengthen_87 rfl (lv_at hl 0 rfl) ?_
        refine hl_aload_n hx hb dX5_takesLengthen_88 rfl (lv_at hl 1 rfl) ?_
        refine g5_4 hx hb hts hown hKs hH rfl ho m2_30 dX5_takesLengthen_89 ?_
        obtain ⟨a16, ha16, hf⟩ := bnd hf
        replace ha16 := cha_some ha16
        obtain ⟨j17, hj17, hf⟩ := bnd hf
        obtain ⟨w18, hw18, hf⟩ := bnd hf
        replace hw18 := Option.some.inj hw18
        refine hw_iast (x := (wI q13.2 504 o)) hx hb hKs hH ha16.1 ha16.2 hj17 dX5_takesLengthen_92 (fun H locs hH => ?_)
        rw [hw18] at hH
        refine lv_iconst (v := 1) hx hb dX5_takesLengthen_93 (by decide) ?_
        exact hw_zret hx hb hret rfl hf hH hlocks dX5_takesLengthen_94
      · replace hf := (if_pos c14).symm.trans hf
        refine lv_iconst (v := 0) hx hb dX5_takesLengthen_78 (by decide) ?_
        exact hw_zret hx hb hret rfl hf hH hlocks dX5_takesLengthen_79
    · replace hf := (if_neg c8).symm.trans hf
      refine hl_aload_n hx hb dX5_takesLengthen_40 rfl (lv_at hl 1 rfl) ?_
      refine lv_iconst (v := 3) hx hb dX5_takesLengthen_41 (by decide) ?_
      obtain ⟨q19, hq19, hf⟩ := bnd hf
      refine hcV_i hx hb hml hown hts hKs hT hb0 hH (As := [.int 3]) (rest := []) (k_X5_fail l E K H.size o 3 q7.2 ho hq19) (gV m4_187 m4_189 ms_13 m1_8 m4_190) hd_X5_fail ⟨Nat.le_of_ble_eq_true rfl, Nat.le_of_ble_eq_true rfl, rfl, rfl⟩ rfl ho rfl rfl rfl hl.1 rfl rc0 rfl dX5_takesLengthen_42 ⟨Nat.zero_le _, Nat.zero_le _⟩ (fun H locs hH => ?_)
      exact hw_zret hx hb hret rfl hf hH hlocks dX5_takesLengthen_45
  · replace hf := (if_pos c4).symm.trans hf
    refine lv_iconst (v := 0) hx hb dX5_takesLengthen_16 (by decide) ?_
    exact hw_zret hx hb hret rfl hf hH hlocks dX5_takesLengthen_17

theorem dX5_takesCap_0 : decode cX5_takesCap 0 = .ok (.aload_n 0, 1) := by decide +kernel
theorem dX5_takesCap_1 : decode cX5_takesCap 1 = .ok (.getfield 21, 3) := by decide +kernel
theorem dX5_takesCap_4 : decode cX5_takesCap 4 = .ok (.getfield 238, 3) := by decide +kernel
theorem dX5_takesCap_7 : decode cX5_takesCap 7 = .ok (.ifCond .eq 9, 3) := by decide +kernel
theorem dX5_takesCap_10 : decode cX5_takesCap 10 = .ok (.aload_n 0, 1) := by decide +kernel
theorem dX5_takesCap_11 : decode cX5_takesCap 11 = .ok (.iconst 3, 1) := by decide +kernel
theorem dX5_takesCap_12 : decode cX5_takesCap 12 = .ok (.invokevirtual 99, 3) := by decide +kernel
theorem dX5_takesCap_15 : decode cX5_takesCap 15 = .ok (.ireturn, 1) := by decide +kernel
theorem dX5_takesCap_16 : decode cX5_takesCap 16 = .ok (.aload_n 0, 1) := by decide +kernel
theorem dX5_takesCap_17 : decode cX5_takesCap 17 = .ok (.getfield 21, 3) := by decide +kernel
theorem dX5_takesCap_20 : decode cX5_takesCap 20 = .ok (.iconst 1, 1) := by decide +kernel
theorem dX5_takesCap_21 : decode cX5_takesCap 21 = .ok (.putfield 238, 3) := by decide +kernel
theorem dX5_takesCap_24 : decode cX5_takesCap 24 = .ok (.aload_n 0, 1) := by decide +kernel
theorem dX5_takesCap_25 : decode cX5_takesCap 25 = .ok (.getfield 12, 3) := by decide +kernel
theorem dX5_takesCap_28 : decode cX5_takesCap 28 = .ok (.invokevirtual 112, 3) := by decide +kernel
theorem dX5_takesCap_31 : decode cX5_takesCap 31 = .ok (.aload_n 0, 1) := by decide +kernel
theorem dX5_takesCap_32 : decode cX5_takesCap 32 = .ok (.iconst 0, 1) := by decide +kernel
theorem dX5_takesCap_33 : decode cX5_takesCap 33 = .ok (.bipush 60, 2) := by decide +kernel
theorem dX5_takesCap_35 : decode cX5_takesCap 35 = .ok (.invokevirtual 183, 3) := by decide +kernel
theorem dX5_takesCap_38 : decode cX5_takesCap 38 = .ok (.ifCond .ne 5, 3) := by decide +kernel
theorem dX5_takesCap_41 : decode cX5_takesCap 41 = .ok (.iconst 0, 1) := by decide +kernel
theorem dX5_takesCap_42 : decode cX5_takesCap 42 = .ok (.ireturn, 1) := by decide +kernel
theorem dX5_takesCap_43 : decode cX5_takesCap 43 = .ok (.aload_n 0, 1) := by decide +kernel
theorem dX5_takesCap_44 : decode cX5_takesCap 44 = .ok (.getfield 21, 3) := by decide +kernel
theorem dX5_takesCap_47 : decode cX5_takesCap 47 = .ok (.aload_n 0, 1) := by decide +kernel
theorem dX5_takesCap_48 : decode cX5_takesCap 48 = .ok (.getfield 186, 3) := by decide +kernel
theorem dX5_takesCap_51 : decode cX5_takesCap 51 = .ok (.putfield 241, 3) := by decide +kernel
theorem dX5_takesCap_54 : decode cX5_takesCap 54 = .ok (.iconst 1, 1) := by decide +kernel
theorem dX5_takesCap_55 : decode cX5_takesCap 55 = .ok (.ireturn, 1) := by decide +kernel
theorem hd_X5_takesCap : yX5_takesCap.cls = RX5 ∧ yX5_takesCap.cls ≠ "java/lang/invoke/MethodHandle" ∧ yX5_takesCap.cls ≠ "java/lang/invoke/VarHandle" ∧ (parseMethodDescriptor yX5_takesCap.desc).map (fun d => d.parameters.length) = some 0 := by decide +kernel
theorem hs_X5_takesCap : yX5_takesCap.cls ≠ "java/lang/invoke/MethodHandle" ∧ yX5_takesCap.cls ≠ "java/lang/invoke/VarHandle" ∧ (parseMethodDescriptor yX5_takesCap.desc).map (fun d => d.parameters.length) = some 0 := by decide +kernel
set_option maxHeartbeats 4000000 in
set_option maxRecDepth 100000 in
theorem k_X5_takesCap (l : Launch) (E : Ev) (K : Kd) (z : Nat) (o : Nat) (w : Wd) (ho : K o = some (4, 0)) {r : Bool} {w' : Wd} (hf : f_X5_takesCap K o w = some (r, w')) : Met l yX5_takesCap (Cond.code yX5_takesCap cX5_takesCap 1 (Option.some Jvm.ClassFile.FieldType.boolean) :: bt) ({ frames := 3, cells := 0, slots := 0, locals := 65 } : Room) (va_Pc [rv E (some o)] (HB E K w z)) (QI E K z w' (b2i r)) 0 0 (hA E) := by
  refine Met.ofW (cc := cX5_takesCap) (maxL := 1) (ret := (Option.some Jvm.ClassFile.FieldType.boolean)) (by decide) rfl ?_
  intro p e s m args below meth c s₁ B hml hv
  obtain ⟨rfl, hz, hP, hKs, hT, hb0⟩ := hv
  have C : CX p l e s m _ meth c cX5_takesCap 1 RX5 (Option.some Jvm.ClassFile.FieldType.boolean) E := ⟨B.exec, B.bytes, hml, findClass_of_methodNamed B.named, fun w h => atoms_spec (ws := Cond.code yX5_takesCap cX5_takesCap 1 (Option.some Jvm.ClassFile.FieldType.boolean) :: bt) B.pre w (List.mem_cons_of_mem _ h), hKs, hT, by rw [hz]; exact hb0, B.notSynchronized, B.returns⟩
  have hH : HQ E K z w s s.heap [] := ⟨hP, va_S.rf, hz⟩
  obtain ⟨hx, hb, hml, hown, hts, hKs, hT, hb0, hlocks, hret⟩ := id C
  have hl := lv_entry [rv E (some o)] (n := 1) (by simp [lg_len_nil, lg_len_i, lg_len_j, lg_len_q, lg_len_f, lg_len_d, lg_len_r])
  rw [lg_entry_eq]
  generalize (lg_sl [rv E (some o)] ++ List.replicate (1 - (lg_sl [rv E (some o)]).length) Slot.unset).toArray = ls at hl ⊢
  replace hl : lv_has ls 1 [(0, rv E (some o))] := by simpa only [lv_args, cat_q, cat_i, cat_j, reduceIte, Nat.reduceEqDiff, Nat.reduceAdd, Nat.zero_add] using hl
  generalize s.heap = H at hH ⊢
  unfold f_X5_takesCap at hf
  refine hl_aload_n hx hb dX5_takesCap_0 rfl (lv_at hl 0 rfl) ?_
  refine g5_1 hx hb hts hown hKs hH rfl ho m2_25 dX5_takesCap_1 ?_
  obtain ⟨a1, ha1, hf⟩ := bnd hf
  replace ha1 := chk_some ha1
  refine gn9_14 hx hb hts hown hKs hH ha1.1 ha1.2 m1_189 dX5_takesCap_4 ?_
  refine lv_if_eq (tgt := 16) hx hb dX5_takesCap_7 (by decide) (fun c2 => ?_) (fun c2 => ?_)
  · replace hf := (if_pos c2).symm.trans hf
    refine hl_aload_n hx hb dX5_takesCap_16 rfl (lv_at hl 0 rfl) ?_
    refine g5_1 hx hb hts hown hKs hH rfl ho m2_25 dX5_takesCap_17 ?_
    refine lv_iconst (v := 1) hx hb dX5_takesCap_20 (by decide) ?_
    obtain ⟨w3, hw3, hf⟩ := bnd hf
    replace hw3 := Option.some.inj hw3
    refine pn9_14 (v := true) hx hb hts hown hKs hH ha1.1 ha1.2 m1_189 dX5_takesCap_21 (fun H locs hH => ?_)
    rw [hw3] at hH
    refine hl_aload_n hx hb dX5_takesCap_24 rfl (lv_at hl 0 rfl) ?_
    refine g5_0 hx hb hts hown hKs hH rfl ho m2_24 dX5_takesCap_25 ?_
    obtain ⟨a4, ha4, hf⟩ := bnd hf
    replace ha4 := chk_some ha4
    obtain ⟨q5, hq5, hf⟩ := bnd hf
    refine hcV_v hx hb hml hown hts hKs hT hb0 hH (As := []) (rest := []) (k_X8_advance l E K H.size a4 w3 ha4.2 hq5) (gV m4_191 m4_148 m4_149 m1_9 m4_150) hd_X8_advance ⟨Nat.le_of_ble_eq_true rfl, Nat.le_of_ble_eq_true rfl, rfl, rfl⟩ ha4.1 ha4.2 rfl rfl rfl hl.1 rfl rc0 rfl dX5_takesCap_28 ⟨Nat.zero_le _, Nat.zero_le _⟩ (fun H locs hH => ?_)
    refine hl_aload_n hx hb dX5_takesCap_31 rfl (lv_at hl 0 rfl) ?_
    refine lv_iconst (v := 0) hx hb dX5_takesCap_32 (by decide) ?_
    refine lv_bipush (v := 60) hx hb dX5_takesCap_33 (by decide) ?_
    obtain ⟨q6, hq6, hf⟩ := bnd hf
    refine hcV_i hx hb hml hown hts hKs hT hb0 hH (As := [.int 0, .int 60]) (rest := []) (k_X5_takesNumber l E K H.size o 0 60 q5 ho hq6) (gV m4_234 m4_236 ms_19 m1_8 m4_237) hd_X5_takesNumber ⟨Nat.le_of_ble_eq_true rfl, Nat.le_of_ble_eq_true rfl, rfl, rfl⟩ rfl ho rfl rfl rfl hl.1 rfl rc0 rfl dX5_takesCap_35 ⟨Nat.zero_le _, Nat.zero_le _⟩ (fun H locs hH => ?_)
    refine lv_if_ne (tgt := 43) hx hb dX5_takesCap_38 (by decide) (fun c7 => ?_) (fun c7 => ?_)
    · replace hf := (if_neg c7).symm.trans hf
      refine hl_aload_n hx hb dX5_takesCap_43 rfl (lv_at hl 0 rfl) ?_
      refine g5_1 hx hb hts hown hKs hH rfl ho m2_25 dX5_takesCap_44 ?_
      refine hl_aload_n hx hb dX5_takesCap_47 rfl (lv_at hl 0 rfl) ?_
      refine g5_4 hx hb hts hown hKs hH rfl ho m2_30 dX5_takesCap_48 ?_
      obtain ⟨a8, ha8, hf⟩ := bnd hf
      replace ha8 := chk_some ha8
      obtain ⟨w9, hw9, hf⟩ := bnd hf
      replace hw9 := Option.some.inj hw9
      refine pn9_13 (v := (wI q6.2 504 o)) hx hb hts hown hKs hH ha8.1 ha8.2 m1_186 dX5_takesCap_51 (fun H locs hH => ?_)
      rw [hw9] at hH
      refine lv_iconst (v := 1) hx hb dX5_takesCap_54 (by decide) ?_
      exact hw_zret hx hb hret rfl hf hH hlocks dX5_takesCap_55
    · replace hf := (if_pos c7).symm.trans hf
      refine lv_iconst (v := 0) hx hb dX5_takesCap_41 (by decide) ?_
      exact hw_zret hx hb hret rfl hf hH hlocks dX5_takesCap_42
  · replace hf := (if_neg c2).symm.trans hf
    refine hl_aload_n hx hb dX5_takesCap_10 rfl (lv_at hl 0 rfl) ?_
    refine lv_iconst (v := 3) hx hb dX5_takesCap_11 (by decide) ?_
    obtain ⟨q10, hq10, hf⟩ := bnd hf
    refine hcV_i hx hb hml hown hts hKs hT hb0 hH (As := [.int 3]) (rest := []) (k_X5_fail l E K H.size o 3 w ho hq10) (gV m4_187 m4_189 ms_13 m1_8 m4_190) hd_X5_fail ⟨Nat.le_of_ble_eq_true rfl, Nat.le_of_ble_eq_true rfl, rfl, rfl⟩ rfl ho rfl rfl rfl hl.1 rfl rc0 rfl dX5_takesCap_12 ⟨Nat.zero_le _, Nat.zero_le _⟩ (fun H locs hH => ?_)
    exact hw_zret hx hb hret rfl hf hH hlocks dX5_takesCap_15

theorem dX6_findFirst_0 : decode cX6_findFirst 0 = .ok (.aload_n 0, 1) := by decide +kernel
theorem dX6_findFirst_1 : decode cX6_findFirst 1 = .ok (.aload_n 1, 1) := by decide +kernel
theorem dX6_findFirst_2 : decode cX6_findFirst 2 = .ok (.iload_n 2, 1) := by decide +kernel
theorem dX6_findFirst_3 : decode cX6_findFirst 3 = .ok (.invokevirtual 53, 3) := by decide +kernel
theorem dX6_findFirst_6 : decode cX6_findFirst 6 = .ok (.aload_n 1, 1) := by decide +kernel
theorem dX6_findFirst_7 : decode cX6_findFirst 7 = .ok (.iload_n 2, 1) := by decide +kernel
theorem dX6_findFirst_8 : decode cX6_findFirst 8 = .ok (.invokestatic 87, 3) := by decide +kernel
theorem dX6_findFirst_11 : decode cX6_findFirst 11 = .ok (.istore 4, 2) := by decide +kernel
theorem dX6_findFirst_13 : decode cX6_findFirst 13 = .ok (.aload_n 1, 1) := by decide +kernel
theorem dX6_findFirst_14 : decode cX6_findFirst 14 = .ok (.iload_n 2, 1) := by decide +kernel
theorem dX6_findFirst_15 : decode cX6_findFirst 15 = .ok (.invokestatic 91, 3) := by decide +kernel
theorem dX6_findFirst_18 : decode cX6_findFirst 18 = .ok (.istore 5, 2) := by decide +kernel
theorem dX6_findFirst_20 : decode cX6_findFirst 20 = .ok (.iload 5, 2) := by decide +kernel
theorem dX6_findFirst_22 : decode cX6_findFirst 22 = .ok (.iload 4, 2) := by decide +kernel
theorem dX6_findFirst_24 : decode cX6_findFirst 24 = .ok (.if_icmp .gt 23, 3) := by decide +kernel
theorem dX6_findFirst_27 : decode cX6_findFirst 27 = .ok (.aload_n 0, 1) := by decide +kernel
theorem dX6_findFirst_28 : decode cX6_findFirst 28 = .ok (.aload_n 1, 1) := by decide +kernel
theorem dX6_findFirst_29 : decode cX6_findFirst 29 = .ok (.iload_n 2, 1) := by decide +kernel
theorem dX6_findFirst_30 : decode cX6_findFirst 30 = .ok (.iload 5, 2) := by decide +kernel
theorem dX6_findFirst_32 : decode cX6_findFirst 32 = .ok (.iload_n 3, 1) := by decide +kernel
theorem dX6_findFirst_33 : decode cX6_findFirst 33 = .ok (.invokevirtual 94, 3) := by decide +kernel
theorem dX6_findFirst_36 : decode cX6_findFirst 36 = .ok (.ifCond .eq 5, 3) := by decide +kernel
theorem dX6_findFirst_39 : decode cX6_findFirst 39 = .ok (.iconst 1, 1) := by decide +kernel
theorem dX6_findFirst_40 : decode cX6_findFirst 40 = .ok (.ireturn, 1) := by decide +kernel
theorem dX6_findFirst_41 : decode cX6_findFirst 41 = .ok (.iinc 5 1, 3) := by decide +kernel
theorem dX6_findFirst_44 : decode cX6_findFirst 44 = .ok (.goto (-24), 3) := by decide +kernel
theorem dX6_findFirst_47 : decode cX6_findFirst 47 = .ok (.iconst 0, 1) := by decide +kernel
theorem dX6_findFirst_48 : decode cX6_findFirst 48 = .ok (.ireturn, 1) := by decide +kernel
theorem hd_X6_findFirst : yX6_findFirst.cls = RX6 ∧ yX6_findFirst.cls ≠ "java/lang/invoke/MethodHandle" ∧ yX6_findFirst.cls ≠ "java/lang/invoke/VarHandle" ∧ (parseMethodDescriptor yX6_findFirst.desc).map (fun d => d.parameters.length) = some 3 := by decide +kernel
theorem hs_X6_findFirst : yX6_findFirst.cls ≠ "java/lang/invoke/MethodHandle" ∧ yX6_findFirst.cls ≠ "java/lang/invoke/VarHandle" ∧ (parseMethodDescriptor yX6_findFirst.desc).map (fun d => d.parameters.length) = some 3 := by decide +kernel
set_option maxHeartbeats 4000000 in
set_option maxRecDepth 100000 in
theorem l_X6_findFirst_L20 (C : CX p l e s m args meth c cX6_findFirst 6 RX6 (Option.some Jvm.ClassFile.FieldType.boolean) E) {o : Nat} (ho : K o = some (5, 0)) {r : Bool} {w' : Wd} (k : Option Nat → Int32 → Int32 → Int32 → Int32 → Wd → Option (Bool × Wd)) (hk : ∀ (v1_20 : Option Nat) (v2_20 : Int32) (v3_20 : Int32) (v4_20 : Int32) (v5_20 : Int32) (w : Wd) (H : Heap) (locs : List Loc) (ls : Array Slot), HQ E K z w s H locs → lv_has ls 6 [(1, rv E v1_20), (2, .int v2_20), (3, .int v3_20), (4, .int v4_20), (5, .int v5_20), (0, rv E (some o))] → k v1_20 v2_20 v3_20 v4_20 v5_20 w = some (r, w') → W p l e ({ frames := 4, cells := 0, slots := 0, locals := 103 } : Room) s m args below meth c H locs 0 0 (MQ below (QI E K z w' (b2i r)) args s 0 0 (hA E)) (F0 m 47 ls [])) : ∀ (n : Nat) (v1_20 : Option Nat) (v2_20 : Int32) (v3_20 : Int32) (v4_20 : Int32) (v5_20 : Int32) (w : Wd) (H : Heap) (locs : List Loc) (ls : Array Slot), HQ E K z w s H locs → lv_has ls 6 [(1, rv E v1_20), (2, .int v2_20), (3, .int v3_20), (4, .int v4_20), (5, .int v5_20), (0, rv E (some o))] → f_X6_findFirst_L20 K o k n v1_20 v2_20 v3_20 v4_20 v5_20 w = some (r, w') → W p l e ({ frames := 4, cells := 0, slots := 0, locals := 103 } : Room) s m args below meth c H locs 0 0 (MQ below (QI E K z w' (b2i r)) args s 0 0 (hA E)) (F0 m 20 ls []) := by
  obtain ⟨hx, hb, hml, hown, hts, hKs, hT, hb0, hlocks, hret⟩ := id C
  intro n
  induction n with
  | zero =>
    intro v1_20 v2_20 v3_20 v4_20 v5_20 w H locs ls hH hl hf
    cases hf
  | succ n ih =>
    intro v1_20 v2_20 v3_20 v4_20 v5_20 w H locs ls hH hl hf
    rw [f_X6_findFirst_L20] at hf
    refine lv_iload hx hb dX6_findFirst_20 (lv_at hl 4 rfl) ?_
    refine lv_iload hx hb dX6_findFirst_22 (lv_at hl 3 rfl) ?_
    refine lv_icmp_gt (tgt := 47) hx hb dX6_findFirst_24 (by decide) (fun c5 => ?_) (fun c5 => ?_)
    · replace hf := (if_pos c5).symm.trans hf
      exact hk v1_20 v2_20 v3_20 v4_20 v5_20 _ _ _ _ hH (lv_sub hl [0, 1, 2, 3, 4, 5] rfl) hf
    · replace hf := (if_neg c5).symm.trans hf
      refine hl_aload_n hx hb dX6_findFirst_27 rfl (lv_at hl 5 rfl) ?_
      refine hl_aload_n hx hb dX6_findFirst_28 rfl (lv_at hl 0 rfl) ?_
      refine lv_iload_n hx hb dX6_findFirst_29 rfl (lv_at hl 1 rfl) ?_
      refine lv_iload hx hb dX6_findFirst_30 (lv_at hl 4 rfl) ?_
      refine lv_iload_n hx hb dX6_findFirst_32 rfl (lv_at hl 2 rfl) ?_
      obtain ⟨q6, hq6, hf⟩ := bnd hf
      refine hcV_i hx hb hml hown hts hKs hT hb0 hH (As := [rv E v1_20, .int v2_20, .int v5_20, .int v3_20]) (rest := []) (k_X6_findOn l E K H.size o v1_20 v2_20 v5_20 v3_20 w ho hq6) (gV m3_206 m3_208 ms_5 m1_14 m3_209) hd_X6_findOn ⟨Nat.le_of_ble_eq_true rfl, Nat.le_of_ble_eq_true rfl, rfl, rfl⟩ rfl ho rfl rfl rfl hl.1 rfl rc0 rfl dX6_findFirst_33 ⟨Nat.zero_le _, Nat.zero_le _⟩ (fun H locs hH => ?_)
      refine lv_if_eq (tgt := 41) hx hb dX6_findFirst_36 (by decide) (fun c7 => ?_) (fun c7 => ?_)
      · replace hf := (if_pos c7).symm.trans hf
        refine lv_iinc (v := (v5_20 + 1)) (lv' := [(5, .int ((v5_20 + 1))), (1, rv E v1_20), (2, .int v2_20), (3, .int v3_20), (4, .int v4_20), (0, rv E (some o))]) hx hb dX6_findFirst_41 hl (k := 4) rfl rfl (by decide) rfl (fun ls hl => ?_)
        refine lv_goto (tgt := 20) hx hb dX6_findFirst_44 (by decide) ?_
        exact ih v1_20 v2_20 v3_20 v4_20 (v5_20 + 1) _ _ _ _ hH (lv_sub hl [1, 2, 3, 4, 0, 5] rfl) hf
      · replace hf := (if_neg c7).symm.trans hf
        refine lv_iconst (v := 1) hx hb dX6_findFirst_39 (by decide) ?_
        exact hw_zret hx hb hret rfl hf hH hlocks dX6_findFirst_40
set_option maxHeartbeats 4000000 in
set_option maxRecDepth 100000 in
theorem k_X6_findFirst (l : Launch) (E : Ev) (K : Kd) (z : Nat) (o : Nat) (a_1 : Option Nat) (a_2 : Int32) (a_3 : Int32) (w : Wd) (ho : K o = some (5, 0)) {r : Bool} {w' : Wd} (hf : f_X6_findFirst K o a_1 a_2 a_3 w = some (r, w')) : Met l yX6_findFirst (Cond.code yX6_findFirst cX6_findFirst 6 (Option.some Jvm.ClassFile.FieldType.boolean) :: bt) ({ frames := 4, cells := 0, slots := 0, locals := 103 } : Room) (va_Pc [rv E (some o), rv E a_1, .int a_2, .int a_3] (HB E K w z)) (QI E K z w' (b2i r)) 0 0 (hA E) := by
  refine Met.ofW (cc := cX6_findFirst) (maxL := 6) (ret := (Option.some Jvm.ClassFile.FieldType.boolean)) (by decide) rfl ?_
  intro p e s m args below meth c s₁ B hml hv
  obtain ⟨rfl, hz, hP, hKs, hT, hb0⟩ := hv
  have C : CX p l e s m _ meth c cX6_findFirst 6 RX6 (Option.some Jvm.ClassFile.FieldType.boolean) E := ⟨B.exec, B.bytes, hml, findClass_of_methodNamed B.named, fun w h => atoms_spec (ws := Cond.code yX6_findFirst cX6_findFirst 6 (Option.some Jvm.ClassFile.FieldType.boolean) :: bt) B.pre w (List.mem_cons_of_mem _ h), hKs, hT, by rw [hz]; exact hb0, B.notSynchronized, B.returns⟩
  have hH : HQ E K z w s s.heap [] := ⟨hP, va_S.rf, hz⟩
  obtain ⟨hx, hb, hml, hown, hts, hKs, hT, hb0, hlocks, hret⟩ := id C
  have hl := lv_entry [rv E (some o), rv E a_1, .int a_2, .int a_3] (n := 6) (by simp [lg_len_nil, lg_len_i, lg_len_j, lg_len_q, lg_len_f, lg_len_d, lg_len_r])
  rw [lg_entry_eq]
  generalize (lg_sl [rv E (some o), rv E a_1, .int a_2, .int a_3] ++ List.replicate (6 - (lg_sl [rv E (some o), rv E a_1, .int a_2, .int a_3]).length) Slot.unset).toArray = ls at hl ⊢
  replace hl : lv_has ls 6 [(0, rv E (some o)), (1, rv E a_1), (2, .int a_2), (3, .int a_3)] := by simpa only [lv_args, cat_q, cat_i, cat_j, reduceIte, Nat.reduceEqDiff, Nat.reduceAdd, Nat.zero_add] using hl
  generalize s.heap = H at hH ⊢
  unfold f_X6_findFirst at hf
  refine hl_aload_n hx hb dX6_findFirst_0 rfl (lv_at hl 0 rfl) ?_
  refine hl_aload_n hx hb dX6_findFirst_1 rfl (lv_at hl 1 rfl) ?_
  refine lv_iload_n hx hb dX6_findFirst_2 rfl (lv_at hl 2 rfl) ?_
  obtain ⟨q1, hq1, hf⟩ := bnd hf
  refine hcV_v hx hb hml hown hts hKs hT hb0 hH (As := [rv E a_1, .int a_2]) (rest := []) (k_X6_lookAtOfficers l E K H.size o a_1 a_2 w ho hq1) (gV m3_179 m3_181 ms_4 m1_14 m3_182) hd_X6_lookAtOfficers ⟨Nat.le_of_ble_eq_true rfl, Nat.le_of_ble_eq_true rfl, rfl, rfl⟩ rfl ho rfl rfl rfl hl.1 rfl rc0 rfl dX6_findFirst_3 ⟨Nat.zero_le _, Nat.zero_le _⟩ (fun H locs hH => ?_)
  refine hl_aload_n hx hb dX6_findFirst_6 rfl (lv_at hl 1 rfl) ?_
  refine lv_iload_n hx hb dX6_findFirst_7 rfl (lv_at hl 2 rfl) ?_
  obtain ⟨q2, hq2, hf⟩ := bnd hf
  refine hcS_i hx hb hml hown hts hKs hT hb0 hH (As := [rv E a_1, .int a_2]) (rest := []) (k_X6_lastDay l E K H.size a_1 a_2 q1 hq2) (gS m3_195 m3_196 m1_14 m3_197) hs_X6_lastDay ⟨Nat.le_of_ble_eq_true rfl, Nat.le_of_ble_eq_true rfl, rfl, rfl⟩ hl.1 rfl rc0 rfl dX6_findFirst_8 ⟨Nat.zero_le _, Nat.zero_le _⟩ (fun H locs hH => ?_)
  refine lv_istore (i := 4) (lv' := [(4, .int (q2.1)), (0, rv E (some o)), (1, rv E a_1), (2, .int a_2), (3, .int a_3)]) hx hb dX6_findFirst_11 hl (by decide) rfl (fun ls hl => ?_)
  refine hl_aload_n hx hb dX6_findFirst_13 rfl (lv_at hl 2 rfl) ?_
  refine lv_iload_n hx hb dX6_findFirst_14 rfl (lv_at hl 3 rfl) ?_
  obtain ⟨q3, hq3, hf⟩ := bnd hf
  refine hcS_i hx hb hml hown hts hKs hT hb0 hH (As := [rv E a_1, .int a_2]) (rest := []) (k_X6_firstDay l E K H.size a_1 a_2 q2.2 hq3) (gS m3_202 m3_203 m1_14 m3_204) hs_X6_firstDay ⟨Nat.le_of_ble_eq_true rfl, Nat.le_of_ble_eq_true rfl, rfl, rfl⟩ hl.1 rfl rc0 rfl dX6_findFirst_15 ⟨Nat.zero_le _, Nat.zero_le _⟩ (fun H locs hH => ?_)
  refine lv_istore (i := 5) (lv' := [(5, .int (q3.1)), (4, .int (q2.1)), (0, rv E (some o)), (1, rv E a_1), (2, .int a_2), (3, .int a_3)]) hx hb dX6_findFirst_18 hl (by decide) rfl (fun ls hl => ?_)
  refine l_X6_findFirst_L20  C ho _ (fun v1_20 v2_20 v3_20 v4_20 v5_20 w4 H locs ls hH hl hf => ?_) fu a_1 a_2 a_3 q2.1 q3.1 q3.2 _ _ _ hH (lv_sub hl [3, 4, 5, 1, 0, 2] rfl) hf
  refine lv_iconst (v := 0) hx hb dX6_findFirst_47 (by decide) ?_
  exact hw_zret hx hb hret rfl hf hH hlocks dX6_findFirst_48

theorem dX6_countOpenDays_0 : decode cX6_countOpenDays 0 = .ok (.aload_n 0, 1) := by decide +kernel
theorem dX6_countOpenDays_1 : decode cX6_countOpenDays 1 = .ok (.aload_n 1, 1) := by decide +kernel
theorem dX6_countOpenDays_2 : decode cX6_countOpenDays 2 = .ok (.iload_n 2, 1) := by decide +kernel
theorem dX6_countOpenDays_3 : decode cX6_countOpenDays 3 = .ok (.invokevirtual 53, 3) := by decide +kernel
theorem dX6_countOpenDays_6 : decode cX6_countOpenDays 6 = .ok (.aload_n 1, 1) := by decide +kernel
theorem dX6_countOpenDays_7 : decode cX6_countOpenDays 7 = .ok (.iload_n 2, 1) := by decide +kernel
theorem dX6_countOpenDays_8 : decode cX6_countOpenDays 8 = .ok (.invokestatic 87, 3) := by decide +kernel
theorem dX6_countOpenDays_11 : decode cX6_countOpenDays 11 = .ok (.istore_n 3, 1) := by decide +kernel
theorem dX6_countOpenDays_12 : decode cX6_countOpenDays 12 = .ok (.iconst 0, 1) := by decide +kernel
theorem dX6_countOpenDays_13 : decode cX6_countOpenDays 13 = .ok (.istore 4, 2) := by decide +kernel
theorem dX6_countOpenDays_15 : decode cX6_countOpenDays 15 = .ok (.aload_n 1, 1) := by decide +kernel
theorem dX6_countOpenDays_16 : decode cX6_countOpenDays 16 = .ok (.iload_n 2, 1) := by decide +kernel
theorem dX6_countOpenDays_17 : decode cX6_countOpenDays 17 = .ok (.invokestatic 91, 3) := by decide +kernel
theorem dX6_countOpenDays_20 : decode cX6_countOpenDays 20 = .ok (.istore 5, 2) := by decide +kernel
theorem dX6_countOpenDays_22 : decode cX6_countOpenDays 22 = .ok (.iload 5, 2) := by decide +kernel
theorem dX6_countOpenDays_24 : decode cX6_countOpenDays 24 = .ok (.iload_n 3, 1) := by decide +kernel
theorem dX6_countOpenDays_25 : decode cX6_countOpenDays 25 = .ok (.if_icmp .gt 24, 3) := by decide +kernel
theorem dX6_countOpenDays_28 : decode cX6_countOpenDays 28 = .ok (.aload_n 0, 1) := by decide +kernel
theorem dX6_countOpenDays_29 : decode cX6_countOpenDays 29 = .ok (.aload_n 1, 1) := by decide +kernel
theorem dX6_countOpenDays_30 : decode cX6_countOpenDays 30 = .ok (.iload_n 2, 1) := by decide +kernel
theorem dX6_countOpenDays_31 : decode cX6_countOpenDays 31 = .ok (.iload 5, 2) := by decide +kernel
theorem dX6_countOpenDays_33 : decode cX6_countOpenDays 33 = .ok (.iconst 0, 1) := by decide +kernel
theorem dX6_countOpenDays_34 : decode cX6_countOpenDays 34 = .ok (.invokevirtual 94, 3) := by decide +kernel
theorem dX6_countOpenDays_37 : decode cX6_countOpenDays 37 = .ok (.ifCond .eq 6, 3) := by decide +kernel
theorem dX6_countOpenDays_40 : decode cX6_countOpenDays 40 = .ok (.iinc 4 1, 3) := by decide +kernel
theorem dX6_countOpenDays_43 : decode cX6_countOpenDays 43 = .ok (.iinc 5 1, 3) := by decide +kernel
theorem dX6_countOpenDays_46 : decode cX6_countOpenDays 46 = .ok (.goto (-24), 3) := by decide +kernel
theorem dX6_countOpenDays_49 : decode cX6_countOpenDays 49 = .ok (.iload 4, 2) := by decide +kernel
theorem dX6_countOpenDays_51 : decode cX6_countOpenDays 51 = .ok (.ireturn, 1) := by decide +kernel
theorem hd_X6_countOpenDays : yX6_countOpenDays.cls = RX6 ∧ yX6_countOpenDays.cls ≠ "java/lang/invoke/MethodHandle" ∧ yX6_countOpenDays.cls ≠ "java/lang/invoke/VarHandle" ∧ (parseMethodDescriptor yX6_countOpenDays.desc).map (fun d => d.parameters.length) = some 2 := by decide +kernel
theorem hs_X6_countOpenDays : yX6_countOpenDays.cls ≠ "java/lang/invoke/MethodHandle" ∧ yX6_countOpenDays.cls ≠ "java/lang/invoke/VarHandle" ∧ (parseMethodDescriptor yX6_countOpenDays.desc).map (fun d => d.parameters.length) = some 2 := by decide +kernel
set_option maxHeartbeats 4000000 in
set_option maxRecDepth 100000 in
theorem l_X6_countOpenDays_L22 (C : CX p l e s m args meth c cX6_countOpenDays 6 RX6 (Option.some Jvm.ClassFile.FieldType.int) E) {o : Nat} (ho : K o = some (5, 0)) {r : Int32} {w' : Wd} (k : Option Nat → Int32 → Int32 → Int32 → Int32 → Wd → Option (Int32 × Wd)) (hk : ∀ (v1_22 : Option Nat) (v2_22 : Int32) (v3_22 : Int32) (v4_22 : Int32) (v5_22 : Int32) (w : Wd) (H : Heap) (locs : List Loc) (ls : Array Slot), HQ E K z w s H locs → lv_has ls 6 [(1, rv E v1_22), (2, .int v2_22), (3, .int v3_22), (4, .int v4_22), (5, .int v5_22), (0, rv E (some o))] → k v1_22 v2_22 v3_22 v4_22 v5_22 w = some (r, w') → W p l e ({ frames := 4, cells := 0, slots := 0, locals := 103 } : Room) s m args below meth c H locs 0 0 (MQ below (QI E K z w' r) args s 0 0 (hA E)) (F0 m 49 ls [])) : ∀ (n : Nat) (v1_22 : Option Nat) (v2_22 : Int32) (v3_22 : Int32) (v4_22 : Int32) (v5_22 : Int32) (w : Wd) (H : Heap) (locs : List Loc) (ls : Array Slot), HQ E K z w s H locs → lv_has ls 6 [(1, rv E v1_22), (2, .int v2_22), (3, .int v3_22), (4, .int v4_22), (5, .int v5_22), (0, rv E (some o))] → f_X6_countOpenDays_L22 K o k n v1_22 v2_22 v3_22 v4_22 v5_22 w = some (r, w') → W p l e ({ frames := 4, cells := 0, slots := 0, locals := 103 } : Room) s m args below meth c H locs 0 0 (MQ below (QI E K z w' r) args s 0 0 (hA E)) (F0 m 22 ls []) := by
  obtain ⟨hx, hb, hml, hown, hts, hKs, hT, hb0, hlocks, hret⟩ := id C
  intro n
  induction n with
  | zero =>
    intro v1_22 v2_22 v3_22 v4_22 v5_22 w H locs ls hH hl hf
    cases hf
  | succ n ih =>
    intro v1_22 v2_22 v3_22 v4_22 v5_22 w H locs ls hH hl hf
    rw [f_X6_countOpenDays_L22] at hf
    refine lv_iload hx hb dX6_countOpenDays_22 (lv_at hl 4 rfl) ?_
    refine lv_iload_n hx hb dX6_countOpenDays_24 rfl (lv_at hl 2 rfl) ?_
    refine lv_icmp_gt (tgt := 49) hx hb dX6_countOpenDays_25 (by decide) (fun c5 => ?_) (fun c5 => ?_)
    · replace hf := (if_pos c5).symm.trans hf
      exact hk v1_22 v2_22 v3_22 v4_22 v5_22 _ _ _ _ hH (lv_sub hl [0, 1, 2, 3, 4, 5] rfl) hf
    · replace hf := (if_neg c5).symm.trans hf
      refine hl_aload_n hx hb dX6_countOpenDays_28 rfl (lv_at hl 5 rfl) ?_
      refine hl_aload_n hx hb dX6_countOpenDays_29 rfl (lv_at hl 0 rfl) ?_
      refine lv_iload_n hx hb dX6_countOpenDays_30 rfl (lv_at hl 1 rfl) ?_
      refine lv_iload hx hb dX6_countOpenDays_31 (lv_at hl 4 rfl) ?_
      refine lv_iconst (v := 0) hx hb dX6_countOpenDays_33 (by decide) ?_
      obtain ⟨q6, hq6, hf⟩ := bnd hf
      refine hcV_i hx hb hml hown hts hKs hT hb0 hH (As := [rv E v1_22, .int v2_22, .int v5_22, .int 0]) (rest := []) (k_X6_findOn l E K H.size o v1_22 v2_22 v5_22 0 w ho hq6) (gV m3_206 m3_208 ms_5 m1_14 m3_209) hd_X6_findOn ⟨Nat.le_of_ble_eq_true rfl, Nat.le_of_ble_eq_true rfl, rfl, rfl⟩ rfl ho rfl rfl rfl hl.1 rfl rc0 rfl dX6_countOpenDays_34 ⟨Nat.zero_le _, Nat.zero_le _⟩ (fun H locs hH => ?_)
      refine lv_if_eq (tgt := 43) hx hb dX6_countOpenDays_37 (by decide) (fun c7 => ?_) (fun c7 => ?_)
      · replace hf := (if_pos c7).symm.trans hf
        refine lv_iinc (v := (v5_22 + 1)) (lv' := [(5, .int ((v5_22 + 1))), (1, rv E v1_22), (2, .int v2_22), (3, .int v3_22), (4, .int v4_22), (0, rv E (some o))]) hx hb dX6_countOpenDays_43 hl (k := 4) rfl rfl (by decide) rfl (fun ls hl => ?_)
        refine lv_goto (tgt := 22) hx hb dX6_countOpenDays_46 (by decide) ?_
        exact ih v1_22 v2_22 v3_22 v4_22 (v5_22 + 1) _ _ _ _ hH (lv_sub hl [1, 2, 3, 4, 0, 5] rfl) hf
      · replace hf := (if_neg c7).symm.trans hf
        refine lv_iinc (v := (v4_22 + 1)) (lv' := [(4, .int ((v4_22 + 1))), (1, rv E v1_22), (2, .int v2_22), (3, .int v3_22), (5, .int v5_22), (0, rv E (some o))]) hx hb dX6_countOpenDays_40 hl (k := 3) rfl rfl (by decide) rfl (fun ls hl => ?_)
        refine lv_iinc (v := (v5_22 + 1)) (lv' := [(5, .int ((v5_22 + 1))), (4, .int ((v4_22 + 1))), (1, rv E v1_22), (2, .int v2_22), (3, .int v3_22), (0, rv E (some o))]) hx hb dX6_countOpenDays_43 hl (k := 4) rfl rfl (by decide) rfl (fun ls hl => ?_)
        refine lv_goto (tgt := 22) hx hb dX6_countOpenDays_46 (by decide) ?_
        exact ih v1_22 v2_22 v3_22 (v4_22 + 1) (v5_22 + 1) _ _ _ _ hH (lv_sub hl [2, 3, 4, 1, 0, 5] rfl) hf
set_option maxHeartbeats 4000000 in
set_option maxRecDepth 100000 in
theorem k_X6_countOpenDays (l : Launch) (E : Ev) (K : Kd) (z : Nat) (o : Nat) (a_1 : Option Nat) (a_2 : Int32) (w : Wd) (ho : K o = some (5, 0)) {r : Int32} {w' : Wd} (hf : f_X6_countOpenDays K o a_1 a_2 w = some (r, w')) : Met l yX6_countOpenDays (Cond.code yX6_countOpenDays cX6_countOpenDays 6 (Option.some Jvm.ClassFile.FieldType.int) :: bt) ({ frames := 4, cells := 0, slots := 0, locals := 103 } : Room) (va_Pc [rv E (some o), rv E a_1, .int a_2] (HB E K w z)) (QI E K z w' r) 0 0 (hA E) := by
  refine Met.ofW (cc := cX6_countOpenDays) (maxL := 6) (ret := (Option.some Jvm.ClassFile.FieldType.int)) (by decide) rfl ?_
  intro p e s m args below meth c s₁ B hml hv
  obtain ⟨rfl, hz, hP, hKs, hT, hb0⟩ := hv
  have C : CX p l e s m _ meth c cX6_countOpenDays 6 RX6 (Option.some Jvm.ClassFile.FieldType.int) E := ⟨B.exec, B.bytes, hml, findClass_of_methodNamed B.named, fun w h => atoms_spec (ws := Cond.code yX6_countOpenDays cX6_countOpenDays 6 (Option.some Jvm.ClassFile.FieldType.int) :: bt) B.pre w (List.mem_cons_of_mem _ h), hKs, hT, by rw [hz]; exact hb0, B.notSynchronized, B.returns⟩
  have hH : HQ E K z w s s.heap [] := ⟨hP, va_S.rf, hz⟩
  obtain ⟨hx, hb, hml, hown, hts, hKs, hT, hb0, hlocks, hret⟩ := id C
  have hl := lv_entry [rv E (some o), rv E a_1, .int a_2] (n := 6) (by simp [lg_len_nil, lg_len_i, lg_len_j, lg_len_q, lg_len_f, lg_len_d, lg_len_r])
  rw [lg_entry_eq]
  generalize (lg_sl [rv E (some o), rv E a_1, .int a_2] ++ List.replicate (6 - (lg_sl [rv E (some o), rv E a_1, .int a_2]).length) Slot.unset).toArray = ls at hl ⊢
  replace hl : lv_has ls 6 [(0, rv E (some o)), (1, rv E a_1), (2, .int a_2)] := by simpa only [lv_args, cat_q, cat_i, cat_j, reduceIte, Nat.reduceEqDiff, Nat.reduceAdd, Nat.zero_add] using hl
  generalize s.heap = H at hH ⊢
  unfold f_X6_countOpenDays at hf
  refine hl_aload_n hx hb dX6_countOpenDays_0 rfl (lv_at hl 0 rfl) ?_
  refine hl_aload_n hx hb dX6_countOpenDays_1 rfl (lv_at hl 1 rfl) ?_
  refine lv_iload_n hx hb dX6_countOpenDays_2 rfl (lv_at hl 2 rfl) ?_
  obtain ⟨q1, hq1, hf⟩ := bnd hf
  refine hcV_v hx hb hml hown hts hKs hT hb0 hH (As := [rv E a_1, .int a_2]) (rest := []) (k_X6_lookAtOfficers l E K H.size o a_1 a_2 w ho hq1) (gV m3_179 m3_181 ms_4 m1_14 m3_182) hd_X6_lookAtOfficers ⟨Nat.le_of_ble_eq_true rfl, Nat.le_of_ble_eq_true rfl, rfl, rfl⟩ rfl ho rfl rfl rfl hl.1 rfl rc0 rfl dX6_countOpenDays_3 ⟨Nat.zero_le _, Nat.zero_le _⟩ (fun H locs hH => ?_)
  refine hl_aload_n hx hb dX6_countOpenDays_6 rfl (lv_at hl 1 rfl) ?_
  refine lv_iload_n hx hb dX6_countOpenDays_7 rfl (lv_at hl 2 rfl) ?_
  obtain ⟨q2, hq2, hf⟩ := bnd hf
  refine hcS_i hx hb hml hown hts hKs hT hb0 hH (As := [rv E a_1, .int a_2]) (rest := []) (k_X6_lastDay l E K H.size a_1 a_2 q1 hq2) (gS m3_195 m3_196 m1_14 m3_197) hs_X6_lastDay ⟨Nat.le_of_ble_eq_true rfl, Nat.le_of_ble_eq_true rfl, rfl, rfl⟩ hl.1 rfl rc0 rfl dX6_countOpenDays_8 ⟨Nat.zero_le _, Nat.zero_le _⟩ (fun H locs hH => ?_)
  refine lv_istore_n (i := 3) (lv' := [(3, .int (q2.1)), (0, rv E (some o)), (1, rv E a_1), (2, .int a_2)]) hx hb dX6_countOpenDays_11 rfl hl (by decide) rfl (fun ls hl => ?_)
  refine lv_iconst (v := 0) hx hb dX6_countOpenDays_12 (by decide) ?_
  refine lv_istore (i := 4) (lv' := [(4, .int 0), (3, .int (q2.1)), (0, rv E (some o)), (1, rv E a_1), (2, .int a_2)]) hx hb dX6_countOpenDays_13 hl (by decide) rfl (fun ls hl => ?_)
  refine hl_aload_n hx hb dX6_countOpenDays_15 rfl (lv_at hl 3 rfl) ?_
  refine lv_iload_n hx hb dX6_countOpenDays_16 rfl (lv_at hl 4 rfl) ?_
  obtain ⟨q3, hq3, hf⟩ := bnd hf
  refine hcS_i hx hb hml hown hts hKs hT hb0 hH (As := [rv E a_1, .int a_2]) (rest := []) (k_X6_firstDay l E K H.size a_1 a_2 q2.2 hq3) (gS m3_202 m3_203 m1_14 m3_204) hs_X6_firstDay ⟨Nat.le_of_ble_eq_true rfl, Nat.le_of_ble_eq_true rfl, rfl, rfl⟩ hl.1 rfl rc0 rfl dX6_countOpenDays_17 ⟨Nat.zero_le _, Nat.zero_le _⟩ (fun H locs hH => ?_)
  refine lv_istore (i := 5) (lv' := [(5, .int (q3.1)), (4, .int 0), (3, .int (q2.1)), (0, rv E (some o)), (1, rv E a_1), (2, .int a_2)]) hx hb dX6_countOpenDays_20 hl (by decide) rfl (fun ls hl => ?_)
  refine l_X6_countOpenDays_L22  C ho _ (fun v1_22 v2_22 v3_22 v4_22 v5_22 w4 H locs ls hH hl hf => ?_) fu a_1 a_2 q2.1 0 q3.1 q3.2 _ _ _ hH (lv_sub hl [4, 5, 2, 1, 0, 3] rfl) hf
  refine lv_iload hx hb dX6_countOpenDays_49 (lv_at hl 3 rfl) ?_
  exact hw_iret hx hb hret hf hH hlocks dX6_countOpenDays_51

theorem dX6_planWaiting_0 : decode cX6_planWaiting 0 = .ok (.aload_n 1, 1) := by decide +kernel
theorem dX6_planWaiting_1 : decode cX6_planWaiting 1 = .ok (.aload_n 0, 1) := by decide +kernel
theorem dX6_planWaiting_2 : decode cX6_planWaiting 2 = .ok (.getfield 21, 3) := by decide +kernel
theorem dX6_planWaiting_5 : decode cX6_planWaiting 5 = .ok (.invokevirtual 118, 3) := by decide +kernel
theorem dX6_planWaiting_8 : decode cX6_planWaiting 8 = .ok (.istore_n 3, 1) := by decide +kernel
theorem dX6_planWaiting_9 : decode cX6_planWaiting 9 = .ok (.iconst 0, 1) := by decide +kernel
theorem dX6_planWaiting_10 : decode cX6_planWaiting 10 = .ok (.istore 4, 2) := by decide +kernel
theorem dX6_planWaiting_12 : decode cX6_planWaiting 12 = .ok (.iconst 0, 1) := by decide +kernel
theorem dX6_planWaiting_13 : decode cX6_planWaiting 13 = .ok (.istore 5, 2) := by decide +kernel
theorem dX6_planWaiting_15 : decode cX6_planWaiting 15 = .ok (.iload 5, 2) := by decide +kernel
theorem dX6_planWaiting_17 : decode cX6_planWaiting 17 = .ok (.iload_n 3, 1) := by decide +kernel
theorem dX6_planWaiting_18 : decode cX6_planWaiting 18 = .ok (.if_icmp .ge 40, 3) := by decide +kernel
theorem dX6_planWaiting_21 : decode cX6_planWaiting 21 = .ok (.aload_n 0, 1) := by decide +kernel
theorem dX6_planWaiting_22 : decode cX6_planWaiting 22 = .ok (.aload_n 1, 1) := by decide +kernel
theorem dX6_planWaiting_23 : decode cX6_planWaiting 23 = .ok (.aload_n 0, 1) := by decide +kernel
theorem dX6_planWaiting_24 : decode cX6_planWaiting 24 = .ok (.getfield 21, 3) := by decide +kernel
theorem dX6_planWaiting_27 : decode cX6_planWaiting 27 = .ok (.iload 5, 2) := by decide +kernel
theorem dX6_planWaiting_29 : decode cX6_planWaiting 29 = .ok (.iaload, 1) := by decide +kernel
theorem dX6_planWaiting_30 : decode cX6_planWaiting 30 = .ok (.iload_n 2, 1) := by decide +kernel
theorem dX6_planWaiting_31 : decode cX6_planWaiting 31 = .ok (.invokevirtual 122, 3) := by decide +kernel
theorem dX6_planWaiting_34 : decode cX6_planWaiting 34 = .ok (.ifCond .eq 18, 3) := by decide +kernel
theorem dX6_planWaiting_37 : decode cX6_planWaiting 37 = .ok (.aload_n 0, 1) := by decide +kernel
theorem dX6_planWaiting_38 : decode cX6_planWaiting 38 = .ok (.aload_n 1, 1) := by decide +kernel
theorem dX6_planWaiting_39 : decode cX6_planWaiting 39 = .ok (.aload_n 0, 1) := by decide +kernel
theorem dX6_planWaiting_40 : decode cX6_planWaiting 40 = .ok (.getfield 21, 3) := by decide +kernel
theorem dX6_planWaiting_43 : decode cX6_planWaiting 43 = .ok (.iload 5, 2) := by decide +kernel
theorem dX6_planWaiting_45 : decode cX6_planWaiting 45 = .ok (.iaload, 1) := by decide +kernel
theorem dX6_planWaiting_46 : decode cX6_planWaiting 46 = .ok (.invokevirtual 126, 3) := by decide +kernel
theorem dX6_planWaiting_49 : decode cX6_planWaiting 49 = .ok (.iinc 4 1, 3) := by decide +kernel
theorem dX6_planWaiting_52 : decode cX6_planWaiting 52 = .ok (.iinc 5 1, 3) := by decide +kernel
theorem dX6_planWaiting_55 : decode cX6_planWaiting 55 = .ok (.goto (-40), 3) := by decide +kernel
theorem dX6_planWaiting_58 : decode cX6_planWaiting 58 = .ok (.iload 4, 2) := by decide +kernel
theorem dX6_planWaiting_60 : decode cX6_planWaiting 60 = .ok (.ireturn, 1) := by decide +kernel
theorem hd_X6_planWaiting : yX6_planWaiting.cls = RX6 ∧ yX6_planWaiting.cls ≠ "java/lang/invoke/MethodHandle" ∧ yX6_planWaiting.cls ≠ "java/lang/invoke/VarHandle" ∧ (parseMethodDescriptor yX6_planWaiting.desc).map (fun d => d.parameters.length) = some 2 := by decide +kernel
theorem hs_X6_planWaiting : yX6_planWaiting.cls ≠ "java/lang/invoke/MethodHandle" ∧ yX6_planWaiting.cls ≠ "java/lang/invoke/VarHandle" ∧ (parseMethodDescriptor yX6_planWaiting.desc).map (fun d => d.parameters.length) = some 2 := by decide +kernel
set_option maxHeartbeats 4000000 in
set_option maxRecDepth 100000 in
theorem l_X6_planWaiting_L15 (C : CX p l e s m args meth c cX6_planWaiting 6 RX6 (Option.some Jvm.ClassFile.FieldType.int) E) {o : Nat} (ho : K o = some (5, 0)) {r : Int32} {w' : Wd} (k : Option Nat → Int32 → Int32 → Int32 → Int32 → Wd → Option (Int32 × Wd)) (hk : ∀ (v1_15 : Option Nat) (v2_15 : Int32) (v3_15 : Int32) (v4_15 : Int32) (v5_15 : Int32) (w : Wd) (H : Heap) (locs : List Loc) (ls : Array Slot), HQ E K z w s H locs → lv_has ls 6 [(1, rv E v1_15), (2, .int v2_15), (3, .int v3_15), (4, .int v4_15), (5, .int v5_15), (0, rv E (some o))] → k v1_15 v2_15 v3_15 v4_15 v5_15 w = some (r, w') → W p l e ({ frames := 5, cells := 0, slots := 0, locals := 128 } : Room) s m args below meth c H locs 0 0 (MQ below (QI E K z w' r) args s 0 0 (hA E)) (F0 m 58 ls [])) : ∀ (n : Nat) (v1_15 : Option Nat) (v2_15 : Int32) (v3_15 : Int32) (v4_15 : Int32) (v5_15 : Int32) (w : Wd) (H : Heap) (locs : List Loc) (ls : Array Slot), HQ E K z w s H locs → lv_has ls 6 [(1, rv E v1_15), (2, .int v2_15), (3, .int v3_15), (4, .int v4_15), (5, .int v5_15), (0, rv E (some o))] → f_X6_planWaiting_L15 K o k n v1_15 v2_15 v3_15 v4_15 v5_15 w = some (r, w') → W p l e ({ frames := 5, cells := 0, slots := 0, locals := 128 } : Room) s m args below meth c H locs 0 0 (MQ below (QI E K z w' r) args s 0 0 (hA E)) (F0 m 15 ls []) := by
  obtain ⟨hx, hb, hml, hown, hts, hKs, hT, hb0, hlocks, hret⟩ := id C
  intro n
  induction n with
  | zero =>
    intro v1_15 v2_15 v3_15 v4_15 v5_15 w H locs ls hH hl hf
    cases hf
  | succ n ih =>
    intro v1_15 v2_15 v3_15 v4_15 v5_15 w H locs ls hH hl hf
    rw [f_X6_planWaiting_L15] at hf
    refine lv_iload hx hb dX6_planWaiting_15 (lv_at hl 4 rfl) ?_
    refine lv_iload_n hx hb dX6_planWaiting_17 rfl (lv_at hl 2 rfl) ?_
    refine lv_icmp_ge (tgt := 58) hx hb dX6_planWaiting_18 (by decide) (fun c4 => ?_) (fun c4 => ?_)
    · replace hf := (if_pos c4).symm.trans hf
      exact hk v1_15 v2_15 v3_15 v4_15 v5_15 _ _ _ _ hH (lv_sub hl [0, 1, 2, 3, 4, 5] rfl) hf
    · replace hf := (if_neg c4).symm.trans hf
      refine hl_aload_n hx hb dX6_planWaiting_21 rfl (lv_at hl 5 rfl) ?_
      refine hl_aload_n hx hb dX6_planWaiting_22 rfl (lv_at hl 0 rfl) ?_
      refine hl_aload_n hx hb dX6_planWaiting_23 rfl (lv_at hl 5 rfl) ?_
      refine g6_3 hx hb hts hown hKs hH rfl ho m2_151 dX6_planWaiting_24 ?_
      refine lv_iload hx hb dX6_planWaiting_27 (lv_at hl 4 rfl) ?_
      obtain ⟨a5, ha5, hf⟩ := bnd hf
      replace ha5 := cha_some ha5
      obtain ⟨j6, hj6, hf⟩ := bnd hf
      refine hw_iald hx hb hKs hH ha5.1 ha5.2 hj6 dX6_planWaiting_29 ?_
      refine lv_iload_n hx hb dX6_planWaiting_30 rfl (lv_at hl 1 rfl) ?_
      obtain ⟨q7, hq7, hf⟩ := bnd hf
      refine hcV_i hx hb hml hown hts hKs hT hb0 hH (As := [rv E v1_15, .int ((aI w a5.1 j6)), .int v2_15]) (rest := []) (k_X6_findFirst l E K H.size o v1_15 (aI w a5.1 j6) v2_15 w ho hq7) (gV m3_175 m3_176 m3_177 m1_14 m3_178) hd_X6_findFirst ⟨Nat.le_of_ble_eq_true rfl, Nat.le_of_ble_eq_true rfl, rfl, rfl⟩ rfl ho rfl rfl rfl hl.1 rfl rc0 rfl dX6_planWaiting_31 ⟨Nat.zero_le _, Nat.zero_le _⟩ (fun H locs hH => ?_)
      refine lv_if_eq (tgt := 52) hx hb dX6_planWaiting_34 (by decide) (fun c8 => ?_) (fun c8 => ?_)
      · replace hf := (if_pos c8).symm.trans hf
        refine lv_iinc (v := (v5_15 + 1)) (lv' := [(5, .int ((v5_15 + 1))), (1, rv E v1_15), (2, .int v2_15), (3, .int v3_15), (4, .int v4_15), (0, rv E (some o))]) hx hb dX6_planWaiting_52 hl (k := 4) rfl rfl (by decide) rfl (fun ls hl => ?_)
        refine lv_goto (tgt := 15) hx hb dX6_planWaiting_55 (by decide) ?_
        exact ih v1_15 v2_15 v3_15 v4_15 (v5_15 + 1) _ _ _ _ hH (lv_sub hl [1, 2, 3, 4, 0, 5] rfl) hf
      · replace hf := (if_neg c8).symm.trans hf
        refine hl_aload_n hx hb dX6_planWaiting_37 rfl (lv_at hl 5 rfl) ?_
        refine hl_aload_n hx hb dX6_planWaiting_38 rfl (lv_at hl 0 rfl) ?_
        refine hl_aload_n hx hb dX6_planWaiting_39 rfl (lv_at hl 5 rfl) ?_
        refine g6_3 hx hb hts hown hKs hH rfl ho m2_151 dX6_planWaiting_40 ?_
        refine lv_iload hx hb dX6_planWaiting_43 (lv_at hl 4 rfl) ?_
        obtain ⟨a9, ha9, hf⟩ := bnd hf
        replace ha9 := cha_some ha9
        obtain ⟨j10, hj10, hf⟩ := bnd hf
        refine hw_iald hx hb hKs hH ha9.1 ha9.2 hj10 dX6_planWaiting_45 ?_
        obtain ⟨q11, hq11, hf⟩ := bnd hf
        refine hcV_v hx hb hml hown hts hKs hT hb0 hH (As := [rv E v1_15, .int ((aI q7.2 a9.1 j10))]) (rest := []) (k_X6_setFound l E K H.size o v1_15 (aI q7.2 a9.1 j10) q7.2 ho hq11) (gV m4_12 m4_13 m4_14 m1_14 m4_15) hd_X6_setFound ⟨Nat.le_of_ble_eq_true rfl, Nat.le_of_ble_eq_true rfl, rfl, rfl⟩ rfl ho rfl rfl rfl hl.1 rfl rc0 rfl dX6_planWaiting_46 ⟨Nat.zero_le _, Nat.zero_le _⟩ (fun H locs hH => ?_)
        refine lv_iinc (v := (v4_15 + 1)) (lv' := [(4, .int ((v4_15 + 1))), (1, rv E v1_15), (2, .int v2_15), (3, .int v3_15), (5, .int v5_15), (0, rv E (some o))]) hx hb dX6_planWaiting_49 hl (k := 3) rfl rfl (by decide) rfl (fun ls hl => ?_)
        refine lv_iinc (v := (v5_15 + 1)) (lv' := [(5, .int ((v5_15 + 1))), (4, .int ((v4_15 + 1))), (1, rv E v1_15), (2, .int v2_15), (3, .int v3_15), (0, rv E (some o))]) hx hb dX6_planWaiting_52 hl (k := 4) rfl rfl (by decide) rfl (fun ls hl => ?_)
        refine lv_goto (tgt := 15) hx hb dX6_planWaiting_55 (by decide) ?_
        exact ih v1_15 v2_15 v3_15 (v4_15 + 1) (v5_15 + 1) _ _ _ _ hH (lv_sub hl [2, 3, 4, 1, 0, 5] rfl) hf
set_option maxHeartbeats 4000000 in
set_option maxRecDepth 100000 in
theorem k_X6_planWaiting (l : Launch) (E : Ev) (K : Kd) (z : Nat) (o : Nat) (a_1 : Option Nat) (a_2 : Int32) (w : Wd) (ho : K o = some (5, 0)) {r : Int32} {w' : Wd} (hf : f_X6_planWaiting K o a_1 a_2 w = some (r, w')) : Met l yX6_planWaiting (Cond.code yX6_planWaiting cX6_planWaiting 6 (Option.some Jvm.ClassFile.FieldType.int) :: bt) ({ frames := 5, cells := 0, slots := 0, locals := 128 } : Room) (va_Pc [rv E (some o), rv E a_1, .int a_2] (HB E K w z)) (QI E K z w' r) 0 0 (hA E) := by
  refine Met.ofW (cc := cX6_planWaiting) (maxL := 6) (ret := (Option.some Jvm.ClassFile.FieldType.int)) (by decide) rfl ?_
  intro p e s m args below meth c s₁ B hml hv
  obtain ⟨rfl, hz, hP, hKs, hT, hb0⟩ := hv
  have C : CX p l e s m _ meth c cX6_planWaiting 6 RX6 (Option.some Jvm.ClassFile.FieldType.int) E := ⟨B.exec, B.bytes, hml, findClass_of_methodNamed B.named, fun w h => atoms_spec (ws := Cond.code yX6_planWaiting cX6_planWaiting 6 (Option.some Jvm.ClassFile.FieldType.int) :: bt) B.pre w (List.mem_cons_of_mem _ h), hKs, hT, by rw [hz]; exact hb0, B.notSynchronized, B.returns⟩
  have hH : HQ E K z w s s.heap [] := ⟨hP, va_S.rf, hz⟩
  obtain ⟨hx, hb, hml, hown, hts, hKs, hT, hb0, hlocks, hret⟩ := id C
  have hl := lv_entry [rv E (some o), rv E a_1, .int a_2] (n := 6) (by simp [lg_len_nil, lg_len_i, lg_len_j, lg_len_q, lg_len_f, lg_len_d, lg_len_r])
  rw [lg_entry_eq]
  generalize (lg_sl [rv E (some o), rv E a_1, .int a_2] ++ List.replicate (6 - (lg_sl [rv E (some o), rv E a_1, .int a_2]).length) Slot.unset).toArray = ls at hl ⊢
  replace hl : lv_has ls 6 [(0, rv E (some o)), (1, rv E a_1), (2, .int a_2)] := by simpa only [lv_args, cat_q, cat_i, cat_j, reduceIte, Nat.reduceEqDiff, Nat.reduceAdd, Nat.zero_add] using hl
  generalize s.heap = H at hH ⊢
  unfold f_X6_planWaiting at hf
  refine hl_aload_n hx hb dX6_planWaiting_0 rfl (lv_at hl 1 rfl) ?_
  refine hl_aload_n hx hb dX6_planWaiting_1 rfl (lv_at hl 0 rfl) ?_
  refine g6_3 hx hb hts hown hKs hH rfl ho m2_151 dX6_planWaiting_2 ?_
  obtain ⟨a1, ha1, hf⟩ := bnd hf
  replace ha1 := chk_some ha1
  obtain ⟨q2, hq2, hf⟩ := bnd hf
  refine hcV_i hx hb hml hown hts hKs hT hb0 hH (As := [rv E (wR w 603 o)]) (rest := []) (k_X10_sortWaiting l E K H.size a1 (wR w 603 o) w ha1.2 hq2) (gV m3_164 m3_165 m3_166 m1_12 m3_167) hd_X10_sortWaiting ⟨Nat.le_of_ble_eq_true rfl, Nat.le_of_ble_eq_true rfl, rfl, rfl⟩ ha1.1 ha1.2 rfl rfl rfl hl.1 rfl rc0 rfl dX6_planWaiting_5 ⟨Nat.zero_le _, Nat.zero_le _⟩ (fun H locs hH => ?_)
  refine lv_istore_n (i := 3) (lv' := [(3, .int (q2.1)), (0, rv E (some o)), (1, rv E a_1), (2, .int a_2)]) hx hb dX6_planWaiting_8 rfl hl (by decide) rfl (fun ls hl => ?_)
  refine lv_iconst (v := 0) hx hb dX6_planWaiting_9 (by decide) ?_
  refine lv_istore (i := 4) (lv' := [(4, .int 0), (3, .int (q2.1)), (0, rv E (some o)), (1, rv E a_1), (2, .int a_2)]) hx hb dX6_planWaiting_10 hl (by decide) rfl (fun ls hl => ?_)
  refine lv_iconst (v := 0) hx hb dX6_planWaiting_12 (by decide) ?_
  refine lv_istore (i := 5) (lv' := [(5, .int 0), (4, .int 0), (3, .int (q2.1)), (0, rv E (some o)), (1, rv E a_1), (2, .int a_2)]) hx hb dX6_planWaiting_13 hl (by decide) rfl (fun ls hl => ?_)
  refine l_X6_planWaiting_L15  C ho _ (fun v1_15 v2_15 v3_15 v4_15 v5_15 w3 H locs ls hH hl hf => ?_) fu a_1 a_2 q2.1 0 0 q2.2 _ _ _ hH (lv_sub hl [4, 5, 2, 1, 0, 3] rfl) hf
  refine lv_iload hx hb dX6_planWaiting_58 (lv_at hl 3 rfl) ?_
  exact hw_iret hx hb hret hf hH hlocks dX6_planWaiting_60

theorem dL_feed_0 : decode cL_feed 0 = .ok (.iconst 0, 1) := by decide +kernel
theorem dL_feed_1 : decode cL_feed 1 = .ok (.istore_n 2, 1) := by decide +kernel
theorem dL_feed_2 : decode cL_feed 2 = .ok (.iload_n 2, 1) := by decide +kernel
theorem dL_feed_3 : decode cL_feed 3 = .ok (.aload_n 1, 1) := by decide +kernel
theorem dL_feed_4 : decode cL_feed 4 = .ok (.invokevirtual 15, 3) := by decide +kernel
theorem dL_feed_7 : decode cL_feed 7 = .ok (.if_icmp .ge 93, 3) := by decide +kernel
theorem dL_feed_10 : decode cL_feed 10 = .ok (.iconst 5, 1) := by decide +kernel
theorem dL_feed_11 : decode cL_feed 11 = .ok (.newarray .int, 2) := by decide +kernel
theorem dL_feed_13 : decode cL_feed 13 = .ok (.astore_n 3, 1) := by decide +kernel
theorem dL_feed_14 : decode cL_feed 14 = .ok (.iconst 0, 1) := by decide +kernel
theorem dL_feed_15 : decode cL_feed 15 = .ok (.istore 4, 2) := by decide +kernel
theorem dL_feed_17 : decode cL_feed 17 = .ok (.iload 4, 2) := by decide +kernel
theorem dL_feed_19 : decode cL_feed 19 = .ok (.bipush 20, 2) := by decide +kernel
theorem dL_feed_21 : decode cL_feed 21 = .ok (.if_icmp .ge 53, 3) := by decide +kernel
theorem dL_feed_24 : decode cL_feed 24 = .ok (.aload_n 3, 1) := by decide +kernel
theorem dL_feed_25 : decode cL_feed 25 = .ok (.iload 4, 2) := by decide +kernel
theorem dL_feed_27 : decode cL_feed 27 = .ok (.iconst 4, 1) := by decide +kernel
theorem dL_feed_28 : decode cL_feed 28 = .ok (.idiv, 1) := by decide +kernel
theorem dL_feed_29 : decode cL_feed 29 = .ok (.dup2, 1) := by decide +kernel
theorem dL_feed_30 : decode cL_feed 30 = .ok (.iaload, 1) := by decide +kernel
theorem dL_feed_31 : decode cL_feed 31 = .ok (.iload_n 2, 1) := by decide +kernel
theorem dL_feed_32 : decode cL_feed 32 = .ok (.iload 4, 2) := by decide +kernel
theorem dL_feed_34 : decode cL_feed 34 = .ok (.iadd, 1) := by decide +kernel
theorem dL_feed_35 : decode cL_feed 35 = .ok (.aload_n 1, 1) := by decide +kernel
theorem dL_feed_36 : decode cL_feed 36 = .ok (.invokevirtual 15, 3) := by decide +kernel
theorem dL_feed_39 : decode cL_feed 39 = .ok (.if_icmp .ge 14, 3) := by decide +kernel
theorem dL_feed_42 : decode cL_feed 42 = .ok (.aload_n 1, 1) := by decide +kernel
theorem dL_feed_43 : decode cL_feed 43 = .ok (.iload_n 2, 1) := by decide +kernel
theorem dL_feed_44 : decode cL_feed 44 = .ok (.iload 4, 2) := by decide +kernel
theorem dL_feed_46 : decode cL_feed 46 = .ok (.iadd, 1) := by decide +kernel
theorem dL_feed_47 : decode cL_feed 47 = .ok (.invokevirtual 21, 3) := by decide +kernel
theorem dL_feed_50 : decode cL_feed 50 = .ok (.goto 5, 3) := by decide +kernel
theorem dL_feed_53 : decode cL_feed 53 = .ok (.bipush 32, 2) := by decide +kernel
theorem dL_feed_55 : decode cL_feed 55 = .ok (.bipush 24, 2) := by decide +kernel
theorem dL_feed_57 : decode cL_feed 57 = .ok (.bipush 8, 2) := by decide +kernel
theorem dL_feed_59 : decode cL_feed 59 = .ok (.iload 4, 2) := by decide +kernel
theorem dL_feed_61 : decode cL_feed 61 = .ok (.iconst 4, 1) := by decide +kernel
theorem dL_feed_62 : decode cL_feed 62 = .ok (.irem, 1) := by decide +kernel
theorem dL_feed_63 : decode cL_feed 63 = .ok (.imul, 1) := by decide +kernel
theorem dL_feed_64 : decode cL_feed 64 = .ok (.isub, 1) := by decide +kernel
theorem dL_feed_65 : decode cL_feed 65 = .ok (.ishl, 1) := by decide +kernel
theorem dL_feed_66 : decode cL_feed 66 = .ok (.ior, 1) := by decide +kernel
theorem dL_feed_67 : decode cL_feed 67 = .ok (.iastore, 1) := by decide +kernel
theorem dL_feed_68 : decode cL_feed 68 = .ok (.iinc 4 1, 3) := by decide +kernel
theorem dL_feed_71 : decode cL_feed 71 = .ok (.goto (-54), 3) := by decide +kernel
theorem dL_feed_74 : decode cL_feed 74 = .ok (.aload_n 0, 1) := by decide +kernel
theorem dL_feed_75 : decode cL_feed 75 = .ok (.aload_n 3, 1) := by decide +kernel
theorem dL_feed_76 : decode cL_feed 76 = .ok (.iconst 0, 1) := by decide +kernel
theorem dL_feed_77 : decode cL_feed 77 = .ok (.iaload, 1) := by decide +kernel
theorem dL_feed_78 : decode cL_feed 78 = .ok (.aload_n 3, 1) := by decide +kernel
theorem dL_feed_79 : decode cL_feed 79 = .ok (.iconst 1, 1) := by decide +kernel
theorem dL_feed_80 : decode cL_feed 80 = .ok (.iaload, 1) := by decide +kernel
theorem dL_feed_81 : decode cL_feed 81 = .ok (.aload_n 3, 1) := by decide +kernel
theorem dL_feed_82 : decode cL_feed 82 = .ok (.iconst 2, 1) := by decide +kernel
theorem dL_feed_83 : decode cL_feed 83 = .ok (.iaload, 1) := by decide +kernel
theorem dL_feed_84 : decode cL_feed 84 = .ok (.aload_n 3, 1) := by decide +kernel
theorem dL_feed_85 : decode cL_feed 85 = .ok (.iconst 3, 1) := by decide +kernel
theorem dL_feed_86 : decode cL_feed 86 = .ok (.iaload, 1) := by decide +kernel
theorem dL_feed_87 : decode cL_feed 87 = .ok (.aload_n 3, 1) := by decide +kernel
theorem dL_feed_88 : decode cL_feed 88 = .ok (.iconst 4, 1) := by decide +kernel
theorem dL_feed_89 : decode cL_feed 89 = .ok (.iaload, 1) := by decide +kernel
theorem dL_feed_90 : decode cL_feed 90 = .ok (.invokevirtual 25, 3) := by decide +kernel
theorem dL_feed_93 : decode cL_feed 93 = .ok (.pop, 1) := by decide +kernel
theorem dL_feed_94 : decode cL_feed 94 = .ok (.iinc 2 20, 3) := by decide +kernel
theorem dL_feed_97 : decode cL_feed 97 = .ok (.goto (-95), 3) := by decide +kernel
theorem dL_feed_100 : decode cL_feed 100 = .ok (.aload_n 0, 1) := by decide +kernel
theorem dL_feed_101 : decode cL_feed 101 = .ok (.aload_n 1, 1) := by decide +kernel
theorem dL_feed_102 : decode cL_feed 102 = .ok (.invokevirtual 15, 3) := by decide +kernel
theorem dL_feed_105 : decode cL_feed 105 = .ok (.invokevirtual 31, 3) := by decide +kernel
theorem dL_feed_108 : decode cL_feed 108 = .ok (.pop, 1) := by decide +kernel
theorem dL_feed_109 : decode cL_feed 109 = .ok (.return_, 1) := by decide +kernel
theorem hs_L_feed : yL_feed.cls ≠ "java/lang/invoke/MethodHandle" ∧ yL_feed.cls ≠ "java/lang/invoke/VarHandle" ∧ (parseMethodDescriptor yL_feed.desc).map (fun d => d.parameters.length) = some 2 := by decide +kernel
set_option maxHeartbeats 4000000 in
set_option maxRecDepth 100000 in
theorem l_L_feed_L17 (C : CX p l e s m args meth c cL_feed 5 RL (Option.none : Option Jvm.ClassFile.FieldType) E) {cells slots : Nat} {Q : State → Prop} (hcc : cells ≤ 60 ∧ slots ≤ 300) {w' : Int32 × Option Nat × Option Nat × Wd} (k : Option Nat → Option Nat → Int32 → Option Nat → Int32 → Wd → Option (Int32 × Option Nat × Option Nat × Wd)) (hk : ∀ (v0_17 : Option Nat) (v1_17 : Option Nat) (v2_17 : Int32) (v3_17 : Option Nat) (v4_17 : Int32) (w : Wd) (H : Heap) (locs : List Loc) (ls : Array Slot), HQ E K z w s H locs → lv_has ls 5 [(0, rv E v0_17), (1, rv E v1_17), (2, .int v2_17), (3, rv E v3_17), (4, .int v4_17)] → k v0_17 v1_17 v2_17 v3_17 v4_17 w = some w' → W p l e ({ frames := 4, cells := 60, slots := 300, locals := 85 } : Room) s m args below meth c H locs cells slots Q (F0 m 74 ls [])) : ∀ (n : Nat) (v0_17 : Option Nat) (v1_17 : Option Nat) (v2_17 : Int32) (v3_17 : Option Nat) (v4_17 : Int32) (w : Wd) (H : Heap) (locs : List Loc) (ls : Array Slot), HQ E K z w s H locs → lv_has ls 5 [(0, rv E v0_17), (1, rv E v1_17), (2, .int v2_17), (3, rv E v3_17), (4, .int v4_17)] → f_L_feed_L17 K k n v0_17 v1_17 v2_17 v3_17 v4_17 w = some w' → W p l e ({ frames := 4, cells := 60, slots := 300, locals := 85 } : Room) s m args below meth c H locs cells slots Q (F0 m 17 ls []) := by
  obtain ⟨hx, hb, hml, hown, hts, hKs, hT, hb0, hlocks, hret⟩ := id C
  intro n
  induction n with
  | zero =>
    intro v0_17 v1_17 v2_17 v3_17 v4_17 w H locs ls hH hl hf
    cases hf
  | succ n ih =>
    intro v0_17 v1_17 v2_17 v3_17 v4_17 w H locs ls hH hl hf
    rw [f_L_feed_L17] at hf
    refine lv_iload hx hb dL_feed_17 (lv_at hl 4 rfl) ?_
    refine lv_bipush (v := 20) hx hb dL_feed_19 (by decide) ?_
    refine lv_icmp_ge (tgt := 74) hx hb dL_feed_21 (by decide) (fun c3 => ?_) (fun c3 => ?_)
    · replace hf := (if_pos c3).symm.trans hf
      exact hk v0_17 v1_17 v2_17 v3_17 v4_17 _ _ _ _ hH (lv_sub hl [0, 1, 2, 3, 4] rfl) hf
    · replace hf := (if_neg c3).symm.trans hf
      refine hl_aload_n hx hb dL_feed_24 rfl (lv_at hl 3 rfl) ?_
      refine lv_iload hx hb dL_feed_25 (lv_at hl 4 rfl) ?_
      refine lv_iconst (v := 4) hx hb dL_feed_27 (by decide) ?_
      refine lv_idiv hx hb dL_feed_28 (by decide) ?_
      refine lv_dup2_11 hx hb dL_feed_29 rfl rv_cat ?_
      obtain ⟨a4, ha4, hf⟩ := bnd hf
      replace ha4 := cha_some ha4
      obtain ⟨j5, hj5, hf⟩ := bnd hf
      refine hw_iald hx hb hKs hH ha4.1 ha4.2 hj5 dL_feed_30 ?_
      refine lv_iload_n hx hb dL_feed_31 rfl (lv_at hl 2 rfl) ?_
      refine lv_iload hx hb dL_feed_32 (lv_at hl 4 rfl) ?_
      refine lv_iadd hx hb dL_feed_34 ?_
      refine hl_aload_n hx hb dL_feed_35 rfl (lv_at hl 1 rfl) ?_
      obtain ⟨a6, ha6, hf⟩ := bnd hf
      replace ha6 := chk_some ha6
      obtain ⟨q7, hq7, hf⟩ := bnd hf
      refine hcG_i hH (hrV (As := []) (rest := [.int ((v2_17 + v4_17)), .int ((aI w a4.1 j5)), .int ((v4_17 / 4)), rv E v3_17]) ha6.1 ⟨hx, hb, hml, hown, hts⟩ (k_J0_length_8abf5 l E K H.size a6 w ha6.2 hq7) (cwV _ hts (gV m4_73 m4_74 m4_75 m1_18 m4_76) rfl rfl rfl hd_J0_length_8abf5 ⟨Nat.le_of_ble_eq_true rfl, Nat.le_of_ble_eq_true rfl⟩) ⟨HB.blind, hH.1.recv hKs ha6.2 rfl rfl, HB.pre hKs hT hb0 hH⟩ rfl hl.1 rfl (rcI (rcI (rcI (rcV rc0)))) dL_feed_36 ⟨hcc.1, hcc.2⟩) (fun H locs hH => ?_)
      refine lv_icmp_ge (tgt := 53) hx hb dL_feed_39 (by decide) (fun c8 => ?_) (fun c8 => ?_)
      · replace hf := (if_pos c8).symm.trans hf
        refine lv_bipush (v := 32) hx hb dL_feed_53 (by decide) ?_
        refine lv_bipush (v := 24) hx hb dL_feed_55 (by decide) ?_
        refine lv_bipush (v := 8) hx hb dL_feed_57 (by decide) ?_
        refine lv_iload hx hb dL_feed_59 (lv_at hl 4 rfl) ?_
        refine lv_iconst (v := 4) hx hb dL_feed_61 (by decide) ?_
        refine lv_irem hx hb dL_feed_62 (by decide) ?_
        refine lv_imul hx hb dL_feed_63 ?_
        refine lv_isub hx hb dL_feed_64 ?_
        refine lv_ishl hx hb dL_feed_65 ?_
        refine lv_ior hx hb dL_feed_66 ?_
        obtain ⟨j9, hj9, hf⟩ := bnd hf
        obtain ⟨w10, hw10, hf⟩ := bnd hf
        replace hw10 := Option.some.inj hw10
        refine hw_iast (x := ((aI w a4.1 j5) ||| (32 <<< ((24 - (8 * (v4_17 - v4_17 / 4 * 4))) &&& 31)))) hx hb hKs hH ha4.1 ha4.2 hj9 dL_feed_67 (fun H locs hH => ?_)
        rw [hw10] at hH
        refine lv_iinc (v := (v4_17 + 1)) (lv' := [(4, .int ((v4_17 + 1))), (0, rv E v0_17), (1, rv E v1_17), (2, .int v2_17), (3, rv E v3_17)]) hx hb dL_feed_68 hl (k := 4) rfl rfl (by decide) (by simp [List.filter_cons, cat_q, cat_i, cat_j, imax, imin]) (fun ls hl => ?_)
        refine lv_goto (tgt := 17) hx hb dL_feed_71 (by decide) ?_
        exact ih v0_17 v1_17 v2_17 v3_17 (v4_17 + 1) _ _ _ _ hH (lv_sub hl [1, 2, 3, 4, 0] rfl) hf
      · replace hf := (if_neg c8).symm.trans hf
        refine hl_aload_n hx hb dL_feed_42 rfl (lv_at hl 1 rfl) ?_
        refine lv_iload_n hx hb dL_feed_43 rfl (lv_at hl 2 rfl) ?_
        refine lv_iload hx hb dL_feed_44 (lv_at hl 4 rfl) ?_
        refine lv_iadd hx hb dL_feed_46 ?_
        obtain ⟨q11, hq11, hf⟩ := bnd hf
        refine hcG_i hH (hrV (As := [.int ((v2_17 + v4_17))]) (rest := [.int ((aI w a4.1 j5)), .int ((v4_17 / 4)), rv E v3_17]) ha6.1 ⟨hx, hb, hml, hown, hts⟩ (k_J0_charAt_5068e l E K H.size a6 (v2_17 + v4_17) q7.2 ha6.2 hq11) (cwV _ hts (gV m4_83 m4_84 m4_85 m1_18 m4_86) rfl rfl rfl hd_J0_charAt_5068e ⟨Nat.le_of_ble_eq_true rfl, Nat.le_of_ble_eq_true rfl⟩) ⟨HB.blind, hH.1.recv hKs ha6.2 rfl rfl, HB.pre hKs hT hb0 hH⟩ rfl hl.1 rfl (rcI (rcI (rcV rc0))) dL_feed_47 ⟨hcc.1, hcc.2⟩) (fun H locs hH => ?_)
        refine lv_goto (tgt := 55) hx hb dL_feed_50 (by decide) ?_
        refine lv_bipush (v := 24) hx hb dL_feed_55 (by decide) ?_
        refine lv_bipush (v := 8) hx hb dL_feed_57 (by decide) ?_
        refine lv_iload hx hb dL_feed_59 (lv_at hl 4 rfl) ?_
        refine lv_iconst (v := 4) hx hb dL_feed_61 (by decide) ?_
        refine lv_irem hx hb dL_feed_62 (by decide) ?_
        refine lv_imul hx hb dL_feed_63 ?_
        refine lv_isub hx hb dL_feed_64 ?_
        refine lv_ishl hx hb dL_feed_65 ?_
        refine lv_ior hx hb dL_feed_66 ?_
        obtain ⟨j12, hj12, hf⟩ := bnd hf
        obtain ⟨w13, hw13, hf⟩ := bnd hf
        replace hw13 := Option.some.inj hw13
        refine hw_iast (x := ((aI w a4.1 j5) ||| (q11.1 <<< ((24 - (8 * (v4_17 - v4_17 / 4 * 4))) &&& 31)))) hx hb hKs hH ha4.1 ha4.2 hj12 dL_feed_67 (fun H locs hH => ?_)
        rw [hw13] at hH
        refine lv_iinc (v := (v4_17 + 1)) (lv' := [(4, .int ((v4_17 + 1))), (0, rv E v0_17), (1, rv E v1_17), (2, .int v2_17), (3, rv E v3_17)]) hx hb dL_feed_68 hl (k := 4) rfl rfl (by decide) (by simp [List.filter_cons, cat_q, cat_i, cat_j, imax, imin]) (fun ls hl => ?_)
        refine lv_goto (tgt := 17) hx hb dL_feed_71 (by decide) ?_
        exact ih v0_17 v1_17 v2_17 v3_17 (v4_17 + 1) _ _ _ _ hH (lv_sub hl [1, 2, 3, 4, 0] rfl) hf
set_option maxHeartbeats 4000000 in
set_option maxRecDepth 100000 in
theorem l_L_feed_it (C : CX p l e s m args meth c cL_feed 5 RL (Option.none : Option Jvm.ClassFile.FieldType) E) {cells slots : Nat} {Q : State → Prop} (hcc : cells + 1 ≤ 60 ∧ slots + 5 ≤ 300) {n : Nat} {v0 v1 : Option Nat} {v2 : Int32} {w : Wd} {r9 : Int32 × Option Nat × Option Nat × Wd} {H : Heap} {locs : List Loc} {ls : Array Slot} (hk : ∀ (H : Heap) (locs : List Loc) (ls : Array Slot), HQ E K (E.2.1 + (n + 1)) r9.2.2.2 s H locs → lv_has ls 5 [(2, .int r9.1), (1, rv E r9.2.1), (0, rv E r9.2.2.1)] → W p l e ({ frames := 4, cells := 60, slots := 300, locals := 85 } : Room) s m args below meth c H locs (cells + 1) (slots + 5) Q (F0 m 2 ls [])) (hH : HQ E K (E.2.1 + n) w s H locs) (hl : lv_has ls 5 [(2, .int v2), (1, rv E v1), (0, rv E v0)]) (hf : f_L_feed_it K n v0 v1 v2 w = some r9) : W p l e ({ frames := 4, cells := 60, slots := 300, locals := 85 } : Room) s m args below meth c H locs cells slots Q (F0 m 10 ls []) := by
  obtain ⟨hx, hb, hml, hown, hts, hKs, hT, hb0, hlocks, hret⟩ := id C
  have hn9 := hq_new hH
  unfold f_L_feed_it at hf
  refine lv_iconst (v := 5) hx hb dL_feed_10 (by decide) ?_
  refine hw_newa20 (N := 5) hx hb hts m1_67 hKs hH (by decide) (by decide) (Nat.le_of_ble_eq_true rfl) hcc.1 hcc.2 dL_feed_11 (fun H hH => ?_)
  obtain ⟨w1, hw1, hf⟩ := bnd hf
  replace hw1 := Option.some.inj hw1
  rw [hw1] at hH
  refine hl_astore_n (i := 3) (lv' := [(3, rv E (some n)), (2, .int v2), (1, rv E v1), (0, rv E v0)]) hx hb dL_feed_13 rfl hl (by decide) rfl (fun ls hl => ?_)
  refine lv_iconst (v := 0) hx hb dL_feed_14 (by decide) ?_
  refine lv_istore (i := 4) (lv' := [(4, .int 0), (3, rv E (some n)), (2, .int v2), (1, rv E v1), (0, rv E v0)]) hx hb dL_feed_15 hl (by decide) (by simp [List.filter_cons, cat_q, cat_i, cat_j, imax, imin]) (fun ls hl => ?_)
  refine l_L_feed_L17  C hcc _ (fun v0_17 v1_17 v2_17 v3_17 v4_17 w2 H locs ls hH hl hf => ?_) fu v0 v1 v2 (some n) 0 w1 _ _ _ hH (lv_sub hl [4, 3, 2, 1, 0] rfl) hf
  refine hl_aload_n hx hb dL_feed_74 rfl (lv_at hl 0 rfl) ?_
  refine hl_aload_n hx hb dL_feed_75 rfl (lv_at hl 3 rfl) ?_
  refine lv_iconst (v := 0) hx hb dL_feed_76 (by decide) ?_
  obtain ⟨a14, ha14, hf⟩ := bnd hf
  replace ha14 := cha_some ha14
  obtain ⟨j15, hj15, hf⟩ := bnd hf
  refine hw_iald hx hb hKs hH ha14.1 ha14.2 hj15 dL_feed_77 ?_
  refine hl_aload_n hx hb dL_feed_78 rfl (lv_at hl 3 rfl) ?_
  refine lv_iconst (v := 1) hx hb dL_feed_79 (by decide) ?_
  obtain ⟨j16, hj16, hf⟩ := bnd hf
  refine hw_iald hx hb hKs hH ha14.1 ha14.2 hj16 dL_feed_80 ?_
  refine hl_aload_n hx hb dL_feed_81 rfl (lv_at hl 3 rfl) ?_
  refine lv_iconst (v := 2) hx hb dL_feed_82 (by decide) ?_
  obtain ⟨j17, hj17, hf⟩ := bnd hf
  refine hw_iald hx hb hKs hH ha14.1 ha14.2 hj17 dL_feed_83 ?_
  refine hl_aload_n hx hb dL_feed_84 rfl (lv_at hl 3 rfl) ?_
  refine lv_iconst (v := 3) hx hb dL_feed_85 (by decide) ?_
  obtain ⟨j18, hj18, hf⟩ := bnd hf
  refine hw_iald hx hb hKs hH ha14.1 ha14.2 hj18 dL_feed_86 ?_
  refine hl_aload_n hx hb dL_feed_87 rfl (lv_at hl 3 rfl) ?_
  refine lv_iconst (v := 4) hx hb dL_feed_88 (by decide) ?_
  obtain ⟨j19, hj19, hf⟩ := bnd hf
  refine hw_iald hx hb hKs hH ha14.1 ha14.2 hj19 dL_feed_89 ?_
  obtain ⟨a20, ha20, hf⟩ := bnd hf
  replace ha20 := chk_some ha20
  obtain ⟨q21, hq21, hf⟩ := bnd hf
  refine hcV_i hx hb hml hown hts hKs hT hb0 hH (As := [.int ((aI w2 a14.1 j15)), .int ((aI w2 a14.1 j16)), .int ((aI w2 a14.1 j17)), .int ((aI w2 a14.1 j18)), .int ((aI w2 a14.1 j19))]) (rest := []) (k_X12_feed l E (kup K n (20, 5)) H.size a20 (aI w2 a14.1 j15) (aI w2 a14.1 j16) (aI w2 a14.1 j17) (aI w2 a14.1 j18) (aI w2 a14.1 j19) w2 ha20.2 hq21) (gV m4_121 m4_122 m4_123 m1_1 m4_124) hd_X12_feed ⟨Nat.le_of_ble_eq_true rfl, Nat.le_of_ble_eq_true rfl, rfl, rfl⟩ ha20.1 ha20.2 rfl rfl rfl hl.1 rfl rc0 rfl dL_feed_90 ⟨hcc.1, hcc.2⟩ (fun H locs hH => ?_)
  refine lv_pop hx hb dL_feed_93 rfl ?_
  refine lv_iinc (v := (v2_17 + 20)) (lv' := [(2, .int ((v2_17 + 20))), (0, rv E v0_17), (1, rv E v1_17), (3, rv E v3_17), (4, .int v4_17)]) hx hb dL_feed_94 hl (k := 2) rfl rfl (by decide) (by simp [List.filter_cons, cat_q, cat_i, cat_j, imax, imin]) (fun ls hl => ?_)
  refine lv_goto (tgt := 2) hx hb dL_feed_97 (by decide) ?_
  cases hf
  exact hk _ _ _ (hq_drop hn9 hH) (lv_sub hl [0, 2, 1] rfl)
set_option maxHeartbeats 4000000 in
set_option maxRecDepth 100000 in
theorem l_L_feed_L2 (C : CX p l e s m args meth c cL_feed 5 RL (Option.none : Option Jvm.ClassFile.FieldType) E) {w' : Wd} : ∀ (m9 : Nat) {cells slots : Nat}, cells + m9 ≤ 59 → slots + 5 * m9 ≤ 295 → ∀ (n : Nat) (v0 v1 : Option Nat) (v2 : Int32) (w : Wd) (H : Heap) (locs : List Loc) (ls : Array Slot), HQ E K (E.2.1 + n) w s H locs → lv_has ls 5 [(2, .int v2), (1, rv E v1), (0, rv E v0)] → f_L_feed_L2 K m9 n v0 v1 v2 w = some w' → W p l e ({ frames := 4, cells := 60, slots := 300, locals := 85 } : Room) s m args below meth c H locs cells slots (MQ below (QWv E K w') args s 60 300 (hA E)) (F0 m 2 ls []) := by
  obtain ⟨hx, hb, hml, hown, hts, hKs, hT, hb0, hlocks, hret⟩ := id C
  intro m9
  induction m9 with
  | zero => intro cells slots h1 h2 n v0 v1 v2 w H locs ls hH hl hf; cases hf
  | succ m9 ih =>
    intro cells slots h1 h2 n v0 v1 v2 w H locs ls hH hl hf
    have hcc : cells ≤ 60 ∧ slots ≤ 300 := ⟨by omega, by omega⟩
    rw [f_L_feed_L2] at hf
    refine lv_iload_n hx hb dL_feed_2 rfl (lv_at hl 0 rfl) ?_
    refine hl_aload_n hx hb dL_feed_3 rfl (lv_at hl 1 rfl) ?_
    obtain ⟨a22, ha22, hf⟩ := bnd hf
    replace ha22 := chk_some ha22
    obtain ⟨q23, hq23, hf⟩ := bnd hf
    refine hcG_i hH (hrV (As := []) (rest := [.int v2]) ha22.1 ⟨hx, hb, hml, hown, hts⟩ (k_J0_length_8abf5 l E K H.size a22 w ha22.2 hq23) (cwV _ hts (gV m4_73 m4_74 m4_75 m1_18 m4_76) rfl rfl rfl hd_J0_length_8abf5 ⟨Nat.le_of_ble_eq_true rfl, Nat.le_of_ble_eq_true rfl⟩) ⟨HB.blind, hH.1.recv hKs ha22.2 rfl rfl, HB.pre hKs hT hb0 hH⟩ rfl hl.1 rfl (rcI rc0) dL_feed_4 ⟨hcc.1, hcc.2⟩) (fun H locs hH => ?_)
    refine lv_icmp_ge (tgt := 100) hx hb dL_feed_7 (by decide) (fun c24 => ?_) (fun c24 => ?_)
    · replace hf := (if_pos c24).symm.trans hf
      refine hl_aload_n hx hb dL_feed_100 rfl (lv_at hl 2 rfl) ?_
      refine hl_aload_n hx hb dL_feed_101 rfl (lv_at hl 1 rfl) ?_
      obtain ⟨q25, hq25, hf⟩ := bnd hf
      refine hcG_i hH (hrV (As := []) (rest := [rv E v0]) ha22.1 ⟨hx, hb, hml, hown, hts⟩ (k_J0_length_8abf5 l E K H.size a22 q23.2 ha22.2 hq25) (cwV _ hts (gV m4_73 m4_74 m4_75 m1_18 m4_76) rfl rfl rfl hd_J0_length_8abf5 ⟨Nat.le_of_ble_eq_true rfl, Nat.le_of_ble_eq_true rfl⟩) ⟨HB.blind, hH.1.recv hKs ha22.2 rfl rfl, HB.pre hKs hT hb0 hH⟩ rfl hl.1 rfl (rcV rc0) dL_feed_102 ⟨hcc.1, hcc.2⟩) (fun H locs hH => ?_)
      obtain ⟨a26, ha26, hf⟩ := bnd hf
      replace ha26 := chk_some ha26
      obtain ⟨q27, hq27, hf⟩ := bnd hf
      refine hcV_i hx hb hml hown hts hKs hT hb0 hH (As := [.int (q25.1)]) (rest := []) (k_X12_truncate l E K H.size a26 q25.1 q25.2 ha26.2 hq27) (gV m4_129 m4_130 m4_131 m1_1 m4_132) hd_X12_truncate ⟨Nat.le_of_ble_eq_true rfl, Nat.le_of_ble_eq_true rfl, rfl, rfl⟩ ha26.1 ha26.2 rfl rfl rfl hl.1 rfl rc0 rfl dL_feed_105 ⟨hcc.1, hcc.2⟩ (fun H locs hH => ?_)
      refine lv_pop hx hb dL_feed_108 rfl ?_
      exact hw_wretv hx hb hcc.1 hcc.2 hret hf hH hlocks dL_feed_109
    · replace hf := (if_neg c24).symm.trans hf
      obtain ⟨r9, hr9, hf⟩ := bnd hf
      exact l_L_feed_it C ⟨by omega, by omega⟩ (fun H locs ls hH hl => ih (by omega) (by omega) _ _ _ _ _ _ _ _ hH hl hf) hH hl hr9
set_option maxHeartbeats 4000000 in
set_option maxRecDepth 100000 in
theorem k_L_feed (l : Launch) (E : Ev) (K : Kd) (n : Nat) (a_0 a_1 : Option Nat) (w : Wd) {w' : Wd} (hf : f_L_feed K n a_0 a_1 w = some w') : Met l yL_feed (Cond.code yL_feed cL_feed 5 (Option.none : Option Jvm.ClassFile.FieldType) :: bt) ({ frames := 4, cells := 60, slots := 300, locals := 85 } : Room) (va_Pc [rv E a_0, rv E a_1] (HB E K w (E.2.1 + n))) (QWv E K w') 60 300 (hA E) := by
  refine Met.ofW (cc := cL_feed) (maxL := 5) (ret := (Option.none : Option Jvm.ClassFile.FieldType)) (by decide) rfl ?_
  intro p e s m args below meth c s₁ B hml hv
  obtain ⟨rfl, hz, hP, hKs, hT, hb0⟩ := hv
  have C : CX p l e s m _ meth c cL_feed 5 RL (Option.none : Option Jvm.ClassFile.FieldType) E := ⟨B.exec, B.bytes, hml, findClass_of_methodNamed B.named, fun w h => atoms_spec (ws := Cond.code yL_feed cL_feed 5 (Option.none : Option Jvm.ClassFile.FieldType) :: bt) B.pre w (List.mem_cons_of_mem _ h), hKs, hT, by rw [hz]; exact hb0, B.notSynchronized, B.returns⟩
  have hH : HQ E K (E.2.1 + n) w s s.heap [] := ⟨hP, va_S.rf, hz⟩
  obtain ⟨hx, hb, hml, hown, hts, hKs, hT, hb0, hlocks, hret⟩ := id C
  have hl := lv_entry [rv E a_0, rv E a_1] (n := 5) (by simp [lg_len_nil, lg_len_q])
  rw [lg_entry_eq]
  generalize (lg_sl [rv E a_0, rv E a_1] ++ List.replicate (5 - (lg_sl [rv E a_0, rv E a_1]).length) Slot.unset).toArray = ls at hl ⊢
  replace hl : lv_has ls 5 [(0, rv E a_0), (1, rv E a_1)] := by simpa only [lv_args, cat_q, reduceIte, Nat.reduceEqDiff, Nat.reduceAdd, Nat.zero_add] using hl
  generalize s.heap = H at hH ⊢
  unfold f_L_feed at hf
  refine lv_iconst (v := 0) hx hb dL_feed_0 (by decide) ?_
  refine lv_istore_n (i := 2) (lv' := [(2, .int 0), (0, rv E a_0), (1, rv E a_1)]) hx hb dL_feed_1 rfl hl (by decide) (by simp [List.filter_cons, cat_q, cat_i, cat_j, imax, imin]) (fun ls hl => ?_)
  exact l_L_feed_L2 C 59 (by decide) (by decide) _ _ _ _ _ _ _ _ hH (lv_sub hl [0, 2, 1] rfl) hf
end
