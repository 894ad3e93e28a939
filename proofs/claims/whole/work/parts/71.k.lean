section
variable {p : Program} {l : Launch} {e : Env} {s : State} {m : MethodId} {args : Array Value} {below : List Frame} {meth : Method} {c : Code} {E : Ev} {K : Kd} {z : Nat}

theorem dX6_lookAtOfficers_0 : decode cX6_lookAtOfficers 0 = .ok (.aload_n 0, 1) := by decide +kernel
theorem dX6_lookAtOfficers_1 : decode cX6_lookAtOfficers 1 = .ok (.aload_n 1, 1) := by decide +kernel
theorem dX6_lookAtOfficers_2 : decode cX6_lookAtOfficers 2 = .ok (.iload_n 2, 1) := by decide +kernel
theorem dX6_lookAtOfficers_3 : decode cX6_lookAtOfficers 3 = .ok (.invokevirtual 147, 3) := by decide +kernel
theorem dX6_lookAtOfficers_6 : decode cX6_lookAtOfficers 6 = .ok (.putfield 78, 3) := by decide +kernel
theorem dX6_lookAtOfficers_9 : decode cX6_lookAtOfficers 9 = .ok (.iconst 0, 1) := by decide +kernel
theorem dX6_lookAtOfficers_10 : decode cX6_lookAtOfficers 10 = .ok (.istore_n 3, 1) := by decide +kernel
theorem dX6_lookAtOfficers_11 : decode cX6_lookAtOfficers 11 = .ok (.iload_n 3, 1) := by decide +kernel
theorem dX6_lookAtOfficers_12 : decode cX6_lookAtOfficers 12 = .ok (.aload_n 1, 1) := by decide +kernel
theorem dX6_lookAtOfficers_13 : decode cX6_lookAtOfficers 13 = .ok (.getfield 24, 3) := by decide +kernel
theorem dX6_lookAtOfficers_16 : decode cX6_lookAtOfficers 16 = .ok (.iconst 1, 1) := by decide +kernel
theorem dX6_lookAtOfficers_17 : decode cX6_lookAtOfficers 17 = .ok (.invokevirtual 141, 3) := by decide +kernel
theorem dX6_lookAtOfficers_20 : decode cX6_lookAtOfficers 20 = .ok (.if_icmp .ge 20, 3) := by decide +kernel
theorem dX6_lookAtOfficers_23 : decode cX6_lookAtOfficers 23 = .ok (.aload_n 0, 1) := by decide +kernel
theorem dX6_lookAtOfficers_24 : decode cX6_lookAtOfficers 24 = .ok (.getfield 18, 3) := by decide +kernel
theorem dX6_lookAtOfficers_27 : decode cX6_lookAtOfficers 27 = .ok (.iload_n 3, 1) := by decide +kernel
theorem dX6_lookAtOfficers_28 : decode cX6_lookAtOfficers 28 = .ok (.aload_n 1, 1) := by decide +kernel
theorem dX6_lookAtOfficers_29 : decode cX6_lookAtOfficers 29 = .ok (.iload_n 3, 1) := by decide +kernel
theorem dX6_lookAtOfficers_30 : decode cX6_lookAtOfficers 30 = .ok (.invokevirtual 150, 3) := by decide +kernel
theorem dX6_lookAtOfficers_33 : decode cX6_lookAtOfficers 33 = .ok (.iastore, 1) := by decide +kernel
theorem dX6_lookAtOfficers_34 : decode cX6_lookAtOfficers 34 = .ok (.iinc 3 1, 3) := by decide +kernel
theorem dX6_lookAtOfficers_37 : decode cX6_lookAtOfficers 37 = .ok (.goto (-26), 3) := by decide +kernel
theorem dX6_lookAtOfficers_40 : decode cX6_lookAtOfficers 40 = .ok (.return_, 1) := by decide +kernel
theorem hd_X6_lookAtOfficers : yX6_lookAtOfficers.cls = RX6 ∧ yX6_lookAtOfficers.cls ≠ "java/lang/invoke/MethodHandle" ∧ yX6_lookAtOfficers.cls ≠ "java/lang/invoke/VarHandle" ∧ (parseMethodDescriptor yX6_lookAtOfficers.desc).map (fun d => d.parameters.length) = some 2 := by decide +kernel
theorem hs_X6_lookAtOfficers : yX6_lookAtOfficers.cls ≠ "java/lang/invoke/MethodHandle" ∧ yX6_lookAtOfficers.cls ≠ "java/lang/invoke/VarHandle" ∧ (parseMethodDescriptor yX6_lookAtOfficers.desc).map (fun d => d.parameters.length) = some 2 := by decide +kernel
set_option maxHeartbeats 4000000 in
set_option maxRecDepth 100000 in
theorem l_X6_lookAtOfficers_L11 (C : CX p l e s m args meth c cX6_lookAtOfficers 4 RX6 (Option.none : Option Jvm.ClassFile.FieldType) E) {o : Nat} (ho : K o = some (5, 0)) {w' : Wd} (k : Option Nat → Int32 → Int32 → Wd → Option Wd) (hk : ∀ (v1_11 : Option Nat) (v2_11 : Int32) (v3_11 : Int32) (w : Wd) (H : Heap) (locs : List Loc) (ls : Array Slot), HQ E K z w s H locs → lv_has ls 4 [(1, rv E v1_11), (2, .int v2_11), (3, .int v3_11), (0, rv E (some o))] → k v1_11 v2_11 v3_11 w = some w' → W p l e ({ frames := 2, cells := 0, slots := 0, locals := 45 } : Room) s m args below meth c H locs 0 0 (MQ below (QV E K z w') args s 0 0 (hA E)) (F0 m 40 ls [])) : ∀ (n : Nat) (v1_11 : Option Nat) (v2_11 : Int32) (v3_11 : Int32) (w : Wd) (H : Heap) (locs : List Loc) (ls : Array Slot), HQ E K z w s H locs → lv_has ls 4 [(1, rv E v1_11), (2, .int v2_11), (3, .int v3_11), (0, rv E (some o))] → f_X6_lookAtOfficers_L11 K o k n v1_11 v2_11 v3_11 w = some w' → W p l e ({ frames := 2, cells := 0, slots := 0, locals := 45 } : Room) s m args below meth c H locs 0 0 (MQ below (QV E K z w') args s 0 0 (hA E)) (F0 m 11 ls []) := by
  obtain ⟨hx, hb, hml, hown, hts, hKs, hT, hb0, hlocks, hret⟩ := id C
  intro n
  induction n with
  | zero =>
    intro v1_11 v2_11 v3_11 w H locs ls hH hl hf
    cases hf
  | succ n ih =>
    intro v1_11 v2_11 v3_11 w H locs ls hH hl hf
    rw [f_X6_lookAtOfficers_L11] at hf
    refine lv_iload_n hx hb dX6_lookAtOfficers_11 rfl (lv_at hl 2 rfl) ?_
    refine hl_aload_n hx hb dX6_lookAtOfficers_12 rfl (lv_at hl 0 rfl) ?_
    obtain ⟨a5, ha5, hf⟩ := bnd hf
    replace ha5 := chk_some ha5
    refine gn10_0 hx hb hts hown hKs hH ha5.1 ha5.2 m2_120 dX6_lookAtOfficers_13 ?_
    refine lv_iconst (v := 1) hx hb dX6_lookAtOfficers_16 (by decide) ?_
    obtain ⟨a6, ha6, hf⟩ := bnd hf
    replace ha6 := chk_some ha6
    obtain ⟨q7, hq7, hf⟩ := bnd hf
    refine hcV_i hx hb hml hown hts hKs hT hb0 hH (As := [.int 1]) (rest := [.int v3_11]) (k_X9_size l E K H.size a6 1 w ha6.2 hq7) (gV m4_124 m3_151 m3_152 m1_2 m3_153) hd_X9_size ⟨Nat.le_of_ble_eq_true rfl, Nat.le_of_ble_eq_true rfl, rfl, rfl⟩ ha6.1 ha6.2 rfl rfl rfl hl.1 rfl (rcI rc0) rfl dX6_lookAtOfficers_17 ⟨Nat.zero_le _, Nat.zero_le _⟩ (fun H locs hH => ?_)
    refine lv_icmp_ge (tgt := 40) hx hb dX6_lookAtOfficers_20 (by decide) (fun c8 => ?_) (fun c8 => ?_)
    · replace hf := (if_pos c8).symm.trans hf
      exact hk v1_11 v2_11 v3_11 _ _ _ _ hH (lv_sub hl [0, 1, 2, 3] rfl) hf
    · replace hf := (if_neg c8).symm.trans hf
      refine hl_aload_n hx hb dX6_lookAtOfficers_23 rfl (lv_at hl 3 rfl) ?_
      refine g6_2 hx hb hts hown hKs hH rfl ho m2_158 dX6_lookAtOfficers_24 ?_
      refine lv_iload_n hx hb dX6_lookAtOfficers_27 rfl (lv_at hl 2 rfl) ?_
      refine hl_aload_n hx hb dX6_lookAtOfficers_28 rfl (lv_at hl 0 rfl) ?_
      refine lv_iload_n hx hb dX6_lookAtOfficers_29 rfl (lv_at hl 2 rfl) ?_
      obtain ⟨q9, hq9, hf⟩ := bnd hf
      refine hcV_i hx hb hml hown hts hKs hT hb0 hH (As := [.int v3_11]) (rest := [.int v3_11, rv E (wR q7.2 602 o)]) (k_X10_loadOf l E K H.size a5 v3_11 q7.2 ha5.2 hq9) (gV m4_125 m4_126 m4_127 m1_12 m4_128) hd_X10_loadOf ⟨Nat.le_of_ble_eq_true rfl, Nat.le_of_ble_eq_true rfl, rfl, rfl⟩ ha5.1 ha5.2 rfl rfl rfl hl.1 rfl (rcI (rcV rc0)) rfl dX6_lookAtOfficers_30 ⟨Nat.zero_le _, Nat.zero_le _⟩ (fun H locs hH => ?_)
      obtain ⟨a10, ha10, hf⟩ := bnd hf
      replace ha10 := cha_some ha10
      obtain ⟨j11, hj11, hf⟩ := bnd hf
      obtain ⟨w12, hw12, hf⟩ := bnd hf
      replace hw12 := Option.some.inj hw12
      refine hw_iast (x := q9.1) hx hb hKs hH ha10.1 ha10.2 hj11 dX6_lookAtOfficers_33 (fun H locs hH => ?_)
      rw [hw12] at hH
      refine lv_iinc (v := (v3_11 + 1)) (lv' := [(3, .int ((v3_11 + 1))), (1, rv E v1_11), (2, .int v2_11), (0, rv E (some o))]) hx hb dX6_lookAtOfficers_34 hl (k := 2) rfl rfl (by decide) rfl (fun ls hl => ?_)
      refine lv_goto (tgt := 11) hx hb dX6_lookAtOfficers_37 (by decide) ?_
      exact ih v1_11 v2_11 (v3_11 + 1) _ _ _ _ hH (lv_sub hl [1, 2, 0, 3] rfl) hf
set_option maxHeartbeats 4000000 in
set_option maxRecDepth 100000 in
theorem k_X6_lookAtOfficers (l : Launch) (E : Ev) (K : Kd) (z : Nat) (o : Nat) (a_1 : Option Nat) (a_2 : Int32) (w : Wd) (ho : K o = some (5, 0)) {w' : Wd} (hf : f_X6_lookAtOfficers K o a_1 a_2 w = some w') : Met l yX6_lookAtOfficers (Cond.code yX6_lookAtOfficers cX6_lookAtOfficers 4 (Option.none : Option Jvm.ClassFile.FieldType) :: bt) ({ frames := 2, cells := 0, slots := 0, locals := 45 } : Room) (va_Pc [rv E (some o), rv E a_1, .int a_2] (HB E K w z)) (QV E K z w') 0 0 (hA E) := by
  refine Met.ofW (cc := cX6_lookAtOfficers) (maxL := 4) (ret := (Option.none : Option Jvm.ClassFile.FieldType)) (by decide) rfl ?_
  intro p e s m args below meth c s₁ B hml hv
  obtain ⟨rfl, hz, hP, hKs, hT, hb0⟩ := hv
  have C : CX p l e s m _ meth c cX6_lookAtOfficers 4 RX6 (Option.none : Option Jvm.ClassFile.FieldType) E := ⟨B.exec, B.bytes, hml, findClass_of_methodNamed B.named, fun w h => atoms_spec (ws := Cond.code yX6_lookAtOfficers cX6_lookAtOfficers 4 (Option.none : Option Jvm.ClassFile.FieldType) :: bt) B.pre w (List.mem_cons_of_mem _ h), hKs, hT, by rw [hz]; exact hb0, B.notSynchronized, B.returns⟩
  have hH : HQ E K z w s s.heap [] := ⟨hP, va_S.rf, hz⟩
  obtain ⟨hx, hb, hml, hown, hts, hKs, hT, hb0, hlocks, hret⟩ := id C
  have hl := lv_entry [rv E (some o), rv E a_1, .int a_2] (n := 4) (by simp [lg_len_nil, lg_len_i, lg_len_j, lg_len_q, lg_len_f, lg_len_d, lg_len_r])
  rw [lg_entry_eq]
  generalize (lg_sl [rv E (some o), rv E a_1, .int a_2] ++ List.replicate (4 - (lg_sl [rv E (some o), rv E a_1, .int a_2]).length) Slot.unset).toArray = ls at hl ⊢
  replace hl : lv_has ls 4 [(0, rv E (some o)), (1, rv E a_1), (2, .int a_2)] := by simpa only [lv_args, cat_q, cat_i, cat_j, reduceIte, Nat.reduceEqDiff, Nat.reduceAdd, Nat.zero_add] using hl
  generalize s.heap = H at hH ⊢
  unfold f_X6_lookAtOfficers at hf
  refine hl_aload_n hx hb dX6_lookAtOfficers_0 rfl (lv_at hl 0 rfl) ?_
  refine hl_aload_n hx hb dX6_lookAtOfficers_1 rfl (lv_at hl 1 rfl) ?_
  refine lv_iload_n hx hb dX6_lookAtOfficers_2 rfl (lv_at hl 2 rfl) ?_
  obtain ⟨a1, ha1, hf⟩ := bnd hf
  replace ha1 := chk_some ha1
  obtain ⟨q2, hq2, hf⟩ := bnd hf
  refine hcV_i hx hb hml hown hts hKs hT hb0 hH (As := [.int a_2]) (rest := [rv E (some o)]) (k_X10_barredOfficers l E K H.size a1 a_2 w ha1.2 hq2) (gV m4_119 m4_120 m4_121 m1_12 m4_122) hd_X10_barredOfficers ⟨Nat.le_of_ble_eq_true rfl, Nat.le_of_ble_eq_true rfl, rfl, rfl⟩ ha1.1 ha1.2 rfl rfl rfl hl.1 rfl (rcV rc0) rfl dX6_lookAtOfficers_3 ⟨Nat.zero_le _, Nat.zero_le _⟩ (fun H locs hH => ?_)
  obtain ⟨w3, hw3, hf⟩ := bnd hf
  replace hw3 := Option.some.inj hw3
  refine p6_4 (v := q2.1) hx hb hts hown hKs hH rfl ho m2_160 dX6_lookAtOfficers_6 (fun H locs hH => ?_)
  rw [hw3] at hH
  refine lv_iconst (v := 0) hx hb dX6_lookAtOfficers_9 (by decide) ?_
  refine lv_istore_n (lv' := [(3, .int 0), (0, rv E (some o)), (1, rv E a_1), (2, .int a_2)]) hx hb dX6_lookAtOfficers_10 rfl hl (by decide) rfl (fun ls hl => ?_)
  refine l_X6_lookAtOfficers_L11  C ho _ (fun v1_11 v2_11 v3_11 w4 H locs ls hH hl hf => ?_) fu a_1 a_2 0 w3 _ _ _ hH (lv_sub hl [2, 3, 0, 1] rfl) hf
  exact hw_vret hx hb hret hf hH hlocks dX6_lookAtOfficers_40

theorem dX6_lookAtDay_0 : decode cX6_lookAtDay 0 = .ok (.aload_n 1, 1) := by decide +kernel
theorem dX6_lookAtDay_1 : decode cX6_lookAtDay 1 = .ok (.getfield 24, 3) := by decide +kernel
theorem dX6_lookAtDay_4 : decode cX6_lookAtDay 4 = .ok (.astore 5, 2) := by decide +kernel
theorem dX6_lookAtDay_6 : decode cX6_lookAtDay 6 = .ok (.aload 5, 2) := by decide +kernel
theorem dX6_lookAtDay_8 : decode cX6_lookAtDay 8 = .ok (.getfield 30, 3) := by decide +kernel
theorem dX6_lookAtDay_11 : decode cX6_lookAtDay 11 = .ok (.iload_n 2, 1) := by decide +kernel
theorem dX6_lookAtDay_12 : decode cX6_lookAtDay 12 = .ok (.aaload, 1) := by decide +kernel
theorem dX6_lookAtDay_13 : decode cX6_lookAtDay 13 = .ok (.getfield 153, 3) := by decide +kernel
theorem dX6_lookAtDay_16 : decode cX6_lookAtDay 16 = .ok (.istore 6, 2) := by decide +kernel
theorem dX6_lookAtDay_18 : decode cX6_lookAtDay 18 = .ok (.aload_n 0, 1) := by decide +kernel
theorem dX6_lookAtDay_19 : decode cX6_lookAtDay 19 = .ok (.getfield 9, 3) := by decide +kernel
theorem dX6_lookAtDay_22 : decode cX6_lookAtDay 22 = .ok (.iconst 0, 1) := by decide +kernel
theorem dX6_lookAtDay_23 : decode cX6_lookAtDay 23 = .ok (.invokestatic 156, 3) := by decide +kernel
theorem dX6_lookAtDay_26 : decode cX6_lookAtDay 26 = .ok (.aload_n 0, 1) := by decide +kernel
theorem dX6_lookAtDay_27 : decode cX6_lookAtDay 27 = .ok (.getfield 15, 3) := by decide +kernel
theorem dX6_lookAtDay_30 : decode cX6_lookAtDay 30 = .ok (.iconst 0, 1) := by decide +kernel
theorem dX6_lookAtDay_31 : decode cX6_lookAtDay 31 = .ok (.invokestatic 156, 3) := by decide +kernel
theorem dX6_lookAtDay_34 : decode cX6_lookAtDay 34 = .ok (.aload_n 0, 1) := by decide +kernel
theorem dX6_lookAtDay_35 : decode cX6_lookAtDay 35 = .ok (.iconst 0, 1) := by decide +kernel
theorem dX6_lookAtDay_36 : decode cX6_lookAtDay 36 = .ok (.putfield 84, 3) := by decide +kernel
theorem dX6_lookAtDay_39 : decode cX6_lookAtDay 39 = .ok (.aload_n 0, 1) := by decide +kernel
theorem dX6_lookAtDay_40 : decode cX6_lookAtDay 40 = .ok (.iload 4, 2) := by decide +kernel
theorem dX6_lookAtDay_42 : decode cX6_lookAtDay 42 = .ok (.aload 5, 2) := by decide +kernel
theorem dX6_lookAtDay_44 : decode cX6_lookAtDay 44 = .ok (.iload_n 3, 1) := by decide +kernel
theorem dX6_lookAtDay_45 : decode cX6_lookAtDay 45 = .ok (.invokevirtual 162, 3) := by decide +kernel
theorem dX6_lookAtDay_48 : decode cX6_lookAtDay 48 = .ok (.ior, 1) := by decide +kernel
theorem dX6_lookAtDay_49 : decode cX6_lookAtDay 49 = .ok (.putfield 71, 3) := by decide +kernel
theorem dX6_lookAtDay_52 : decode cX6_lookAtDay 52 = .ok (.aload_n 0, 1) := by decide +kernel
theorem dX6_lookAtDay_53 : decode cX6_lookAtDay 53 = .ok (.aload_n 1, 1) := by decide +kernel
theorem dX6_lookAtDay_54 : decode cX6_lookAtDay 54 = .ok (.iload 6, 2) := by decide +kernel
theorem dX6_lookAtDay_56 : decode cX6_lookAtDay 56 = .ok (.iload_n 3, 1) := by decide +kernel
theorem dX6_lookAtDay_57 : decode cX6_lookAtDay 57 = .ok (.invokevirtual 165, 3) := by decide +kernel
theorem dX6_lookAtDay_60 : decode cX6_lookAtDay 60 = .ok (.putfield 81, 3) := by decide +kernel
theorem dX6_lookAtDay_63 : decode cX6_lookAtDay 63 = .ok (.iconst 0, 1) := by decide +kernel
theorem dX6_lookAtDay_64 : decode cX6_lookAtDay 64 = .ok (.istore 7, 2) := by decide +kernel
theorem dX6_lookAtDay_66 : decode cX6_lookAtDay 66 = .ok (.iload 7, 2) := by decide +kernel
theorem dX6_lookAtDay_68 : decode cX6_lookAtDay 68 = .ok (.aload 5, 2) := by decide +kernel
theorem dX6_lookAtDay_70 : decode cX6_lookAtDay 70 = .ok (.iconst 3, 1) := by decide +kernel
theorem dX6_lookAtDay_71 : decode cX6_lookAtDay 71 = .ok (.invokevirtual 141, 3) := by decide +kernel
theorem dX6_lookAtDay_74 : decode cX6_lookAtDay 74 = .ok (.if_icmp .ge 101, 3) := by decide +kernel
theorem dX6_lookAtDay_77 : decode cX6_lookAtDay 77 = .ok (.aload_n 1, 1) := by decide +kernel
theorem dX6_lookAtDay_78 : decode cX6_lookAtDay 78 = .ok (.getfield 98, 3) := by decide +kernel
theorem dX6_lookAtDay_81 : decode cX6_lookAtDay 81 = .ok (.iload 7, 2) := by decide +kernel
theorem dX6_lookAtDay_83 : decode cX6_lookAtDay 83 = .ok (.aaload, 1) := by decide +kernel
theorem dX6_lookAtDay_84 : decode cX6_lookAtDay 84 = .ok (.astore 8, 2) := by decide +kernel
theorem dX6_lookAtDay_86 : decode cX6_lookAtDay 86 = .ok (.iload 7, 2) := by decide +kernel
theorem dX6_lookAtDay_88 : decode cX6_lookAtDay 88 = .ok (.iload_n 2, 1) := by decide +kernel
theorem dX6_lookAtDay_89 : decode cX6_lookAtDay 89 = .ok (.if_icmp .eq 80, 3) := by decide +kernel
theorem dX6_lookAtDay_92 : decode cX6_lookAtDay 92 = .ok (.aload 8, 2) := by decide +kernel
theorem dX6_lookAtDay_94 : decode cX6_lookAtDay 94 = .ok (.iload_n 3, 1) := by decide +kernel
theorem dX6_lookAtDay_95 : decode cX6_lookAtDay 95 = .ok (.invokevirtual 168, 3) := by decide +kernel
theorem dX6_lookAtDay_98 : decode cX6_lookAtDay 98 = .ok (.ifCond .eq 71, 3) := by decide +kernel
theorem dX6_lookAtDay_101 : decode cX6_lookAtDay 101 = .ok (.aload_n 1, 1) := by decide +kernel
theorem dX6_lookAtDay_102 : decode cX6_lookAtDay 102 = .ok (.iload 7, 2) := by decide +kernel
theorem dX6_lookAtDay_104 : decode cX6_lookAtDay 104 = .ok (.invokevirtual 171, 3) := by decide +kernel
theorem dX6_lookAtDay_107 : decode cX6_lookAtDay 107 = .ok (.istore 9, 2) := by decide +kernel
theorem dX6_lookAtDay_109 : decode cX6_lookAtDay 109 = .ok (.aload_n 0, 1) := by decide +kernel
theorem dX6_lookAtDay_110 : decode cX6_lookAtDay 110 = .ok (.getfield 9, 3) := by decide +kernel
theorem dX6_lookAtDay_113 : decode cX6_lookAtDay 113 = .ok (.aload 8, 2) := by decide +kernel
theorem dX6_lookAtDay_115 : decode cX6_lookAtDay 115 = .ok (.getfield 174, 3) := by decide +kernel
theorem dX6_lookAtDay_118 : decode cX6_lookAtDay 118 = .ok (.iload 9, 2) := by decide +kernel
theorem dX6_lookAtDay_120 : decode cX6_lookAtDay 120 = .ok (.invokestatic 175, 3) := by decide +kernel
theorem dX6_lookAtDay_123 : decode cX6_lookAtDay 123 = .ok (.aload_n 0, 1) := by decide +kernel
theorem dX6_lookAtDay_124 : decode cX6_lookAtDay 124 = .ok (.getfield 15, 3) := by decide +kernel
theorem dX6_lookAtDay_127 : decode cX6_lookAtDay 127 = .ok (.aload 8, 2) := by decide +kernel
theorem dX6_lookAtDay_129 : decode cX6_lookAtDay 129 = .ok (.getfield 179, 3) := by decide +kernel
theorem dX6_lookAtDay_132 : decode cX6_lookAtDay 132 = .ok (.iload 9, 2) := by decide +kernel
theorem dX6_lookAtDay_134 : decode cX6_lookAtDay 134 = .ok (.invokestatic 175, 3) := by decide +kernel
theorem dX6_lookAtDay_137 : decode cX6_lookAtDay 137 = .ok (.aload_n 0, 1) := by decide +kernel
theorem dX6_lookAtDay_138 : decode cX6_lookAtDay 138 = .ok (.dup, 1) := by decide +kernel
theorem dX6_lookAtDay_139 : decode cX6_lookAtDay 139 = .ok (.getfield 84, 3) := by decide +kernel
theorem dX6_lookAtDay_142 : decode cX6_lookAtDay 142 = .ok (.iload 6, 2) := by decide +kernel
theorem dX6_lookAtDay_144 : decode cX6_lookAtDay 144 = .ok (.aload 5, 2) := by decide +kernel
theorem dX6_lookAtDay_146 : decode cX6_lookAtDay 146 = .ok (.getfield 30, 3) := by decide +kernel
theorem dX6_lookAtDay_149 : decode cX6_lookAtDay 149 = .ok (.iload 7, 2) := by decide +kernel
theorem dX6_lookAtDay_151 : decode cX6_lookAtDay 151 = .ok (.aaload, 1) := by decide +kernel
theorem dX6_lookAtDay_152 : decode cX6_lookAtDay 152 = .ok (.getfield 153, 3) := by decide +kernel
theorem dX6_lookAtDay_155 : decode cX6_lookAtDay 155 = .ok (.iand, 1) := by decide +kernel
theorem dX6_lookAtDay_156 : decode cX6_lookAtDay 156 = .ok (.ifCond .eq 8, 3) := by decide +kernel
theorem dX6_lookAtDay_159 : decode cX6_lookAtDay 159 = .ok (.iload 9, 2) := by decide +kernel
theorem dX6_lookAtDay_161 : decode cX6_lookAtDay 161 = .ok (.goto 4, 3) := by decide +kernel
theorem dX6_lookAtDay_164 : decode cX6_lookAtDay 164 = .ok (.iconst 0, 1) := by decide +kernel
theorem dX6_lookAtDay_165 : decode cX6_lookAtDay 165 = .ok (.ior, 1) := by decide +kernel
theorem dX6_lookAtDay_166 : decode cX6_lookAtDay 166 = .ok (.putfield 84, 3) := by decide +kernel
theorem dX6_lookAtDay_169 : decode cX6_lookAtDay 169 = .ok (.iinc 7 1, 3) := by decide +kernel
theorem dX6_lookAtDay_172 : decode cX6_lookAtDay 172 = .ok (.goto (-106), 3) := by decide +kernel
theorem dX6_lookAtDay_175 : decode cX6_lookAtDay 175 = .ok (.return_, 1) := by decide +kernel
theorem hd_X6_lookAtDay : yX6_lookAtDay.cls = RX6 ∧ yX6_lookAtDay.cls ≠ "java/lang/invoke/MethodHandle" ∧ yX6_lookAtDay.cls ≠ "java/lang/invoke/VarHandle" ∧ (parseMethodDescriptor yX6_lookAtDay.desc).map (fun d => d.parameters.length) = some 4 := by decide +kernel
theorem hs_X6_lookAtDay : yX6_lookAtDay.cls ≠ "java/lang/invoke/MethodHandle" ∧ yX6_lookAtDay.cls ≠ "java/lang/invoke/VarHandle" ∧ (parseMethodDescriptor yX6_lookAtDay.desc).map (fun d => d.parameters.length) = some 4 := by decide +kernel
set_option maxHeartbeats 4000000 in
set_option maxRecDepth 100000 in
theorem l_X6_lookAtDay_L66 (C : CX p l e s m args meth c cX6_lookAtDay 10 RX6 (Option.none : Option Jvm.ClassFile.FieldType) E) {o : Nat} (ho : K o = some (5, 0)) {w' : Wd} (k : Option Nat → Int32 → Int32 → Int32 → Option Nat → Int32 → Int32 → Wd → Option Wd) (hk : ∀ (v1_66 : Option Nat) (v2_66 : Int32) (v3_66 : Int32) (v4_66 : Int32) (v5_66 : Option Nat) (v6_66 : Int32) (v7_66 : Int32) (w : Wd) (H : Heap) (locs : List Loc) (ls : Array Slot), HQ E K z w s H locs → lv_has ls 10 [(1, rv E v1_66), (2, .int v2_66), (3, .int v3_66), (4, .int v4_66), (5, rv E v5_66), (6, .int v6_66), (7, .int v7_66), (0, rv E (some o))] → k v1_66 v2_66 v3_66 v4_66 v5_66 v6_66 v7_66 w = some w' → W p l e ({ frames := 2, cells := 0, slots := 0, locals := 47 } : Room) s m args below meth c H locs 0 0 (MQ below (QV E K z w') args s 0 0 (hA E)) (F0 m 175 ls [])) : ∀ (n : Nat) (v1_66 : Option Nat) (v2_66 : Int32) (v3_66 : Int32) (v4_66 : Int32) (v5_66 : Option Nat) (v6_66 : Int32) (v7_66 : Int32) (w : Wd) (H : Heap) (locs : List Loc) (ls : Array Slot), HQ E K z w s H locs → lv_has ls 10 [(1, rv E v1_66), (2, .int v2_66), (3, .int v3_66), (4, .int v4_66), (5, rv E v5_66), (6, .int v6_66), (7, .int v7_66), (0, rv E (some o))] → f_X6_lookAtDay_L66 K o k n v1_66 v2_66 v3_66 v4_66 v5_66 v6_66 v7_66 w = some w' → W p l e ({ frames := 2, cells := 0, slots := 0, locals := 47 } : Room) s m args below meth c H locs 0 0 (MQ below (QV E K z w') args s 0 0 (hA E)) (F0 m 66 ls []) := by
  obtain ⟨hx, hb, hml, hown, hts, hKs, hT, hb0, hlocks, hret⟩ := id C
  intro n
  induction n with
  | zero =>
    intro v1_66 v2_66 v3_66 v4_66 v5_66 v6_66 v7_66 w H locs ls hH hl hf
    cases hf
  | succ n ih =>
    intro v1_66 v2_66 v3_66 v4_66 v5_66 v6_66 v7_66 w H locs ls hH hl hf
    rw [f_X6_lookAtDay_L66] at hf
    refine lv_iload hx hb dX6_lookAtDay_66 (lv_at hl 6 rfl) ?_
    refine hl_aload hx hb dX6_lookAtDay_68 (lv_at hl 4 rfl) ?_
    refine lv_iconst (v := 3) hx hb dX6_lookAtDay_70 (by decide) ?_
    obtain ⟨a14, ha14, hf⟩ := bnd hf
    replace ha14 := chk_some ha14
    obtain ⟨q15, hq15, hf⟩ := bnd hf
    refine hcV_i hx hb hml hown hts hKs hT hb0 hH (As := [.int 3]) (rest := [.int v7_66]) (k_X9_size l E K H.size a14 3 w ha14.2 hq15) (gV m4_124 m3_151 m3_152 m1_2 m3_153) hd_X9_size ⟨Nat.le_of_ble_eq_true rfl, Nat.le_of_ble_eq_true rfl, rfl, rfl⟩ ha14.1 ha14.2 rfl rfl rfl hl.1 rfl (rcI rc0) rfl dX6_lookAtDay_71 ⟨Nat.zero_le _, Nat.zero_le _⟩ (fun H locs hH => ?_)
    refine lv_icmp_ge (tgt := 175) hx hb dX6_lookAtDay_74 (by decide) (fun c16 => ?_) (fun c16 => ?_)
    · replace hf := (if_pos c16).symm.trans hf
      exact hk v1_66 v2_66 v3_66 v4_66 v5_66 v6_66 v7_66 _ _ _ _ hH (lv_sub hl [0, 1, 2, 3, 4, 5, 6, 7] rfl) hf
    · replace hf := (if_neg c16).symm.trans hf
      refine hl_aload_n hx hb dX6_lookAtDay_77 rfl (lv_at hl 0 rfl) ?_
      obtain ⟨a17, ha17, hf⟩ := bnd hf
      replace ha17 := chk_some ha17
      refine gn10_5 hx hb hts hown hKs hH ha17.1 ha17.2 m2_134 dX6_lookAtDay_78 ?_
      refine lv_iload hx hb dX6_lookAtDay_81 (lv_at hl 6 rfl) ?_
      obtain ⟨a18, ha18, hf⟩ := bnd hf
      replace ha18 := cha_some ha18
      obtain ⟨j19, hj19, hf⟩ := bnd hf
      refine hw_aald27 hx hb hKs hH ha18.1 ha18.2 hj19 dX6_lookAtDay_83 ?_
      refine hl_astore (lv' := [(8, rv E (aR q15.2 a18.1 j19)), (1, rv E v1_66), (2, .int v2_66), (3, .int v3_66), (4, .int v4_66), (5, rv E v5_66), (6, .int v6_66), (7, .int v7_66), (0, rv E (some o))]) hx hb dX6_lookAtDay_84 hl (by decide) rfl (fun ls hl => ?_)
      refine lv_iload hx hb dX6_lookAtDay_86 (lv_at hl 7 rfl) ?_
      refine lv_iload_n hx hb dX6_lookAtDay_88 rfl (lv_at hl 2 rfl) ?_
      refine lv_icmp_eq (tgt := 169) hx hb dX6_lookAtDay_89 (by decide) (fun c20 => ?_) (fun c20 => ?_)
      · replace hf := (if_pos c20).symm.trans hf
        refine lv_iinc (v := (v7_66 + 1)) (lv' := [(7, .int ((v7_66 + 1))), (8, rv E (aR q15.2 a18.1 j19)), (1, rv E v1_66), (2, .int v2_66), (3, .int v3_66), (4, .int v4_66), (5, rv E v5_66), (6, .int v6_66), (0, rv E (some o))]) hx hb dX6_lookAtDay_169 hl (k := 7) rfl rfl (by decide) rfl (fun ls hl => ?_)
        refine lv_goto (tgt := 66) hx hb dX6_lookAtDay_172 (by decide) ?_
        exact ih v1_66 v2_66 v3_66 v4_66 v5_66 v6_66 (v7_66 + 1) _ _ _ _ hH (lv_sub hl [2, 3, 4, 5, 6, 7, 0, 8] rfl) hf
      · replace hf := (if_neg c20).symm.trans hf
        refine hl_aload hx hb dX6_lookAtDay_92 (lv_at hl 0 rfl) ?_
        refine lv_iload_n hx hb dX6_lookAtDay_94 rfl (lv_at hl 3 rfl) ?_
        obtain ⟨a21, ha21, hf⟩ := bnd hf
        replace ha21 := chk_some ha21
        obtain ⟨q22, hq22, hf⟩ := bnd hf
        refine hcV_i hx hb hml hown hts hKs hT hb0 hH (As := [.int v3_66]) (rest := []) (k_X7_isOn l E K H.size a21 v3_66 q15.2 ha21.2 hq22) (gV m4_161 m4_162 m4_163 m1_13 m4_164) hd_X7_isOn ⟨Nat.le_of_ble_eq_true rfl, Nat.le_of_ble_eq_true rfl, rfl, rfl⟩ ha21.1 ha21.2 rfl rfl rfl hl.1 rfl rc0 rfl dX6_lookAtDay_95 ⟨Nat.zero_le _, Nat.zero_le _⟩ (fun H locs hH => ?_)
        refine lv_if_eq (tgt := 169) hx hb dX6_lookAtDay_98 (by decide) (fun c23 => ?_) (fun c23 => ?_)
        · replace hf := (if_pos c23).symm.trans hf
          refine lv_iinc (v := (v7_66 + 1)) (lv' := [(7, .int ((v7_66 + 1))), (8, rv E (aR q15.2 a18.1 j19)), (1, rv E v1_66), (2, .int v2_66), (3, .int v3_66), (4, .int v4_66), (5, rv E v5_66), (6, .int v6_66), (0, rv E (some o))]) hx hb dX6_lookAtDay_169 hl (k := 7) rfl rfl (by decide) rfl (fun ls hl => ?_)
          refine lv_goto (tgt := 66) hx hb dX6_lookAtDay_172 (by decide) ?_
          exact ih v1_66 v2_66 v3_66 v4_66 v5_66 v6_66 (v7_66 + 1) _ _ _ _ hH (lv_sub hl [2, 3, 4, 5, 6, 7, 0, 8] rfl) hf
        · replace hf := (if_neg c23).symm.trans hf
          refine hl_aload_n hx hb dX6_lookAtDay_101 rfl (lv_at hl 1 rfl) ?_
          refine lv_iload hx hb dX6_lookAtDay_102 (lv_at hl 7 rfl) ?_
          obtain ⟨q24, hq24, hf⟩ := bnd hf
          refine hcV_i hx hb hml hown hts hKs hT hb0 hH (As := [.int v7_66]) (rest := []) (k_X10_slotsOf l E K H.size a17 v7_66 q22.2 ha17.2 hq24) (gV m4_165 m4_166 m4_167 m1_12 m4_168) hd_X10_slotsOf ⟨Nat.le_of_ble_eq_true rfl, Nat.le_of_ble_eq_true rfl, rfl, rfl⟩ ha17.1 ha17.2 rfl rfl rfl hl.1 rfl rc0 rfl dX6_lookAtDay_104 ⟨Nat.zero_le _, Nat.zero_le _⟩ (fun H locs hH => ?_)
          refine lv_istore (lv' := [(9, .int (q24.1)), (8, rv E (aR q15.2 a18.1 j19)), (1, rv E v1_66), (2, .int v2_66), (3, .int v3_66), (4, .int v4_66), (5, rv E v5_66), (6, .int v6_66), (7, .int v7_66), (0, rv E (some o))]) hx hb dX6_lookAtDay_107 hl (by decide) (by simp [List.filter_cons, cat_q, cat_i, cat_j]) (fun ls hl => ?_)
          refine hl_aload_n hx hb dX6_lookAtDay_109 rfl (lv_at hl 9 rfl) ?_
          refine g6_0 hx hb hts hown hKs hH rfl ho m2_156 dX6_lookAtDay_110 ?_
          refine hl_aload hx hb dX6_lookAtDay_113 (lv_at hl 1 rfl) ?_
          refine gn7_4 hx hb hts hown hKs hH ha21.1 ha21.2 m2_83 dX6_lookAtDay_115 ?_
          refine lv_iload hx hb dX6_lookAtDay_118 (lv_at hl 0 rfl) ?_
          obtain ⟨q25, hq25, hf⟩ := bnd hf
          refine hcS_v hx hb hml hown hts hKs hT hb0 hH (As := [rv E (wR q24.2 600 o), .int ((wI q24.2 704 a21)), .int (q24.1)]) (rest := []) (k_X6_take l E K H.size (wR q24.2 600 o) (wI q24.2 704 a21) q24.1 q24.2 hq25) (gS m4_169 m4_170 m1_14 m4_171) hs_X6_take ⟨Nat.le_of_ble_eq_true rfl, Nat.le_of_ble_eq_true rfl, rfl, rfl⟩ hl.1 rfl rc0 rfl dX6_lookAtDay_120 ⟨Nat.zero_le _, Nat.zero_le _⟩ (fun H locs hH => ?_)
          refine hl_aload_n hx hb dX6_lookAtDay_123 rfl (lv_at hl 9 rfl) ?_
          refine g6_1 hx hb hts hown hKs hH rfl ho m2_157 dX6_lookAtDay_124 ?_
          refine hl_aload hx hb dX6_lookAtDay_127 (lv_at hl 1 rfl) ?_
          refine gn7_5 hx hb hts hown hKs hH ha21.1 ha21.2 m2_87 dX6_lookAtDay_129 ?_
          refine lv_iload hx hb dX6_lookAtDay_132 (lv_at hl 0 rfl) ?_
          obtain ⟨q26, hq26, hf⟩ := bnd hf
          refine hcS_v hx hb hml hown hts hKs hT hb0 hH (As := [rv E (wR q25 601 o), .int ((wI q25 705 a21)), .int (q24.1)]) (rest := []) (k_X6_take l E K H.size (wR q25 601 o) (wI q25 705 a21) q24.1 q25 hq26) (gS m4_169 m4_170 m1_14 m4_171) hs_X6_take ⟨Nat.le_of_ble_eq_true rfl, Nat.le_of_ble_eq_true rfl, rfl, rfl⟩ hl.1 rfl rc0 rfl dX6_lookAtDay_134 ⟨Nat.zero_le _, Nat.zero_le _⟩ (fun H locs hH => ?_)
          refine hl_aload_n hx hb dX6_lookAtDay_137 rfl (lv_at hl 9 rfl) ?_
          refine lv_dup hx hb dX6_lookAtDay_138 rv_cat ?_
          refine g6_7 hx hb hts hown hKs hH rfl ho m2_163 dX6_lookAtDay_139 ?_
          refine lv_iload hx hb dX6_lookAtDay_142 (lv_at hl 7 rfl) ?_
          refine hl_aload hx hb dX6_lookAtDay_144 (lv_at hl 6 rfl) ?_
          refine gn9_9 hx hb hts hown hKs hH ha14.1 ha14.2 m1_176 dX6_lookAtDay_146 ?_
          refine lv_iload hx hb dX6_lookAtDay_149 (lv_at hl 8 rfl) ?_
          obtain ⟨a27, ha27, hf⟩ := bnd hf
          replace ha27 := cha_some ha27
          obtain ⟨j28, hj28, hf⟩ := bnd hf
          refine hw_aald25 hx hb hKs hH ha27.1 ha27.2 hj28 dX6_lookAtDay_151 ?_
          obtain ⟨a29, ha29, hf⟩ := bnd hf
          replace ha29 := chk_some ha29
          refine gn3_4 hx hb hts hown hKs hH ha29.1 ha29.2 m1_108 dX6_lookAtDay_152 ?_
          refine lv_iand hx hb dX6_lookAtDay_155 ?_
          refine lv_if_eq (tgt := 164) hx hb dX6_lookAtDay_156 (by decide) (fun c30 => ?_) (fun c30 => ?_)
          · replace hf := (if_pos c30).symm.trans hf
            refine lv_iconst (v := 0) hx hb dX6_lookAtDay_164 (by decide) ?_
            refine lv_ior hx hb dX6_lookAtDay_165 ?_
            obtain ⟨w31, hw31, hf⟩ := bnd hf
            replace hw31 := Option.some.inj hw31
            refine p6_7 (v := ((wI q26 607 o) ||| 0)) hx hb hts hown hKs hH rfl ho m2_163 dX6_lookAtDay_166 (fun H locs hH => ?_)
            rw [hw31] at hH
            refine lv_iinc (v := (v7_66 + 1)) (lv' := [(7, .int ((v7_66 + 1))), (9, .int (q24.1)), (8, rv E (aR q15.2 a18.1 j19)), (1, rv E v1_66), (2, .int v2_66), (3, .int v3_66), (4, .int v4_66), (5, rv E v5_66), (6, .int v6_66), (0, rv E (some o))]) hx hb dX6_lookAtDay_169 hl (k := 8) rfl rfl (by decide) rfl (fun ls hl => ?_)
            refine lv_goto (tgt := 66) hx hb dX6_lookAtDay_172 (by decide) ?_
            exact ih v1_66 v2_66 v3_66 v4_66 v5_66 v6_66 (v7_66 + 1) _ _ _ _ hH (lv_sub hl [3, 4, 5, 6, 7, 8, 0, 9] rfl) hf
          · replace hf := (if_neg c30).symm.trans hf
            refine lv_iload hx hb dX6_lookAtDay_159 (lv_at hl 0 rfl) ?_
            refine lv_goto (tgt := 165) hx hb dX6_lookAtDay_161 (by decide) ?_
            refine lv_ior hx hb dX6_lookAtDay_165 ?_
            obtain ⟨w32, hw32, hf⟩ := bnd hf
            replace hw32 := Option.some.inj hw32
            refine p6_7 (v := ((wI q26 607 o) ||| q24.1)) hx hb hts hown hKs hH rfl ho m2_163 dX6_lookAtDay_166 (fun H locs hH => ?_)
            rw [hw32] at hH
            refine lv_iinc (v := (v7_66 + 1)) (lv' := [(7, .int ((v7_66 + 1))), (9, .int (q24.1)), (8, rv E (aR q15.2 a18.1 j19)), (1, rv E v1_66), (2, .int v2_66), (3, .int v3_66), (4, .int v4_66), (5, rv E v5_66), (6, .int v6_66), (0, rv E (some o))]) hx hb dX6_lookAtDay_169 hl (k := 8) rfl rfl (by decide) rfl (fun ls hl => ?_)
            refine lv_goto (tgt := 66) hx hb dX6_lookAtDay_172 (by decide) ?_
            exact ih v1_66 v2_66 v3_66 v4_66 v5_66 v6_66 (v7_66 + 1) _ _ _ _ hH (lv_sub hl [3, 4, 5, 6, 7, 8, 0, 9] rfl) hf
set_option maxHeartbeats 4000000 in
set_option maxRecDepth 100000 in
theorem k_X6_lookAtDay (l : Launch) (E : Ev) (K : Kd) (z : Nat) (o : Nat) (a_1 : Option Nat) (a_2 : Int32) (a_3 : Int32) (a_4 : Int32) (w : Wd) (ho : K o = some (5, 0)) {w' : Wd} (hf : f_X6_lookAtDay K o a_1 a_2 a_3 a_4 w = some w') : Met l yX6_lookAtDay (Cond.code yX6_lookAtDay cX6_lookAtDay 10 (Option.none : Option Jvm.ClassFile.FieldType) :: bt) ({ frames := 2, cells := 0, slots := 0, locals := 47 } : Room) (va_Pc [rv E (some o), rv E a_1, .int a_2, .int a_3, .int a_4] (HB E K w z)) (QV E K z w') 0 0 (hA E) := by
  refine Met.ofW (cc := cX6_lookAtDay) (maxL := 10) (ret := (Option.none : Option Jvm.ClassFile.FieldType)) (by decide) rfl ?_
  intro p e s m args below meth c s₁ B hml hv
  obtain ⟨rfl, hz, hP, hKs, hT, hb0⟩ := hv
  have C : CX p l e s m _ meth c cX6_lookAtDay 10 RX6 (Option.none : Option Jvm.ClassFile.FieldType) E := ⟨B.exec, B.bytes, hml, findClass_of_methodNamed B.named, fun w h => atoms_spec (ws := Cond.code yX6_lookAtDay cX6_lookAtDay 10 (Option.none : Option Jvm.ClassFile.FieldType) :: bt) B.pre w (List.mem_cons_of_mem _ h), hKs, hT, by rw [hz]; exact hb0, B.notSynchronized, B.returns⟩
  have hH : HQ E K z w s s.heap [] := ⟨hP, va_S.rf, hz⟩
  obtain ⟨hx, hb, hml, hown, hts, hKs, hT, hb0, hlocks, hret⟩ := id C
  have hl := lv_entry [rv E (some o), rv E a_1, .int a_2, .int a_3, .int a_4] (n := 10) (by simp [lg_len_nil, lg_len_i, lg_len_j, lg_len_q, lg_len_f, lg_len_d, lg_len_r])
  rw [lg_entry_eq]
  generalize (lg_sl [rv E (some o), rv E a_1, .int a_2, .int a_3, .int a_4] ++ List.replicate (10 - (lg_sl [rv E (some o), rv E a_1, .int a_2, .int a_3, .int a_4]).length) Slot.unset).toArray = ls at hl ⊢
  replace hl : lv_has ls 10 [(0, rv E (some o)), (1, rv E a_1), (2, .int a_2), (3, .int a_3), (4, .int a_4)] := by simpa only [lv_args, cat_q, cat_i, cat_j, reduceIte, Nat.reduceEqDiff, Nat.reduceAdd, Nat.zero_add] using hl
  generalize s.heap = H at hH ⊢
  unfold f_X6_lookAtDay at hf
  refine hl_aload_n hx hb dX6_lookAtDay_0 rfl (lv_at hl 1 rfl) ?_
  obtain ⟨a1, ha1, hf⟩ := bnd hf
  replace ha1 := chk_some ha1
  refine gn10_0 hx hb hts hown hKs hH ha1.1 ha1.2 m2_120 dX6_lookAtDay_1 ?_
  refine hl_astore (lv' := [(5, rv E (wR w 1000 a1)), (0, rv E (some o)), (1, rv E a_1), (2, .int a_2), (3, .int a_3), (4, .int a_4)]) hx hb dX6_lookAtDay_4 hl (by decide) rfl (fun ls hl => ?_)
  refine hl_aload hx hb dX6_lookAtDay_6 (lv_at hl 0 rfl) ?_
  obtain ⟨a2, ha2, hf⟩ := bnd hf
  replace ha2 := chk_some ha2
  refine gn9_9 hx hb hts hown hKs hH ha2.1 ha2.2 m1_176 dX6_lookAtDay_8 ?_
  refine lv_iload_n hx hb dX6_lookAtDay_11 rfl (lv_at hl 3 rfl) ?_
  obtain ⟨a3, ha3, hf⟩ := bnd hf
  replace ha3 := cha_some ha3
  obtain ⟨j4, hj4, hf⟩ := bnd hf
  refine hw_aald25 hx hb hKs hH ha3.1 ha3.2 hj4 dX6_lookAtDay_12 ?_
  obtain ⟨a5, ha5, hf⟩ := bnd hf
  replace ha5 := chk_some ha5
  refine gn3_4 hx hb hts hown hKs hH ha5.1 ha5.2 m1_108 dX6_lookAtDay_13 ?_
  refine lv_istore (lv' := [(6, .int ((wI w 304 a5))), (5, rv E (wR w 1000 a1)), (0, rv E (some o)), (1, rv E a_1), (2, .int a_2), (3, .int a_3), (4, .int a_4)]) hx hb dX6_lookAtDay_16 hl (by decide) (by simp [List.filter_cons, cat_q, cat_i, cat_j]) (fun ls hl => ?_)
  refine hl_aload_n hx hb dX6_lookAtDay_18 rfl (lv_at hl 2 rfl) ?_
  refine g6_0 hx hb hts hown hKs hH rfl ho m2_156 dX6_lookAtDay_19 ?_
  refine lv_iconst (v := 0) hx hb dX6_lookAtDay_22 (by decide) ?_
  obtain ⟨q6, hq6, hf⟩ := bnd hf
  refine hcS_v hx hb hml hown hts hKs hT hb0 hH (As := [rv E (wR w 600 o), .int 0]) (rest := []) (k_J7_fill_53178 l E K H.size (wR w 600 o) 0 w hq6) (gS m4_147 m1_143 m1_7 m1_144) hs_J7_fill_53178 ⟨Nat.le_of_ble_eq_true rfl, Nat.le_of_ble_eq_true rfl, rfl, rfl⟩ hl.1 rfl rc0 rfl dX6_lookAtDay_23 ⟨Nat.zero_le _, Nat.zero_le _⟩ (fun H locs hH => ?_)
  refine hl_aload_n hx hb dX6_lookAtDay_26 rfl (lv_at hl 2 rfl) ?_
  refine g6_1 hx hb hts hown hKs hH rfl ho m2_157 dX6_lookAtDay_27 ?_
  refine lv_iconst (v := 0) hx hb dX6_lookAtDay_30 (by decide) ?_
  obtain ⟨q7, hq7, hf⟩ := bnd hf
  refine hcS_v hx hb hml hown hts hKs hT hb0 hH (As := [rv E (wR q6 601 o), .int 0]) (rest := []) (k_J7_fill_53178 l E K H.size (wR q6 601 o) 0 q6 hq7) (gS m4_147 m1_143 m1_7 m1_144) hs_J7_fill_53178 ⟨Nat.le_of_ble_eq_true rfl, Nat.le_of_ble_eq_true rfl, rfl, rfl⟩ hl.1 rfl rc0 rfl dX6_lookAtDay_31 ⟨Nat.zero_le _, Nat.zero_le _⟩ (fun H locs hH => ?_)
  refine hl_aload_n hx hb dX6_lookAtDay_34 rfl (lv_at hl 2 rfl) ?_
  refine lv_iconst (v := 0) hx hb dX6_lookAtDay_35 (by decide) ?_
  obtain ⟨w8, hw8, hf⟩ := bnd hf
  replace hw8 := Option.some.inj hw8
  refine p6_7 (v := 0) hx hb hts hown hKs hH rfl ho m2_163 dX6_lookAtDay_36 (fun H locs hH => ?_)
  rw [hw8] at hH
  refine hl_aload_n hx hb dX6_lookAtDay_39 rfl (lv_at hl 2 rfl) ?_
  refine lv_iload hx hb dX6_lookAtDay_40 (lv_at hl 6 rfl) ?_
  refine hl_aload hx hb dX6_lookAtDay_42 (lv_at hl 1 rfl) ?_
  refine lv_iload_n hx hb dX6_lookAtDay_44 rfl (lv_at hl 5 rfl) ?_
  obtain ⟨q9, hq9, hf⟩ := bnd hf
  refine hcV_i hx hb hml hown hts hKs hT hb0 hH (As := [.int a_3]) (rest := [.int a_4, rv E (some o)]) (k_X9_awayOfficers l E K H.size a2 a_3 w8 ha2.2 hq9) (gV m4_148 m4_149 m4_150 m1_2 m4_151) hd_X9_awayOfficers ⟨Nat.le_of_ble_eq_true rfl, Nat.le_of_ble_eq_true rfl, rfl, rfl⟩ ha2.1 ha2.2 rfl rfl rfl hl.1 rfl (rcI (rcV rc0)) rfl dX6_lookAtDay_45 ⟨Nat.zero_le _, Nat.zero_le _⟩ (fun H locs hH => ?_)
  refine lv_ior hx hb dX6_lookAtDay_48 ?_
  obtain ⟨w10, hw10, hf⟩ := bnd hf
  replace hw10 := Option.some.inj hw10
  refine p6_5 (v := (a_4 ||| q9.1)) hx hb hts hown hKs hH rfl ho m2_161 dX6_lookAtDay_49 (fun H locs hH => ?_)
  rw [hw10] at hH
  refine hl_aload_n hx hb dX6_lookAtDay_52 rfl (lv_at hl 2 rfl) ?_
  refine hl_aload_n hx hb dX6_lookAtDay_53 rfl (lv_at hl 3 rfl) ?_
  refine lv_iload hx hb dX6_lookAtDay_54 (lv_at hl 0 rfl) ?_
  refine lv_iload_n hx hb dX6_lookAtDay_56 rfl (lv_at hl 5 rfl) ?_
  obtain ⟨q11, hq11, hf⟩ := bnd hf
  refine hcV_i hx hb hml hown hts hKs hT hb0 hH (As := [.int ((wI w 304 a5)), .int a_3]) (rest := [rv E (some o)]) (k_X10_slotsOutside l E K H.size a1 (wI w 304 a5) a_3 w10 ha1.2 hq11) (gV m4_156 m4_157 m4_158 m1_12 m4_159) hd_X10_slotsOutside ⟨Nat.le_of_ble_eq_true rfl, Nat.le_of_ble_eq_true rfl, rfl, rfl⟩ ha1.1 ha1.2 rfl rfl rfl hl.1 rfl (rcV rc0) rfl dX6_lookAtDay_57 ⟨Nat.zero_le _, Nat.zero_le _⟩ (fun H locs hH => ?_)
  obtain ⟨w12, hw12, hf⟩ := bnd hf
  replace hw12 := Option.some.inj hw12
  refine p6_6 (v := q11.1) hx hb hts hown hKs hH rfl ho m2_162 dX6_lookAtDay_60 (fun H locs hH => ?_)
  rw [hw12] at hH
  refine lv_iconst (v := 0) hx hb dX6_lookAtDay_63 (by decide) ?_
  refine lv_istore (lv' := [(7, .int 0), (6, .int ((wI w 304 a5))), (5, rv E (wR w 1000 a1)), (0, rv E (some o)), (1, rv E a_1), (2, .int a_2), (3, .int a_3), (4, .int a_4)]) hx hb dX6_lookAtDay_64 hl (by decide) rfl (fun ls hl => ?_)
  refine l_X6_lookAtDay_L66  C ho _ (fun v1_66 v2_66 v3_66 v4_66 v5_66 v6_66 v7_66 w13 H locs ls hH hl hf => ?_) fu a_1 a_2 a_3 a_4 (wR w 1000 a1) (wI w 304 a5) 0 w12 _ _ _ hH (lv_sub hl [4, 5, 6, 7, 2, 1, 0, 3] rfl) hf
  exact hw_vret hx hb hret hf hH hlocks dX6_lookAtDay_175

theorem dX7_clear_0 : decode cX7_clear 0 = .ok (.aload_n 0, 1) := by decide +kernel
theorem dX7_clear_1 : decode cX7_clear 1 = .ok (.iconst 0, 1) := by decide +kernel
theorem dX7_clear_2 : decode cX7_clear 2 = .ok (.putfield 15, 3) := by decide +kernel
theorem dX7_clear_5 : decode cX7_clear 5 = .ok (.aload_n 0, 1) := by decide +kernel
theorem dX7_clear_6 : decode cX7_clear 6 = .ok (.iconst 0, 1) := by decide +kernel
theorem dX7_clear_7 : decode cX7_clear 7 = .ok (.putfield 19, 3) := by decide +kernel
theorem dX7_clear_10 : decode cX7_clear 10 = .ok (.aload_n 0, 1) := by decide +kernel
theorem dX7_clear_11 : decode cX7_clear 11 = .ok (.invokevirtual 22, 3) := by decide +kernel
theorem dX7_clear_14 : decode cX7_clear 14 = .ok (.return_, 1) := by decide +kernel
theorem hd_X7_clear : yX7_clear.cls = RX7 ∧ yX7_clear.cls ≠ "java/lang/invoke/MethodHandle" ∧ yX7_clear.cls ≠ "java/lang/invoke/VarHandle" ∧ (parseMethodDescriptor yX7_clear.desc).map (fun d => d.parameters.length) = some 0 := by decide +kernel
theorem hs_X7_clear : yX7_clear.cls ≠ "java/lang/invoke/MethodHandle" ∧ yX7_clear.cls ≠ "java/lang/invoke/VarHandle" ∧ (parseMethodDescriptor yX7_clear.desc).map (fun d => d.parameters.length) = some 0 := by decide +kernel
set_option maxHeartbeats 4000000 in
set_option maxRecDepth 100000 in
theorem k_X7_clear (l : Launch) (E : Ev) (K : Kd) (z : Nat) (o : Nat) (w : Wd) (ho : K o = some (6, 0)) {w' : Wd} (hf : f_X7_clear K o w = some w') : Met l yX7_clear (Cond.code yX7_clear cX7_clear 1 (Option.none : Option Jvm.ClassFile.FieldType) :: bt) ({ frames := 1, cells := 0, slots := 0, locals := 20 } : Room) (va_Pc [rv E (some o)] (HB E K w z)) (QV E K z w') 0 0 (hA E) := by
  refine Met.ofW (cc := cX7_clear) (maxL := 1) (ret := (Option.none : Option Jvm.ClassFile.FieldType)) (by decide) rfl ?_
  intro p e s m args below meth c s₁ B hml hv
  obtain ⟨rfl, hz, hP, hKs, hT, hb0⟩ := hv
  have C : CX p l e s m _ meth c cX7_clear 1 RX7 (Option.none : Option Jvm.ClassFile.FieldType) E := ⟨B.exec, B.bytes, hml, findClass_of_methodNamed B.named, fun w h => atoms_spec (ws := Cond.code yX7_clear cX7_clear 1 (Option.none : Option Jvm.ClassFile.FieldType) :: bt) B.pre w (List.mem_cons_of_mem _ h), hKs, hT, by rw [hz]; exact hb0, B.notSynchronized, B.returns⟩
  have hH : HQ E K z w s s.heap [] := ⟨hP, va_S.rf, hz⟩
  obtain ⟨hx, hb, hml, hown, hts, hKs, hT, hb0, hlocks, hret⟩ := id C
  have hl := lv_entry [rv E (some o)] (n := 1) (by simp [lg_len_nil, lg_len_i, lg_len_j, lg_len_q, lg_len_f, lg_len_d, lg_len_r])
  rw [lg_entry_eq]
  generalize (lg_sl [rv E (some o)] ++ List.replicate (1 - (lg_sl [rv E (some o)]).length) Slot.unset).toArray = ls at hl ⊢
  replace hl : lv_has ls 1 [(0, rv E (some o))] := by simpa only [lv_args, cat_q, cat_i, cat_j, reduceIte, Nat.reduceEqDiff, Nat.reduceAdd, Nat.zero_add] using hl
  generalize s.heap = H at hH ⊢
  unfold f_X7_clear at hf
  refine hl_aload_n hx hb dX7_clear_0 rfl (lv_at hl 0 rfl) ?_
  refine lv_iconst (v := 0) hx hb dX7_clear_1 (by decide) ?_
  obtain ⟨w1, hw1, hf⟩ := bnd hf
  replace hw1 := Option.some.inj hw1
  refine p7_1 (v := 0) hx hb hts hown hKs hH rfl ho m2_72 dX7_clear_2 (fun H locs hH => ?_)
  rw [hw1] at hH
  refine hl_aload_n hx hb dX7_clear_5 rfl (lv_at hl 0 rfl) ?_
  refine lv_iconst (v := 0) hx hb dX7_clear_6 (by decide) ?_
  obtain ⟨w2, hw2, hf⟩ := bnd hf
  replace hw2 := Option.some.inj hw2
  refine p7_6 (v := 0) hx hb hts hown hKs hH rfl ho m2_89 dX7_clear_7 (fun H locs hH => ?_)
  rw [hw2] at hH
  refine hl_aload_n hx hb dX7_clear_10 rfl (lv_at hl 0 rfl) ?_
  obtain ⟨q3, hq3, hf⟩ := bnd hf
  refine hcV_v hx hb hml hown hts hKs hT hb0 hH (As := []) (rest := []) (k_X7_dropHearing l E K H.size o w2 ho hq3) (gV m2_115 m2_116 m2_117 m1_13 m2_118) hd_X7_dropHearing ⟨Nat.le_of_ble_eq_true rfl, Nat.le_of_ble_eq_true rfl, rfl, rfl⟩ rfl ho rfl rfl rfl hl.1 rfl rc0 rfl dX7_clear_11 ⟨Nat.zero_le _, Nat.zero_le _⟩ (fun H locs hH => ?_)
  exact hw_vret hx hb hret hf hH hlocks dX7_clear_14

theorem dX8_advance_0 : decode cX8_advance 0 = .ok (.aload_n 0, 1) := by decide +kernel
theorem dX8_advance_1 : decode cX8_advance 1 = .ok (.getfield 34, 3) := by decide +kernel
theorem dX8_advance_4 : decode cX8_advance 4 = .ok (.aload_n 0, 1) := by decide +kernel
theorem dX8_advance_5 : decode cX8_advance 5 = .ok (.getfield 30, 3) := by decide +kernel
theorem dX8_advance_8 : decode cX8_advance 8 = .ok (.if_icmp .ge 44, 3) := by decide +kernel
theorem dX8_advance_11 : decode cX8_advance 11 = .ok (.aload_n 0, 1) := by decide +kernel
theorem dX8_advance_12 : decode cX8_advance 12 = .ok (.getfield 9, 3) := by decide +kernel
theorem dX8_advance_15 : decode cX8_advance 15 = .ok (.aload_n 0, 1) := by decide +kernel
theorem dX8_advance_16 : decode cX8_advance 16 = .ok (.getfield 34, 3) := by decide +kernel
theorem dX8_advance_19 : decode cX8_advance 19 = .ok (.baload, 1) := by decide +kernel
theorem dX8_advance_20 : decode cX8_advance 20 = .ok (.bipush 32, 2) := by decide +kernel
theorem dX8_advance_22 : decode cX8_advance 22 = .ok (.if_icmp .eq 17, 3) := by decide +kernel
theorem dX8_advance_25 : decode cX8_advance 25 = .ok (.aload_n 0, 1) := by decide +kernel
theorem dX8_advance_26 : decode cX8_advance 26 = .ok (.getfield 9, 3) := by decide +kernel
theorem dX8_advance_29 : decode cX8_advance 29 = .ok (.aload_n 0, 1) := by decide +kernel
theorem dX8_advance_30 : decode cX8_advance 30 = .ok (.getfield 34, 3) := by decide +kernel
theorem dX8_advance_33 : decode cX8_advance 33 = .ok (.baload, 1) := by decide +kernel
theorem dX8_advance_34 : decode cX8_advance 34 = .ok (.bipush 10, 2) := by decide +kernel
theorem dX8_advance_36 : decode cX8_advance 36 = .ok (.if_icmp .ne 16, 3) := by decide +kernel
theorem dX8_advance_39 : decode cX8_advance 39 = .ok (.aload_n 0, 1) := by decide +kernel
theorem dX8_advance_40 : decode cX8_advance 40 = .ok (.dup, 1) := by decide +kernel
theorem dX8_advance_41 : decode cX8_advance 41 = .ok (.getfield 34, 3) := by decide +kernel
theorem dX8_advance_44 : decode cX8_advance 44 = .ok (.iconst 1, 1) := by decide +kernel
theorem dX8_advance_45 : decode cX8_advance 45 = .ok (.iadd, 1) := by decide +kernel
theorem dX8_advance_46 : decode cX8_advance 46 = .ok (.putfield 34, 3) := by decide +kernel
theorem dX8_advance_49 : decode cX8_advance 49 = .ok (.goto (-49), 3) := by decide +kernel
theorem dX8_advance_52 : decode cX8_advance 52 = .ok (.aload_n 0, 1) := by decide +kernel
theorem dX8_advance_53 : decode cX8_advance 53 = .ok (.aload_n 0, 1) := by decide +kernel
theorem dX8_advance_54 : decode cX8_advance 54 = .ok (.getfield 34, 3) := by decide +kernel
theorem dX8_advance_57 : decode cX8_advance 57 = .ok (.putfield 40, 3) := by decide +kernel
theorem dX8_advance_60 : decode cX8_advance 60 = .ok (.aload_n 0, 1) := by decide +kernel
theorem dX8_advance_61 : decode cX8_advance 61 = .ok (.lconst 0, 1) := by decide +kernel
theorem dX8_advance_62 : decode cX8_advance 62 = .ok (.putfield 43, 3) := by decide +kernel
theorem dX8_advance_65 : decode cX8_advance 65 = .ok (.aload_n 0, 1) := by decide +kernel
theorem dX8_advance_66 : decode cX8_advance 66 = .ok (.iconst 0, 1) := by decide +kernel
theorem dX8_advance_67 : decode cX8_advance 67 = .ok (.putfield 47, 3) := by decide +kernel
theorem dX8_advance_70 : decode cX8_advance 70 = .ok (.aload_n 0, 1) := by decide +kernel
theorem dX8_advance_71 : decode cX8_advance 71 = .ok (.getfield 34, 3) := by decide +kernel
theorem dX8_advance_74 : decode cX8_advance 74 = .ok (.aload_n 0, 1) := by decide +kernel
theorem dX8_advance_75 : decode cX8_advance 75 = .ok (.getfield 30, 3) := by decide +kernel
theorem dX8_advance_78 : decode cX8_advance 78 = .ok (.if_icmp .lt 13, 3) := by decide +kernel
theorem dX8_advance_81 : decode cX8_advance 81 = .ok (.aload_n 0, 1) := by decide +kernel
theorem dX8_advance_82 : decode cX8_advance 82 = .ok (.getstatic 15, 3) := by decide +kernel
theorem dX8_advance_85 : decode cX8_advance 85 = .ok (.putfield 21, 3) := by decide +kernel
theorem dX8_advance_88 : decode cX8_advance 88 = .ok (.goto 257, 3) := by decide +kernel
theorem dX8_advance_91 : decode cX8_advance 91 = .ok (.aload_n 0, 1) := by decide +kernel
theorem dX8_advance_92 : decode cX8_advance 92 = .ok (.getfield 9, 3) := by decide +kernel
theorem dX8_advance_95 : decode cX8_advance 95 = .ok (.aload_n 0, 1) := by decide +kernel
theorem dX8_advance_96 : decode cX8_advance 96 = .ok (.getfield 34, 3) := by decide +kernel
theorem dX8_advance_99 : decode cX8_advance 99 = .ok (.baload, 1) := by decide +kernel
theorem dX8_advance_100 : decode cX8_advance 100 = .ok (.invokestatic 50, 3) := by decide +kernel
theorem dX8_advance_103 : decode cX8_advance 103 = .ok (.ifCond .eq 98, 3) := by decide +kernel
theorem dX8_advance_106 : decode cX8_advance 106 = .ok (.aload_n 0, 1) := by decide +kernel
theorem dX8_advance_107 : decode cX8_advance 107 = .ok (.getfield 34, 3) := by decide +kernel
theorem dX8_advance_110 : decode cX8_advance 110 = .ok (.aload_n 0, 1) := by decide +kernel
theorem dX8_advance_111 : decode cX8_advance 111 = .ok (.getfield 30, 3) := by decide +kernel
theorem dX8_advance_114 : decode cX8_advance 114 = .ok (.if_icmp .ge 53, 3) := by decide +kernel
theorem dX8_advance_117 : decode cX8_advance 117 = .ok (.aload_n 0, 1) := by decide +kernel
theorem dX8_advance_118 : decode cX8_advance 118 = .ok (.getfield 9, 3) := by decide +kernel
theorem dX8_advance_121 : decode cX8_advance 121 = .ok (.aload_n 0, 1) := by decide +kernel
theorem dX8_advance_122 : decode cX8_advance 122 = .ok (.getfield 34, 3) := by decide +kernel
theorem dX8_advance_125 : decode cX8_advance 125 = .ok (.baload, 1) := by decide +kernel
theorem dX8_advance_126 : decode cX8_advance 126 = .ok (.invokestatic 50, 3) := by decide +kernel
theorem dX8_advance_129 : decode cX8_advance 129 = .ok (.ifCond .eq 38, 3) := by decide +kernel
theorem dX8_advance_132 : decode cX8_advance 132 = .ok (.aload_n 0, 1) := by decide +kernel
theorem dX8_advance_133 : decode cX8_advance 133 = .ok (.aload_n 0, 1) := by decide +kernel
theorem dX8_advance_134 : decode cX8_advance 134 = .ok (.getfield 43, 3) := by decide +kernel
theorem dX8_advance_137 : decode cX8_advance 137 = .ok (.bipush 8, 2) := by decide +kernel
theorem dX8_advance_139 : decode cX8_advance 139 = .ok (.lshl, 1) := by decide +kernel
theorem dX8_advance_140 : decode cX8_advance 140 = .ok (.aload_n 0, 1) := by decide +kernel
theorem dX8_advance_141 : decode cX8_advance 141 = .ok (.getfield 9, 3) := by decide +kernel
theorem dX8_advance_144 : decode cX8_advance 144 = .ok (.aload_n 0, 1) := by decide +kernel
theorem dX8_advance_145 : decode cX8_advance 145 = .ok (.getfield 34, 3) := by decide +kernel
theorem dX8_advance_148 : decode cX8_advance 148 = .ok (.baload, 1) := by decide +kernel
theorem dX8_advance_149 : decode cX8_advance 149 = .ok (.i2l, 1) := by decide +kernel
theorem dX8_advance_150 : decode cX8_advance 150 = .ok (.lor, 1) := by decide +kernel
theorem dX8_advance_151 : decode cX8_advance 151 = .ok (.putfield 43, 3) := by decide +kernel
theorem dX8_advance_154 : decode cX8_advance 154 = .ok (.aload_n 0, 1) := by decide +kernel
theorem dX8_advance_155 : decode cX8_advance 155 = .ok (.dup, 1) := by decide +kernel
theorem dX8_advance_156 : decode cX8_advance 156 = .ok (.getfield 34, 3) := by decide +kernel
theorem dX8_advance_159 : decode cX8_advance 159 = .ok (.iconst 1, 1) := by decide +kernel
theorem dX8_advance_160 : decode cX8_advance 160 = .ok (.iadd, 1) := by decide +kernel
theorem dX8_advance_161 : decode cX8_advance 161 = .ok (.putfield 34, 3) := by decide +kernel
theorem dX8_advance_164 : decode cX8_advance 164 = .ok (.goto (-58), 3) := by decide +kernel
theorem dX8_advance_167 : decode cX8_advance 167 = .ok (.aload_n 0, 1) := by decide +kernel
theorem dX8_advance_168 : decode cX8_advance 168 = .ok (.aload_n 0, 1) := by decide +kernel
theorem dX8_advance_169 : decode cX8_advance 169 = .ok (.getfield 34, 3) := by decide +kernel
theorem dX8_advance_172 : decode cX8_advance 172 = .ok (.aload_n 0, 1) := by decide +kernel
theorem dX8_advance_173 : decode cX8_advance 173 = .ok (.getfield 40, 3) := by decide +kernel
theorem dX8_advance_176 : decode cX8_advance 176 = .ok (.isub, 1) := by decide +kernel
theorem dX8_advance_177 : decode cX8_advance 177 = .ok (.bipush 8, 2) := by decide +kernel
theorem dX8_advance_179 : decode cX8_advance 179 = .ok (.if_icmp .le 9, 3) := by decide +kernel
theorem dX8_advance_182 : decode cX8_advance 182 = .ok (.getstatic 54, 3) := by decide +kernel
theorem dX8_advance_185 : decode cX8_advance 185 = .ok (.goto 10, 3) := by decide +kernel
theorem dX8_advance_188 : decode cX8_advance 188 = .ok (.aload_n 0, 1) := by decide +kernel
theorem dX8_advance_189 : decode cX8_advance 189 = .ok (.getfield 43, 3) := by decide +kernel
theorem dX8_advance_192 : decode cX8_advance 192 = .ok (.invokestatic 57, 3) := by decide +kernel
theorem dX8_advance_195 : decode cX8_advance 195 = .ok (.putfield 21, 3) := by decide +kernel
theorem dX8_advance_198 : decode cX8_advance 198 = .ok (.goto 147, 3) := by decide +kernel
theorem dX8_advance_201 : decode cX8_advance 201 = .ok (.aload_n 0, 1) := by decide +kernel
theorem dX8_advance_202 : decode cX8_advance 202 = .ok (.getfield 9, 3) := by decide +kernel
theorem dX8_advance_205 : decode cX8_advance 205 = .ok (.aload_n 0, 1) := by decide +kernel
theorem dX8_advance_206 : decode cX8_advance 206 = .ok (.getfield 34, 3) := by decide +kernel
theorem dX8_advance_209 : decode cX8_advance 209 = .ok (.baload, 1) := by decide +kernel
theorem dX8_advance_210 : decode cX8_advance 210 = .ok (.invokestatic 61, 3) := by decide +kernel
theorem dX8_advance_213 : decode cX8_advance 213 = .ok (.ifCond .eq 95, 3) := by decide +kernel
theorem dX8_advance_216 : decode cX8_advance 216 = .ok (.aload_n 0, 1) := by decide +kernel
theorem dX8_advance_217 : decode cX8_advance 217 = .ok (.getfield 34, 3) := by decide +kernel
theorem dX8_advance_220 : decode cX8_advance 220 = .ok (.aload_n 0, 1) := by decide +kernel
theorem dX8_advance_221 : decode cX8_advance 221 = .ok (.getfield 30, 3) := by decide +kernel
theorem dX8_advance_224 : decode cX8_advance 224 = .ok (.if_icmp .ge 55, 3) := by decide +kernel
theorem dX8_advance_227 : decode cX8_advance 227 = .ok (.aload_n 0, 1) := by decide +kernel
theorem dX8_advance_228 : decode cX8_advance 228 = .ok (.getfield 9, 3) := by decide +kernel
theorem dX8_advance_231 : decode cX8_advance 231 = .ok (.aload_n 0, 1) := by decide +kernel
theorem dX8_advance_232 : decode cX8_advance 232 = .ok (.getfield 34, 3) := by decide +kernel
theorem dX8_advance_235 : decode cX8_advance 235 = .ok (.baload, 1) := by decide +kernel
theorem dX8_advance_236 : decode cX8_advance 236 = .ok (.invokestatic 61, 3) := by decide +kernel
theorem dX8_advance_239 : decode cX8_advance 239 = .ok (.ifCond .eq 40, 3) := by decide +kernel
theorem dX8_advance_242 : decode cX8_advance 242 = .ok (.aload_n 0, 1) := by decide +kernel
theorem dX8_advance_243 : decode cX8_advance 243 = .ok (.aload_n 0, 1) := by decide +kernel
theorem dX8_advance_244 : decode cX8_advance 244 = .ok (.getfield 47, 3) := by decide +kernel
theorem dX8_advance_247 : decode cX8_advance 247 = .ok (.bipush 10, 2) := by decide +kernel
theorem dX8_advance_249 : decode cX8_advance 249 = .ok (.imul, 1) := by decide +kernel
theorem dX8_advance_250 : decode cX8_advance 250 = .ok (.aload_n 0, 1) := by decide +kernel
theorem dX8_advance_251 : decode cX8_advance 251 = .ok (.getfield 9, 3) := by decide +kernel
theorem dX8_advance_254 : decode cX8_advance 254 = .ok (.aload_n 0, 1) := by decide +kernel
theorem dX8_advance_255 : decode cX8_advance 255 = .ok (.getfield 34, 3) := by decide +kernel
theorem dX8_advance_258 : decode cX8_advance 258 = .ok (.baload, 1) := by decide +kernel
theorem dX8_advance_259 : decode cX8_advance 259 = .ok (.bipush 48, 2) := by decide +kernel
theorem dX8_advance_261 : decode cX8_advance 261 = .ok (.isub, 1) := by decide +kernel
theorem dX8_advance_262 : decode cX8_advance 262 = .ok (.iadd, 1) := by decide +kernel
theorem dX8_advance_263 : decode cX8_advance 263 = .ok (.putfield 47, 3) := by decide +kernel
theorem dX8_advance_266 : decode cX8_advance 266 = .ok (.aload_n 0, 1) := by decide +kernel
theorem dX8_advance_267 : decode cX8_advance 267 = .ok (.dup, 1) := by decide +kernel
theorem dX8_advance_268 : decode cX8_advance 268 = .ok (.getfield 34, 3) := by decide +kernel
theorem dX8_advance_271 : decode cX8_advance 271 = .ok (.iconst 1, 1) := by decide +kernel
theorem dX8_advance_272 : decode cX8_advance 272 = .ok (.iadd, 1) := by decide +kernel
theorem dX8_advance_273 : decode cX8_advance 273 = .ok (.putfield 34, 3) := by decide +kernel
theorem dX8_advance_276 : decode cX8_advance 276 = .ok (.goto (-60), 3) := by decide +kernel
theorem dX8_advance_279 : decode cX8_advance 279 = .ok (.aload_n 0, 1) := by decide +kernel
theorem dX8_advance_280 : decode cX8_advance 280 = .ok (.aload_n 0, 1) := by decide +kernel
theorem dX8_advance_281 : decode cX8_advance 281 = .ok (.getfield 34, 3) := by decide +kernel
theorem dX8_advance_284 : decode cX8_advance 284 = .ok (.aload_n 0, 1) := by decide +kernel
theorem dX8_advance_285 : decode cX8_advance 285 = .ok (.getfield 40, 3) := by decide +kernel
theorem dX8_advance_288 : decode cX8_advance 288 = .ok (.isub, 1) := by decide +kernel
theorem dX8_advance_289 : decode cX8_advance 289 = .ok (.iconst 3, 1) := by decide +kernel
theorem dX8_advance_290 : decode cX8_advance 290 = .ok (.if_icmp .le 9, 3) := by decide +kernel
theorem dX8_advance_293 : decode cX8_advance 293 = .ok (.getstatic 54, 3) := by decide +kernel
theorem dX8_advance_296 : decode cX8_advance 296 = .ok (.goto 6, 3) := by decide +kernel
theorem dX8_advance_299 : decode cX8_advance 299 = .ok (.getstatic 64, 3) := by decide +kernel
theorem dX8_advance_302 : decode cX8_advance 302 = .ok (.putfield 21, 3) := by decide +kernel
theorem dX8_advance_305 : decode cX8_advance 305 = .ok (.goto 40, 3) := by decide +kernel
theorem dX8_advance_308 : decode cX8_advance 308 = .ok (.aload_n 0, 1) := by decide +kernel
theorem dX8_advance_309 : decode cX8_advance 309 = .ok (.aload_n 0, 1) := by decide +kernel
theorem dX8_advance_310 : decode cX8_advance 310 = .ok (.getfield 9, 3) := by decide +kernel
theorem dX8_advance_313 : decode cX8_advance 313 = .ok (.aload_n 0, 1) := by decide +kernel
theorem dX8_advance_314 : decode cX8_advance 314 = .ok (.getfield 34, 3) := by decide +kernel
theorem dX8_advance_317 : decode cX8_advance 317 = .ok (.baload, 1) := by decide +kernel
theorem dX8_advance_318 : decode cX8_advance 318 = .ok (.bipush 59, 2) := by decide +kernel
theorem dX8_advance_320 : decode cX8_advance 320 = .ok (.if_icmp .ne 9, 3) := by decide +kernel
theorem dX8_advance_323 : decode cX8_advance 323 = .ok (.getstatic 67, 3) := by decide +kernel
theorem dX8_advance_326 : decode cX8_advance 326 = .ok (.goto 6, 3) := by decide +kernel
theorem dX8_advance_329 : decode cX8_advance 329 = .ok (.getstatic 54, 3) := by decide +kernel
theorem dX8_advance_332 : decode cX8_advance 332 = .ok (.putfield 21, 3) := by decide +kernel
theorem dX8_advance_335 : decode cX8_advance 335 = .ok (.aload_n 0, 1) := by decide +kernel
theorem dX8_advance_336 : decode cX8_advance 336 = .ok (.dup, 1) := by decide +kernel
theorem dX8_advance_337 : decode cX8_advance 337 = .ok (.getfield 34, 3) := by decide +kernel
theorem dX8_advance_340 : decode cX8_advance 340 = .ok (.iconst 1, 1) := by decide +kernel
theorem dX8_advance_341 : decode cX8_advance 341 = .ok (.iadd, 1) := by decide +kernel
theorem dX8_advance_342 : decode cX8_advance 342 = .ok (.putfield 34, 3) := by decide +kernel
theorem dX8_advance_345 : decode cX8_advance 345 = .ok (.return_, 1) := by decide +kernel
theorem hd_X8_advance : yX8_advance.cls = RX8 ∧ yX8_advance.cls ≠ "java/lang/invoke/MethodHandle" ∧ yX8_advance.cls ≠ "java/lang/invoke/VarHandle" ∧ (parseMethodDescriptor yX8_advance.desc).map (fun d => d.parameters.length) = some 0 := by decide +kernel
theorem hs_X8_advance : yX8_advance.cls ≠ "java/lang/invoke/MethodHandle" ∧ yX8_advance.cls ≠ "java/lang/invoke/VarHandle" ∧ (parseMethodDescriptor yX8_advance.desc).map (fun d => d.parameters.length) = some 0 := by decide +kernel
set_option maxHeartbeats 4000000 in
set_option maxRecDepth 100000 in
theorem l_X8_advance_L0 (C : CX p l e s m args meth c cX8_advance 1 RX8 (Option.none : Option Jvm.ClassFile.FieldType) E) {o : Nat} (ho : K o = some (7, 0)) {w' : Wd} (k : Wd → Option Wd) (hk : ∀ (w : Wd) (H : Heap) (locs : List Loc) (ls : Array Slot), HQ E K z w s H locs → lv_has ls 1 [(0, rv E (some o))] → k w = some w' → W p l e ({ frames := 1, cells := 0, slots := 0, locals := 22 } : Room) s m args below meth c H locs 0 0 (MQ below (QV E K z w') args s 0 0 (hA E)) (F0 m 52 ls [])) : ∀ (n : Nat) (w : Wd) (H : Heap) (locs : List Loc) (ls : Array Slot), HQ E K z w s H locs → lv_has ls 1 [(0, rv E (some o))] → f_X8_advance_L0 K o k n w = some w' → W p l e ({ frames := 1, cells := 0, slots := 0, locals := 22 } : Room) s m args below meth c H locs 0 0 (MQ below (QV E K z w') args s 0 0 (hA E)) (F0 m 0 ls []) := by
  obtain ⟨hx, hb, hml, hown, hts, hKs, hT, hb0, hlocks, hret⟩ := id C
  intro n
  induction n with
  | zero =>
    intro w H locs ls hH hl hf
    cases hf
  | succ n ih =>
    intro w H locs ls hH hl hf
    rw [f_X8_advance_L0] at hf
    refine hl_aload_n hx hb dX8_advance_0 rfl (lv_at hl 0 rfl) ?_
    refine g8_3 hx hb hts hown hKs hH rfl ho m2_5 dX8_advance_1 ?_
    refine hl_aload_n hx hb dX8_advance_4 rfl (lv_at hl 0 rfl) ?_
    refine g8_1 hx hb hts hown hKs hH rfl ho m2_2 dX8_advance_5 ?_
    refine lv_icmp_ge (tgt := 52) hx hb dX8_advance_8 (by decide) (fun c2 => ?_) (fun c2 => ?_)
    · replace hf := (if_pos c2).symm.trans hf
      exact hk _ _ _ _ hH (lv_sub hl [0] rfl) hf
    · replace hf := (if_neg c2).symm.trans hf
      refine hl_aload_n hx hb dX8_advance_11 rfl (lv_at hl 0 rfl) ?_
      refine g8_0 hx hb hts hown hKs hH rfl ho m2_1 dX8_advance_12 ?_
      refine hl_aload_n hx hb dX8_advance_15 rfl (lv_at hl 0 rfl) ?_
      refine g8_3 hx hb hts hown hKs hH rfl ho m2_5 dX8_advance_16 ?_
      obtain ⟨a3, ha3, hf⟩ := bnd hf
      replace ha3 := cha_some ha3
      obtain ⟨j4, hj4, hf⟩ := bnd hf
      refine hw_bald hx hb hKs hH ha3.1 ha3.2 hj4 dX8_advance_19 ?_
      refine lv_bipush (v := 32) hx hb dX8_advance_20 (by decide) ?_
      refine lv_icmp_eq (tgt := 39) hx hb dX8_advance_22 (by decide) (fun c5 => ?_) (fun c5 => ?_)
      · replace hf := (if_pos c5).symm.trans hf
        refine hl_aload_n hx hb dX8_advance_39 rfl (lv_at hl 0 rfl) ?_
        refine lv_dup hx hb dX8_advance_40 rv_cat ?_
        refine g8_3 hx hb hts hown hKs hH rfl ho m2_5 dX8_advance_41 ?_
        refine lv_iconst (v := 1) hx hb dX8_advance_44 (by decide) ?_
        refine lv_iadd hx hb dX8_advance_45 ?_
        obtain ⟨w6, hw6, hf⟩ := bnd hf
        replace hw6 := Option.some.inj hw6
        refine p8_3 (v := ((wI w 803 o) + 1)) hx hb hts hown hKs hH rfl ho m2_5 dX8_advance_46 (fun H locs hH => ?_)
        rw [hw6] at hH
        refine lv_goto (tgt := 0) hx hb dX8_advance_49 (by decide) ?_
        exact ih _ _ _ _ hH (lv_sub hl [0] rfl) hf
      · replace hf := (if_neg c5).symm.trans hf
        refine hl_aload_n hx hb dX8_advance_25 rfl (lv_at hl 0 rfl) ?_
        refine g8_0 hx hb hts hown hKs hH rfl ho m2_1 dX8_advance_26 ?_
        refine hl_aload_n hx hb dX8_advance_29 rfl (lv_at hl 0 rfl) ?_
        refine g8_3 hx hb hts hown hKs hH rfl ho m2_5 dX8_advance_30 ?_
        obtain ⟨j7, hj7, hf⟩ := bnd hf
        refine hw_bald hx hb hKs hH ha3.1 ha3.2 hj7 dX8_advance_33 ?_
        refine lv_bipush (v := 10) hx hb dX8_advance_34 (by decide) ?_
        refine lv_icmp_ne (tgt := 52) hx hb dX8_advance_36 (by decide) (fun c8 => ?_) (fun c8 => ?_)
        · replace hf := (if_neg c8).symm.trans hf
          exact hk _ _ _ _ hH (lv_sub hl [0] rfl) hf
        · replace hf := (if_pos c8).symm.trans hf
          refine hl_aload_n hx hb dX8_advance_39 rfl (lv_at hl 0 rfl) ?_
          refine lv_dup hx hb dX8_advance_40 rv_cat ?_
          refine g8_3 hx hb hts hown hKs hH rfl ho m2_5 dX8_advance_41 ?_
          refine lv_iconst (v := 1) hx hb dX8_advance_44 (by decide) ?_
          refine lv_iadd hx hb dX8_advance_45 ?_
          obtain ⟨w9, hw9, hf⟩ := bnd hf
          replace hw9 := Option.some.inj hw9
          refine p8_3 (v := ((wI w 803 o) + 1)) hx hb hts hown hKs hH rfl ho m2_5 dX8_advance_46 (fun H locs hH => ?_)
          rw [hw9] at hH
          refine lv_goto (tgt := 0) hx hb dX8_advance_49 (by decide) ?_
          exact ih _ _ _ _ hH (lv_sub hl [0] rfl) hf
set_option maxHeartbeats 4000000 in
set_option maxRecDepth 100000 in
theorem l_X8_advance_L216 (C : CX p l e s m args meth c cX8_advance 1 RX8 (Option.none : Option Jvm.ClassFile.FieldType) E) {o : Nat} (ho : K o = some (7, 0)) {w' : Wd} (k : Wd → Option Wd) (hk : ∀ (w : Wd) (H : Heap) (locs : List Loc) (ls : Array Slot), HQ E K z w s H locs → lv_has ls 1 [(0, rv E (some o))] → k w = some w' → W p l e ({ frames := 1, cells := 0, slots := 0, locals := 22 } : Room) s m args below meth c H locs 0 0 (MQ below (QV E K z w') args s 0 0 (hA E)) (F0 m 279 ls [])) : ∀ (n : Nat) (w : Wd) (H : Heap) (locs : List Loc) (ls : Array Slot), HQ E K z w s H locs → lv_has ls 1 [(0, rv E (some o))] → f_X8_advance_L216 K o k n w = some w' → W p l e ({ frames := 1, cells := 0, slots := 0, locals := 22 } : Room) s m args below meth c H locs 0 0 (MQ below (QV E K z w') args s 0 0 (hA E)) (F0 m 216 ls []) := by
  obtain ⟨hx, hb, hml, hown, hts, hKs, hT, hb0, hlocks, hret⟩ := id C
  intro n
  induction n with
  | zero =>
    intro w H locs ls hH hl hf
    cases hf
  | succ n ih =>
    intro w H locs ls hH hl hf
    rw [f_X8_advance_L216] at hf
    refine hl_aload_n hx hb dX8_advance_216 rfl (lv_at hl 0 rfl) ?_
    refine g8_3 hx hb hts hown hKs hH rfl ho m2_5 dX8_advance_217 ?_
    refine hl_aload_n hx hb dX8_advance_220 rfl (lv_at hl 0 rfl) ?_
    refine g8_1 hx hb hts hown hKs hH rfl ho m2_2 dX8_advance_221 ?_
    refine lv_icmp_ge (tgt := 279) hx hb dX8_advance_224 (by decide) (fun c30 => ?_) (fun c30 => ?_)
    · replace hf := (if_pos c30).symm.trans hf
      exact hk _ _ _ _ hH (lv_sub hl [0] rfl) hf
    · replace hf := (if_neg c30).symm.trans hf
      refine hl_aload_n hx hb dX8_advance_227 rfl (lv_at hl 0 rfl) ?_
      refine g8_0 hx hb hts hown hKs hH rfl ho m2_1 dX8_advance_228 ?_
      refine hl_aload_n hx hb dX8_advance_231 rfl (lv_at hl 0 rfl) ?_
      refine g8_3 hx hb hts hown hKs hH rfl ho m2_5 dX8_advance_232 ?_
      obtain ⟨a31, ha31, hf⟩ := bnd hf
      replace ha31 := cha_some ha31
      obtain ⟨j32, hj32, hf⟩ := bnd hf
      refine hw_bald hx hb hKs hH ha31.1 ha31.2 hj32 dX8_advance_235 ?_
      obtain ⟨q33, hq33, hf⟩ := bnd hf
      refine hcS_i hx hb hml hown hts hKs hT hb0 hH (As := [.int ((aI w a31.1 j32))]) (rest := []) (k_X8_isDigit l E K H.size (aI w a31.1 j32) w hq33) (gS m3_72 m3_73 m1_9 m3_74) hs_X8_isDigit ⟨Nat.le_of_ble_eq_true rfl, Nat.le_of_ble_eq_true rfl, rfl, rfl⟩ hl.1 rfl rc0 rfl dX8_advance_236 ⟨Nat.zero_le _, Nat.zero_le _⟩ (fun H locs hH => ?_)
      refine lv_if_eq (tgt := 279) hx hb dX8_advance_239 (by decide) (fun c34 => ?_) (fun c34 => ?_)
      · replace hf := (if_pos c34).symm.trans hf
        exact hk _ _ _ _ hH (lv_sub hl [0] rfl) hf
      · replace hf := (if_neg c34).symm.trans hf
        refine hl_aload_n hx hb dX8_advance_242 rfl (lv_at hl 0 rfl) ?_
        refine hl_aload_n hx hb dX8_advance_243 rfl (lv_at hl 0 rfl) ?_
        refine g8_6 hx hb hts hown hKs hH rfl ho m2_10 dX8_advance_244 ?_
        refine lv_bipush (v := 10) hx hb dX8_advance_247 (by decide) ?_
        refine lv_imul hx hb dX8_advance_249 ?_
        refine hl_aload_n hx hb dX8_advance_250 rfl (lv_at hl 0 rfl) ?_
        refine g8_0 hx hb hts hown hKs hH rfl ho m2_1 dX8_advance_251 ?_
        refine hl_aload_n hx hb dX8_advance_254 rfl (lv_at hl 0 rfl) ?_
        refine g8_3 hx hb hts hown hKs hH rfl ho m2_5 dX8_advance_255 ?_
        obtain ⟨a35, ha35, hf⟩ := bnd hf
        replace ha35 := cha_some ha35
        obtain ⟨j36, hj36, hf⟩ := bnd hf
        refine hw_bald hx hb hKs hH ha35.1 ha35.2 hj36 dX8_advance_258 ?_
        refine lv_bipush (v := 48) hx hb dX8_advance_259 (by decide) ?_
        refine lv_isub hx hb dX8_advance_261 ?_
        refine lv_iadd hx hb dX8_advance_262 ?_
        obtain ⟨w37, hw37, hf⟩ := bnd hf
        replace hw37 := Option.some.inj hw37
        refine p8_6 (v := (((wI q33.2 806 o) * 10) + ((aI q33.2 a35.1 j36) - 48))) hx hb hts hown hKs hH rfl ho m2_10 dX8_advance_263 (fun H locs hH => ?_)
        rw [hw37] at hH
        refine hl_aload_n hx hb dX8_advance_266 rfl (lv_at hl 0 rfl) ?_
        refine lv_dup hx hb dX8_advance_267 rv_cat ?_
        refine g8_3 hx hb hts hown hKs hH rfl ho m2_5 dX8_advance_268 ?_
        refine lv_iconst (v := 1) hx hb dX8_advance_271 (by decide) ?_
        refine lv_iadd hx hb dX8_advance_272 ?_
        obtain ⟨w38, hw38, hf⟩ := bnd hf
        replace hw38 := Option.some.inj hw38
        refine p8_3 (v := ((wI w37 803 o) + 1)) hx hb hts hown hKs hH rfl ho m2_5 dX8_advance_273 (fun H locs hH => ?_)
        rw [hw38] at hH
        refine lv_goto (tgt := 216) hx hb dX8_advance_276 (by decide) ?_
        exact ih _ _ _ _ hH (lv_sub hl [0] rfl) hf
set_option maxHeartbeats 4000000 in
set_option maxRecDepth 100000 in
theorem l_X8_advance_L106 (C : CX p l e s m args meth c cX8_advance 1 RX8 (Option.none : Option Jvm.ClassFile.FieldType) E) {o : Nat} (ho : K o = some (7, 0)) {w' : Wd} (k : Wd → Option Wd) (hk : ∀ (w : Wd) (H : Heap) (locs : List Loc) (ls : Array Slot), HQ E K z w s H locs → lv_has ls 1 [(0, rv E (some o))] → k w = some w' → W p l e ({ frames := 1, cells := 0, slots := 0, locals := 22 } : Room) s m args below meth c H locs 0 0 (MQ below (QV E K z w') args s 0 0 (hA E)) (F0 m 167 ls [])) : ∀ (n : Nat) (w : Wd) (H : Heap) (locs : List Loc) (ls : Array Slot), HQ E K z w s H locs → lv_has ls 1 [(0, rv E (some o))] → f_X8_advance_L106 K o k n w = some w' → W p l e ({ frames := 1, cells := 0, slots := 0, locals := 22 } : Room) s m args below meth c H locs 0 0 (MQ below (QV E K z w') args s 0 0 (hA E)) (F0 m 106 ls []) := by
  obtain ⟨hx, hb, hml, hown, hts, hKs, hT, hb0, hlocks, hret⟩ := id C
  intro n
  induction n with
  | zero =>
    intro w H locs ls hH hl hf
    cases hf
  | succ n ih =>
    intro w H locs ls hH hl hf
    rw [f_X8_advance_L106] at hf
    refine hl_aload_n hx hb dX8_advance_106 rfl (lv_at hl 0 rfl) ?_
    refine g8_3 hx hb hts hown hKs hH rfl ho m2_5 dX8_advance_107 ?_
    refine hl_aload_n hx hb dX8_advance_110 rfl (lv_at hl 0 rfl) ?_
    refine g8_1 hx hb hts hown hKs hH rfl ho m2_2 dX8_advance_111 ?_
    refine lv_icmp_ge (tgt := 167) hx hb dX8_advance_114 (by decide) (fun c43 => ?_) (fun c43 => ?_)
    · replace hf := (if_pos c43).symm.trans hf
      exact hk _ _ _ _ hH (lv_sub hl [0] rfl) hf
    · replace hf := (if_neg c43).symm.trans hf
      refine hl_aload_n hx hb dX8_advance_117 rfl (lv_at hl 0 rfl) ?_
      refine g8_0 hx hb hts hown hKs hH rfl ho m2_1 dX8_advance_118 ?_
      refine hl_aload_n hx hb dX8_advance_121 rfl (lv_at hl 0 rfl) ?_
      refine g8_3 hx hb hts hown hKs hH rfl ho m2_5 dX8_advance_122 ?_
      obtain ⟨a44, ha44, hf⟩ := bnd hf
      replace ha44 := cha_some ha44
      obtain ⟨j45, hj45, hf⟩ := bnd hf
      refine hw_bald hx hb hKs hH ha44.1 ha44.2 hj45 dX8_advance_125 ?_
      obtain ⟨q46, hq46, hf⟩ := bnd hf
      refine hcM_i hx hb hml hown hts hKs hT hb0 hH (As := [.int ((aI w a44.1 j45))]) (rest := []) (k_X12_isLetter l E K H.size (aI w a44.1 j45) w hq46) m3_60 m3_61 m1_1 m3_62 hs_X12_isLetter ⟨Nat.le_of_ble_eq_true rfl, Nat.le_of_ble_eq_true rfl, rfl, rfl⟩ hl.1 rfl rc0 rfl dX8_advance_126 ⟨Nat.zero_le _, Nat.zero_le _⟩ (fun H locs hH => ?_)
      refine lv_if_eq (tgt := 167) hx hb dX8_advance_129 (by decide) (fun c47 => ?_) (fun c47 => ?_)
      · replace hf := (if_pos c47).symm.trans hf
        exact hk _ _ _ _ hH (lv_sub hl [0] rfl) hf
      · replace hf := (if_neg c47).symm.trans hf
        refine hl_aload_n hx hb dX8_advance_132 rfl (lv_at hl 0 rfl) ?_
        refine hl_aload_n hx hb dX8_advance_133 rfl (lv_at hl 0 rfl) ?_
        refine g8_5 hx hb hts hown hKs hH rfl ho m2_8 dX8_advance_134 ?_
        refine lv_bipush (v := 8) hx hb dX8_advance_137 (by decide) ?_
        refine lv_lshl (v := (lsl (wJ q46.2 805 o) 8)) hx hb dX8_advance_139 rfl ?_
        refine hl_aload_n hx hb dX8_advance_140 rfl (lv_at hl 0 rfl) ?_
        refine g8_0 hx hb hts hown hKs hH rfl ho m2_1 dX8_advance_141 ?_
        refine hl_aload_n hx hb dX8_advance_144 rfl (lv_at hl 0 rfl) ?_
        refine g8_3 hx hb hts hown hKs hH rfl ho m2_5 dX8_advance_145 ?_
        obtain ⟨a48, ha48, hf⟩ := bnd hf
        replace ha48 := cha_some ha48
        obtain ⟨j49, hj49, hf⟩ := bnd hf
        refine hw_bald hx hb hKs hH ha48.1 ha48.2 hj49 dX8_advance_148 ?_
        refine lv_i2l (v := ((aI q46.2 a48.1 j49).toInt64)) hx hb dX8_advance_149 rfl ?_
        refine lv_lor hx hb dX8_advance_150 ?_
        obtain ⟨w50, hw50, hf⟩ := bnd hf
        replace hw50 := Option.some.inj hw50
        refine p8_5 (v := ((lsl (wJ q46.2 805 o) 8) ||| ((aI q46.2 a48.1 j49).toInt64))) hx hb hts hown hKs hH rfl ho m2_8 dX8_advance_151 (fun H locs hH => ?_)
        rw [hw50] at hH
        refine hl_aload_n hx hb dX8_advance_154 rfl (lv_at hl 0 rfl) ?_
        refine lv_dup hx hb dX8_advance_155 rv_cat ?_
        refine g8_3 hx hb hts hown hKs hH rfl ho m2_5 dX8_advance_156 ?_
        refine lv_iconst (v := 1) hx hb dX8_advance_159 (by decide) ?_
        refine lv_iadd hx hb dX8_advance_160 ?_
        obtain ⟨w51, hw51, hf⟩ := bnd hf
        replace hw51 := Option.some.inj hw51
        refine p8_3 (v := ((wI w50 803 o) + 1)) hx hb hts hown hKs hH rfl ho m2_5 dX8_advance_161 (fun H locs hH => ?_)
        rw [hw51] at hH
        refine lv_goto (tgt := 106) hx hb dX8_advance_164 (by decide) ?_
        exact ih _ _ _ _ hH (lv_sub hl [0] rfl) hf
set_option maxHeartbeats 4000000 in
set_option maxRecDepth 100000 in
theorem k_X8_advance (l : Launch) (E : Ev) (K : Kd) (z : Nat) (o : Nat) (w : Wd) (ho : K o = some (7, 0)) {w' : Wd} (hf : f_X8_advance K o w = some w') : Met l yX8_advance (Cond.code yX8_advance cX8_advance 1 (Option.none : Option Jvm.ClassFile.FieldType) :: bt) ({ frames := 1, cells := 0, slots := 0, locals := 22 } : Room) (va_Pc [rv E (some o)] (HB E K w z)) (QV E K z w') 0 0 (hA E) := by
  refine Met.ofW (cc := cX8_advance) (maxL := 1) (ret := (Option.none : Option Jvm.ClassFile.FieldType)) (by decide) rfl ?_
  intro p e s m args below meth c s₁ B hml hv
  obtain ⟨rfl, hz, hP, hKs, hT, hb0⟩ := hv
  have C : CX p l e s m _ meth c cX8_advance 1 RX8 (Option.none : Option Jvm.ClassFile.FieldType) E := ⟨B.exec, B.bytes, hml, findClass_of_methodNamed B.named, fun w h => atoms_spec (ws := Cond.code yX8_advance cX8_advance 1 (Option.none : Option Jvm.ClassFile.FieldType) :: bt) B.pre w (List.mem_cons_of_mem _ h), hKs, hT, by rw [hz]; exact hb0, B.notSynchronized, B.returns⟩
  have hH : HQ E K z w s s.heap [] := ⟨hP, va_S.rf, hz⟩
  obtain ⟨hx, hb, hml, hown, hts, hKs, hT, hb0, hlocks, hret⟩ := id C
  have hl := lv_entry [rv E (some o)] (n := 1) (by simp [lg_len_nil, lg_len_i, lg_len_j, lg_len_q, lg_len_f, lg_len_d, lg_len_r])
  rw [lg_entry_eq]
  generalize (lg_sl [rv E (some o)] ++ List.replicate (1 - (lg_sl [rv E (some o)]).length) Slot.unset).toArray = ls at hl ⊢
  replace hl : lv_has ls 1 [(0, rv E (some o))] := by simpa only [lv_args, cat_q, cat_i, cat_j, reduceIte, Nat.reduceEqDiff, Nat.reduceAdd, Nat.zero_add] using hl
  generalize s.heap = H at hH ⊢
  unfold f_X8_advance at hf
  refine l_X8_advance_L0  C ho _ (fun w1 H locs ls hH hl hf => ?_) fu  w _ _ _ hH (lv_sub hl [0] rfl) hf
  refine hl_aload_n hx hb dX8_advance_52 rfl (lv_at hl 0 rfl) ?_
  refine hl_aload_n hx hb dX8_advance_53 rfl (lv_at hl 0 rfl) ?_
  refine g8_3 hx hb hts hown hKs hH rfl ho m2_5 dX8_advance_54 ?_
  obtain ⟨w10, hw10, hf⟩ := bnd hf
  replace hw10 := Option.some.inj hw10
  refine p8_2 (v := (wI w1 803 o)) hx hb hts hown hKs hH rfl ho m2_3 dX8_advance_57 (fun H locs hH => ?_)
  rw [hw10] at hH
  refine hl_aload_n hx hb dX8_advance_60 rfl (lv_at hl 0 rfl) ?_
  refine lv_lconst (v := 0) hx hb dX8_advance_61 rfl ?_
  obtain ⟨w11, hw11, hf⟩ := bnd hf
  replace hw11 := Option.some.inj hw11
  refine p8_5 (v := 0) hx hb hts hown hKs hH rfl ho m2_8 dX8_advance_62 (fun H locs hH => ?_)
  rw [hw11] at hH
  refine hl_aload_n hx hb dX8_advance_65 rfl (lv_at hl 0 rfl) ?_
  refine lv_iconst (v := 0) hx hb dX8_advance_66 (by decide) ?_
  obtain ⟨w12, hw12, hf⟩ := bnd hf
  replace hw12 := Option.some.inj hw12
  refine p8_6 (v := 0) hx hb hts hown hKs hH rfl ho m2_10 dX8_advance_67 (fun H locs hH => ?_)
  rw [hw12] at hH
  refine hl_aload_n hx hb dX8_advance_70 rfl (lv_at hl 0 rfl) ?_
  refine g8_3 hx hb hts hown hKs hH rfl ho m2_5 dX8_advance_71 ?_
  refine hl_aload_n hx hb dX8_advance_74 rfl (lv_at hl 0 rfl) ?_
  refine g8_1 hx hb hts hown hKs hH rfl ho m2_2 dX8_advance_75 ?_
  refine lv_icmp_lt (tgt := 91) hx hb dX8_advance_78 (by decide) (fun c13 => ?_) (fun c13 => ?_)
  · replace hf := (if_pos c13).symm.trans hf
    refine hl_aload_n hx hb dX8_advance_91 rfl (lv_at hl 0 rfl) ?_
    refine g8_0 hx hb hts hown hKs hH rfl ho m2_1 dX8_advance_92 ?_
    refine hl_aload_n hx hb dX8_advance_95 rfl (lv_at hl 0 rfl) ?_
    refine g8_3 hx hb hts hown hKs hH rfl ho m2_5 dX8_advance_96 ?_
    obtain ⟨a14, ha14, hf⟩ := bnd hf
    replace ha14 := cha_some ha14
    obtain ⟨j15, hj15, hf⟩ := bnd hf
    refine hw_bald hx hb hKs hH ha14.1 ha14.2 hj15 dX8_advance_99 ?_
    obtain ⟨q16, hq16, hf⟩ := bnd hf
    refine hcM_i hx hb hml hown hts hKs hT hb0 hH (As := [.int ((aI w12 a14.1 j15))]) (rest := []) (k_X12_isLetter l E K H.size (aI w12 a14.1 j15) w12 hq16) m3_60 m3_61 m1_1 m3_62 hs_X12_isLetter ⟨Nat.le_of_ble_eq_true rfl, Nat.le_of_ble_eq_true rfl, rfl, rfl⟩ hl.1 rfl rc0 rfl dX8_advance_100 ⟨Nat.zero_le _, Nat.zero_le _⟩ (fun H locs hH => ?_)
    refine lv_if_eq (tgt := 201) hx hb dX8_advance_103 (by decide) (fun c17 => ?_) (fun c17 => ?_)
    · replace hf := (if_pos c17).symm.trans hf
      refine hl_aload_n hx hb dX8_advance_201 rfl (lv_at hl 0 rfl) ?_
      refine g8_0 hx hb hts hown hKs hH rfl ho m2_1 dX8_advance_202 ?_
      refine hl_aload_n hx hb dX8_advance_205 rfl (lv_at hl 0 rfl) ?_
      refine g8_3 hx hb hts hown hKs hH rfl ho m2_5 dX8_advance_206 ?_
      obtain ⟨a18, ha18, hf⟩ := bnd hf
      replace ha18 := cha_some ha18
      obtain ⟨j19, hj19, hf⟩ := bnd hf
      refine hw_bald hx hb hKs hH ha18.1 ha18.2 hj19 dX8_advance_209 ?_
      obtain ⟨q20, hq20, hf⟩ := bnd hf
      refine hcS_i hx hb hml hown hts hKs hT hb0 hH (As := [.int ((aI q16.2 a18.1 j19))]) (rest := []) (k_X8_isDigit l E K H.size (aI q16.2 a18.1 j19) q16.2 hq20) (gS m3_72 m3_73 m1_9 m3_74) hs_X8_isDigit ⟨Nat.le_of_ble_eq_true rfl, Nat.le_of_ble_eq_true rfl, rfl, rfl⟩ hl.1 rfl rc0 rfl dX8_advance_210 ⟨Nat.zero_le _, Nat.zero_le _⟩ (fun H locs hH => ?_)
      refine lv_if_eq (tgt := 308) hx hb dX8_advance_213 (by decide) (fun c21 => ?_) (fun c21 => ?_)
      · replace hf := (if_pos c21).symm.trans hf
        refine hl_aload_n hx hb dX8_advance_308 rfl (lv_at hl 0 rfl) ?_
        refine hl_aload_n hx hb dX8_advance_309 rfl (lv_at hl 0 rfl) ?_
        refine g8_0 hx hb hts hown hKs hH rfl ho m2_1 dX8_advance_310 ?_
        refine hl_aload_n hx hb dX8_advance_313 rfl (lv_at hl 0 rfl) ?_
        refine g8_3 hx hb hts hown hKs hH rfl ho m2_5 dX8_advance_314 ?_
        obtain ⟨a22, ha22, hf⟩ := bnd hf
        replace ha22 := cha_some ha22
        obtain ⟨j23, hj23, hf⟩ := bnd hf
        refine hw_bald hx hb hKs hH ha22.1 ha22.2 hj23 dX8_advance_317 ?_
        refine lv_bipush (v := 59) hx hb dX8_advance_318 (by decide) ?_
        refine lv_icmp_ne (tgt := 329) hx hb dX8_advance_320 (by decide) (fun c24 => ?_) (fun c24 => ?_)
        · replace hf := (if_neg c24).symm.trans hf
          refine hw_tok hx hb 20 (by decide) hts hown hT hH m3_63 dX8_advance_329 ?_
          obtain ⟨w25, hw25, hf⟩ := bnd hf
          replace hw25 := Option.some.inj hw25
          refine p8_4 (v := (some 20)) hx hb hts hown hKs hH rfl ho m2_6 dX8_advance_332 (fun H locs hH => ?_)
          rw [hw25] at hH
          refine hl_aload_n hx hb dX8_advance_335 rfl (lv_at hl 0 rfl) ?_
          refine lv_dup hx hb dX8_advance_336 rv_cat ?_
          refine g8_3 hx hb hts hown hKs hH rfl ho m2_5 dX8_advance_337 ?_
          refine lv_iconst (v := 1) hx hb dX8_advance_340 (by decide) ?_
          refine lv_iadd hx hb dX8_advance_341 ?_
          obtain ⟨w26, hw26, hf⟩ := bnd hf
          replace hw26 := Option.some.inj hw26
          refine p8_3 (v := ((wI w25 803 o) + 1)) hx hb hts hown hKs hH rfl ho m2_5 dX8_advance_342 (fun H locs hH => ?_)
          rw [hw26] at hH
          exact hw_vret hx hb hret hf hH hlocks dX8_advance_345
        · replace hf := (if_pos c24).symm.trans hf
          refine hw_tok hx hb 18 (by decide) hts hown hT hH m3_77 dX8_advance_323 ?_
          refine lv_goto (tgt := 332) hx hb dX8_advance_326 (by decide) ?_
          obtain ⟨w27, hw27, hf⟩ := bnd hf
          replace hw27 := Option.some.inj hw27
          refine p8_4 (v := (some 18)) hx hb hts hown hKs hH rfl ho m2_6 dX8_advance_332 (fun H locs hH => ?_)
          rw [hw27] at hH
          refine hl_aload_n hx hb dX8_advance_335 rfl (lv_at hl 0 rfl) ?_
          refine lv_dup hx hb dX8_advance_336 rv_cat ?_
          refine g8_3 hx hb hts hown hKs hH rfl ho m2_5 dX8_advance_337 ?_
          refine lv_iconst (v := 1) hx hb dX8_advance_340 (by decide) ?_
          refine lv_iadd hx hb dX8_advance_341 ?_
          obtain ⟨w28, hw28, hf⟩ := bnd hf
          replace hw28 := Option.some.inj hw28
          refine p8_3 (v := ((wI w27 803 o) + 1)) hx hb hts hown hKs hH rfl ho m2_5 dX8_advance_342 (fun H locs hH => ?_)
          rw [hw28] at hH
          exact hw_vret hx hb hret hf hH hlocks dX8_advance_345
      · replace hf := (if_neg c21).symm.trans hf
        refine l_X8_advance_L216  C ho _ (fun w29 H locs ls hH hl hf => ?_) fu  q20.2 _ _ _ hH (lv_sub hl [0] rfl) hf
        refine hl_aload_n hx hb dX8_advance_279 rfl (lv_at hl 0 rfl) ?_
        refine hl_aload_n hx hb dX8_advance_280 rfl (lv_at hl 0 rfl) ?_
        refine g8_3 hx hb hts hown hKs hH rfl ho m2_5 dX8_advance_281 ?_
        refine hl_aload_n hx hb dX8_advance_284 rfl (lv_at hl 0 rfl) ?_
        refine g8_2 hx hb hts hown hKs hH rfl ho m2_3 dX8_advance_285 ?_
        refine lv_isub hx hb dX8_advance_288 ?_
        refine lv_iconst (v := 3) hx hb dX8_advance_289 (by decide) ?_
        refine lv_icmp_le (tgt := 299) hx hb dX8_advance_290 (by decide) (fun c39 => ?_) (fun c39 => ?_)
        · replace hf := (if_pos c39).symm.trans hf
          refine hw_tok hx hb 17 (by decide) hts hown hT hH m3_75 dX8_advance_299 ?_
          obtain ⟨w40, hw40, hf⟩ := bnd hf
          replace hw40 := Option.some.inj hw40
          refine p8_4 (v := (some 17)) hx hb hts hown hKs hH rfl ho m2_6 dX8_advance_302 (fun H locs hH => ?_)
          rw [hw40] at hH
          refine lv_goto (tgt := 345) hx hb dX8_advance_305 (by decide) ?_
          exact hw_vret hx hb hret hf hH hlocks dX8_advance_345
        · replace hf := (if_neg c39).symm.trans hf
          refine hw_tok hx hb 20 (by decide) hts hown hT hH m3_63 dX8_advance_293 ?_
          refine lv_goto (tgt := 302) hx hb dX8_advance_296 (by decide) ?_
          obtain ⟨w41, hw41, hf⟩ := bnd hf
          replace hw41 := Option.some.inj hw41
          refine p8_4 (v := (some 20)) hx hb hts hown hKs hH rfl ho m2_6 dX8_advance_302 (fun H locs hH => ?_)
          rw [hw41] at hH
          refine lv_goto (tgt := 345) hx hb dX8_advance_305 (by decide) ?_
          exact hw_vret hx hb hret hf hH hlocks dX8_advance_345
    · replace hf := (if_neg c17).symm.trans hf
      refine l_X8_advance_L106  C ho _ (fun w42 H locs ls hH hl hf => ?_) fu  q16.2 _ _ _ hH (lv_sub hl [0] rfl) hf
      refine hl_aload_n hx hb dX8_advance_167 rfl (lv_at hl 0 rfl) ?_
      refine hl_aload_n hx hb dX8_advance_168 rfl (lv_at hl 0 rfl) ?_
      refine g8_3 hx hb hts hown hKs hH rfl ho m2_5 dX8_advance_169 ?_
      refine hl_aload_n hx hb dX8_advance_172 rfl (lv_at hl 0 rfl) ?_
      refine g8_2 hx hb hts hown hKs hH rfl ho m2_3 dX8_advance_173 ?_
      refine lv_isub hx hb dX8_advance_176 ?_
      refine lv_bipush (v := 8) hx hb dX8_advance_177 (by decide) ?_
      refine lv_icmp_le (tgt := 188) hx hb dX8_advance_179 (by decide) (fun c52 => ?_) (fun c52 => ?_)
      · replace hf := (if_pos c52).symm.trans hf
        refine hl_aload_n hx hb dX8_advance_188 rfl (lv_at hl 0 rfl) ?_
        refine g8_5 hx hb hts hown hKs hH rfl ho m2_8 dX8_advance_189 ?_
        obtain ⟨q53, hq53, hf⟩ := bnd hf
        refine hcS_t hx hb hml hown hts hKs hT hb0 hH (As := [.long (wJ w42 805 o)]) (rest := [rv E (some o)]) (k_X11_ofWord l E K H.size (wJ w42 805 o) w42 hq53) (gS m3_65 m3_66 m1_11 m3_67) hs_X11_ofWord ⟨Nat.le_of_ble_eq_true rfl, Nat.le_of_ble_eq_true rfl, rfl, rfl⟩ hl.1 rfl (rcV rc0) rfl dX8_advance_192 ⟨Nat.zero_le _, Nat.zero_le _⟩ (fun H locs hH => ?_)
        obtain ⟨w54, hw54, hf⟩ := bnd hf
        replace hw54 := Option.some.inj hw54
        refine p8_4 (v := q53.1) hx hb hts hown hKs hH rfl ho m2_6 dX8_advance_195 (fun H locs hH => ?_)
        rw [hw54] at hH
        refine lv_goto (tgt := 345) hx hb dX8_advance_198 (by decide) ?_
        exact hw_vret hx hb hret hf hH hlocks dX8_advance_345
      · replace hf := (if_neg c52).symm.trans hf
        refine hw_tok hx hb 20 (by decide) hts hown hT hH m3_63 dX8_advance_182 ?_
        refine lv_goto (tgt := 195) hx hb dX8_advance_185 (by decide) ?_
        obtain ⟨w55, hw55, hf⟩ := bnd hf
        replace hw55 := Option.some.inj hw55
        refine p8_4 (v := (some 20)) hx hb hts hown hKs hH rfl ho m2_6 dX8_advance_195 (fun H locs hH => ?_)
        rw [hw55] at hH
        refine lv_goto (tgt := 345) hx hb dX8_advance_198 (by decide) ?_
        exact hw_vret hx hb hret hf hH hlocks dX8_advance_345
  · replace hf := (if_neg c13).symm.trans hf
    refine hl_aload_n hx hb dX8_advance_81 rfl (lv_at hl 0 rfl) ?_
    refine hw_tok hx hb 19 (by decide) hts hown hT hH m1_239 dX8_advance_82 ?_
    obtain ⟨w56, hw56, hf⟩ := bnd hf
    replace hw56 := Option.some.inj hw56
    refine p8_4 (v := (some 19)) hx hb hts hown hKs hH rfl ho m2_6 dX8_advance_85 (fun H locs hH => ?_)
    rw [hw56] at hH
    refine lv_goto (tgt := 345) hx hb dX8_advance_88 (by decide) ?_
    exact hw_vret hx hb hret hf hH hlocks dX8_advance_345

theorem dX9_clear_0 : decode cX9_clear 0 = .ok (.iconst 0, 1) := by decide +kernel
theorem dX9_clear_1 : decode cX9_clear 1 = .ok (.istore_n 1, 1) := by decide +kernel
theorem dX9_clear_2 : decode cX9_clear 2 = .ok (.iload_n 1, 1) := by decide +kernel
theorem dX9_clear_3 : decode cX9_clear 3 = .ok (.iconst 4, 1) := by decide +kernel
theorem dX9_clear_4 : decode cX9_clear 4 = .ok (.if_icmp .ge 19, 3) := by decide +kernel
theorem dX9_clear_7 : decode cX9_clear 7 = .ok (.aload_n 0, 1) := by decide +kernel
theorem dX9_clear_8 : decode cX9_clear 8 = .ok (.getfield 11, 3) := by decide +kernel
theorem dX9_clear_11 : decode cX9_clear 11 = .ok (.iload_n 1, 1) := by decide +kernel
theorem dX9_clear_12 : decode cX9_clear 12 = .ok (.aaload, 1) := by decide +kernel
theorem dX9_clear_13 : decode cX9_clear 13 = .ok (.iconst 0, 1) := by decide +kernel
theorem dX9_clear_14 : decode cX9_clear 14 = .ok (.putfield 65, 3) := by decide +kernel
theorem dX9_clear_17 : decode cX9_clear 17 = .ok (.iinc 1 1, 3) := by decide +kernel
theorem dX9_clear_20 : decode cX9_clear 20 = .ok (.goto (-18), 3) := by decide +kernel
theorem dX9_clear_23 : decode cX9_clear 23 = .ok (.iconst 0, 1) := by decide +kernel
theorem dX9_clear_24 : decode cX9_clear 24 = .ok (.istore_n 1, 1) := by decide +kernel
theorem dX9_clear_25 : decode cX9_clear 25 = .ok (.iload_n 1, 1) := by decide +kernel
theorem dX9_clear_26 : decode cX9_clear 26 = .ok (.bipush 12, 2) := by decide +kernel
theorem dX9_clear_28 : decode cX9_clear 28 = .ok (.if_icmp .ge 18, 3) := by decide +kernel
theorem dX9_clear_31 : decode cX9_clear 31 = .ok (.aload_n 0, 1) := by decide +kernel
theorem dX9_clear_32 : decode cX9_clear 32 = .ok (.getfield 44, 3) := by decide +kernel
theorem dX9_clear_35 : decode cX9_clear 35 = .ok (.iload_n 1, 1) := by decide +kernel
theorem dX9_clear_36 : decode cX9_clear 36 = .ok (.aaload, 1) := by decide +kernel
theorem dX9_clear_37 : decode cX9_clear 37 = .ok (.invokevirtual 69, 3) := by decide +kernel
theorem dX9_clear_40 : decode cX9_clear 40 = .ok (.iinc 1 1, 3) := by decide +kernel
theorem dX9_clear_43 : decode cX9_clear 43 = .ok (.goto (-18), 3) := by decide +kernel
theorem dX9_clear_46 : decode cX9_clear 46 = .ok (.aload_n 0, 1) := by decide +kernel
theorem dX9_clear_47 : decode cX9_clear 47 = .ok (.getfield 21, 3) := by decide +kernel
theorem dX9_clear_50 : decode cX9_clear 50 = .ok (.iconst 0, 1) := by decide +kernel
theorem dX9_clear_51 : decode cX9_clear 51 = .ok (.invokestatic 70, 3) := by decide +kernel
theorem dX9_clear_54 : decode cX9_clear 54 = .ok (.aload_n 0, 1) := by decide +kernel
theorem dX9_clear_55 : decode cX9_clear 55 = .ok (.getfield 51, 3) := by decide +kernel
theorem dX9_clear_58 : decode cX9_clear 58 = .ok (.invokevirtual 76, 3) := by decide +kernel
theorem dX9_clear_61 : decode cX9_clear 61 = .ok (.aload_n 0, 1) := by decide +kernel
theorem dX9_clear_62 : decode cX9_clear 62 = .ok (.getfield 55, 3) := by decide +kernel
theorem dX9_clear_65 : decode cX9_clear 65 = .ok (.iconst 0, 1) := by decide +kernel
theorem dX9_clear_66 : decode cX9_clear 66 = .ok (.bipush 10, 2) := by decide +kernel
theorem dX9_clear_68 : decode cX9_clear 68 = .ok (.iastore, 1) := by decide +kernel
theorem dX9_clear_69 : decode cX9_clear 69 = .ok (.aload_n 0, 1) := by decide +kernel
theorem dX9_clear_70 : decode cX9_clear 70 = .ok (.getfield 55, 3) := by decide +kernel
theorem dX9_clear_73 : decode cX9_clear 73 = .ok (.iconst 1, 1) := by decide +kernel
theorem dX9_clear_74 : decode cX9_clear 74 = .ok (.iconst 5, 1) := by decide +kernel
theorem dX9_clear_75 : decode cX9_clear 75 = .ok (.iastore, 1) := by decide +kernel
theorem dX9_clear_76 : decode cX9_clear 76 = .ok (.aload_n 0, 1) := by decide +kernel
theorem dX9_clear_77 : decode cX9_clear 77 = .ok (.getfield 55, 3) := by decide +kernel
theorem dX9_clear_80 : decode cX9_clear 80 = .ok (.iconst 2, 1) := by decide +kernel
theorem dX9_clear_81 : decode cX9_clear 81 = .ok (.iconst 0, 1) := by decide +kernel
theorem dX9_clear_82 : decode cX9_clear 82 = .ok (.iastore, 1) := by decide +kernel
theorem dX9_clear_83 : decode cX9_clear 83 = .ok (.aload_n 0, 1) := by decide +kernel
theorem dX9_clear_84 : decode cX9_clear 84 = .ok (.getfield 55, 3) := by decide +kernel
theorem dX9_clear_87 : decode cX9_clear 87 = .ok (.iconst 3, 1) := by decide +kernel
theorem dX9_clear_88 : decode cX9_clear 88 = .ok (.iconst 0, 1) := by decide +kernel
theorem dX9_clear_89 : decode cX9_clear 89 = .ok (.iastore, 1) := by decide +kernel
theorem dX9_clear_90 : decode cX9_clear 90 = .ok (.aload_n 0, 1) := by decide +kernel
theorem dX9_clear_91 : decode cX9_clear 91 = .ok (.iconst 0, 1) := by decide +kernel
theorem dX9_clear_92 : decode cX9_clear 92 = .ok (.putfield 77, 3) := by decide +kernel
theorem dX9_clear_95 : decode cX9_clear 95 = .ok (.aload_n 0, 1) := by decide +kernel
theorem dX9_clear_96 : decode cX9_clear 96 = .ok (.bipush 15, 2) := by decide +kernel
theorem dX9_clear_98 : decode cX9_clear 98 = .ok (.putfield 80, 3) := by decide +kernel
theorem dX9_clear_101 : decode cX9_clear 101 = .ok (.aload_n 0, 1) := by decide +kernel
theorem dX9_clear_102 : decode cX9_clear 102 = .ok (.iconst 0, 1) := by decide +kernel
theorem dX9_clear_103 : decode cX9_clear 103 = .ok (.putfield 83, 3) := by decide +kernel
theorem dX9_clear_106 : decode cX9_clear 106 = .ok (.return_, 1) := by decide +kernel
theorem hd_X9_clear : yX9_clear.cls = RX9 ∧ yX9_clear.cls ≠ "java/lang/invoke/MethodHandle" ∧ yX9_clear.cls ≠ "java/lang/invoke/VarHandle" ∧ (parseMethodDescriptor yX9_clear.desc).map (fun d => d.parameters.length) = some 0 := by decide +kernel
theorem hs_X9_clear : yX9_clear.cls ≠ "java/lang/invoke/MethodHandle" ∧ yX9_clear.cls ≠ "java/lang/invoke/VarHandle" ∧ (parseMethodDescriptor yX9_clear.desc).map (fun d => d.parameters.length) = some 0 := by decide +kernel
set_option maxHeartbeats 4000000 in
set_option maxRecDepth 100000 in
theorem l_X9_clear_L2 (C : CX p l e s m args meth c cX9_clear 2 RX9 (Option.none : Option Jvm.ClassFile.FieldType) E) {o : Nat} (ho : K o = some (8, 0)) {w' : Wd} (k : Int32 → Wd → Option Wd) (hk : ∀ (v1_2 : Int32) (w : Wd) (H : Heap) (locs : List Loc) (ls : Array Slot), HQ E K z w s H locs → lv_has ls 2 [(1, .int v1_2), (0, rv E (some o))] → k v1_2 w = some w' → W p l e ({ frames := 2, cells := 0, slots := 0, locals := 43 } : Room) s m args below meth c H locs 0 0 (MQ below (QV E K z w') args s 0 0 (hA E)) (F0 m 23 ls [])) : ∀ (n : Nat) (v1_2 : Int32) (w : Wd) (H : Heap) (locs : List Loc) (ls : Array Slot), HQ E K z w s H locs → lv_has ls 2 [(1, .int v1_2), (0, rv E (some o))] → f_X9_clear_L2 K o k n v1_2 w = some w' → W p l e ({ frames := 2, cells := 0, slots := 0, locals := 43 } : Room) s m args below meth c H locs 0 0 (MQ below (QV E K z w') args s 0 0 (hA E)) (F0 m 2 ls []) := by
  obtain ⟨hx, hb, hml, hown, hts, hKs, hT, hb0, hlocks, hret⟩ := id C
  intro n
  induction n with
  | zero =>
    intro v1_2 w H locs ls hH hl hf
    cases hf
  | succ n ih =>
    intro v1_2 w H locs ls hH hl hf
    rw [f_X9_clear_L2] at hf
    refine lv_iload_n hx hb dX9_clear_2 rfl (lv_at hl 0 rfl) ?_
    refine lv_iconst (v := 4) hx hb dX9_clear_3 (by decide) ?_
    refine lv_icmp_ge (tgt := 23) hx hb dX9_clear_4 (by decide) (fun c2 => ?_) (fun c2 => ?_)
    · replace hf := (if_pos c2).symm.trans hf
      exact hk v1_2 _ _ _ _ hH (lv_sub hl [0, 1] rfl) hf
    · replace hf := (if_neg c2).symm.trans hf
      refine hl_aload_n hx hb dX9_clear_7 rfl (lv_at hl 1 rfl) ?_
      refine g9_0 hx hb hts hown hKs hH rfl ho m1_150 dX9_clear_8 ?_
      refine lv_iload_n hx hb dX9_clear_11 rfl (lv_at hl 0 rfl) ?_
      obtain ⟨a3, ha3, hf⟩ := bnd hf
      replace ha3 := cha_some ha3
      obtain ⟨j4, hj4, hf⟩ := bnd hf
      refine hw_aald26 hx hb hKs hH ha3.1 ha3.2 hj4 dX9_clear_12 ?_
      refine lv_iconst (v := 0) hx hb dX9_clear_13 (by decide) ?_
      obtain ⟨a5, ha5, hf⟩ := bnd hf
      replace ha5 := chk_some ha5
      obtain ⟨w6, hw6, hf⟩ := bnd hf
      replace hw6 := Option.some.inj hw6
      refine pn4_1 (v := 0) hx hb hts hown hKs hH ha5.1 ha5.2 m1_75 dX9_clear_14 (fun H locs hH => ?_)
      rw [hw6] at hH
      refine lv_iinc (v := (v1_2 + 1)) (lv' := [(1, .int ((v1_2 + 1))), (0, rv E (some o))]) hx hb dX9_clear_17 hl (k := 0) rfl rfl (by decide) rfl (fun ls hl => ?_)
      refine lv_goto (tgt := 2) hx hb dX9_clear_20 (by decide) ?_
      exact ih (v1_2 + 1) _ _ _ _ hH (lv_sub hl [0, 1] rfl) hf
set_option maxHeartbeats 4000000 in
set_option maxRecDepth 100000 in
theorem l_X9_clear_L25 (C : CX p l e s m args meth c cX9_clear 2 RX9 (Option.none : Option Jvm.ClassFile.FieldType) E) {o : Nat} (ho : K o = some (8, 0)) {w' : Wd} (k : Int32 → Wd → Option Wd) (hk : ∀ (v1_25 : Int32) (w : Wd) (H : Heap) (locs : List Loc) (ls : Array Slot), HQ E K z w s H locs → lv_has ls 2 [(1, .int v1_25), (0, rv E (some o))] → k v1_25 w = some w' → W p l e ({ frames := 2, cells := 0, slots := 0, locals := 43 } : Room) s m args below meth c H locs 0 0 (MQ below (QV E K z w') args s 0 0 (hA E)) (F0 m 46 ls [])) : ∀ (n : Nat) (v1_25 : Int32) (w : Wd) (H : Heap) (locs : List Loc) (ls : Array Slot), HQ E K z w s H locs → lv_has ls 2 [(1, .int v1_25), (0, rv E (some o))] → f_X9_clear_L25 K o k n v1_25 w = some w' → W p l e ({ frames := 2, cells := 0, slots := 0, locals := 43 } : Room) s m args below meth c H locs 0 0 (MQ below (QV E K z w') args s 0 0 (hA E)) (F0 m 25 ls []) := by
  obtain ⟨hx, hb, hml, hown, hts, hKs, hT, hb0, hlocks, hret⟩ := id C
  intro n
  induction n with
  | zero =>
    intro v1_25 w H locs ls hH hl hf
    cases hf
  | succ n ih =>
    intro v1_25 w H locs ls hH hl hf
    rw [f_X9_clear_L25] at hf
    refine lv_iload_n hx hb dX9_clear_25 rfl (lv_at hl 0 rfl) ?_
    refine lv_bipush (v := 12) hx hb dX9_clear_26 (by decide) ?_
    refine lv_icmp_ge (tgt := 46) hx hb dX9_clear_28 (by decide) (fun c8 => ?_) (fun c8 => ?_)
    · replace hf := (if_pos c8).symm.trans hf
      exact hk v1_25 _ _ _ _ hH (lv_sub hl [0, 1] rfl) hf
    · replace hf := (if_neg c8).symm.trans hf
      refine hl_aload_n hx hb dX9_clear_31 rfl (lv_at hl 1 rfl) ?_
      refine g9_9 hx hb hts hown hKs hH rfl ho m1_175 dX9_clear_32 ?_
      refine lv_iload_n hx hb dX9_clear_35 rfl (lv_at hl 0 rfl) ?_
      obtain ⟨a9, ha9, hf⟩ := bnd hf
      replace ha9 := cha_some ha9
      obtain ⟨j10, hj10, hf⟩ := bnd hf
      refine hw_aald25 hx hb hKs hH ha9.1 ha9.2 hj10 dX9_clear_36 ?_
      obtain ⟨a11, ha11, hf⟩ := bnd hf
      replace ha11 := chk_some ha11
      obtain ⟨q12, hq12, hf⟩ := bnd hf
      refine hcV_v hx hb hml hown hts hKs hT hb0 hH (As := []) (rest := []) (k_X3_clear l E K H.size a11 w ha11.2 hq12) (gV m1_138 m1_139 m1_140 m1_6 m1_141) hd_X3_clear ⟨Nat.le_of_ble_eq_true rfl, Nat.le_of_ble_eq_true rfl, rfl, rfl⟩ ha11.1 ha11.2 rfl rfl rfl hl.1 rfl rc0 rfl dX9_clear_37 ⟨Nat.zero_le _, Nat.zero_le _⟩ (fun H locs hH => ?_)
      refine lv_iinc (v := (v1_25 + 1)) (lv' := [(1, .int ((v1_25 + 1))), (0, rv E (some o))]) hx hb dX9_clear_40 hl (k := 0) rfl rfl (by decide) rfl (fun ls hl => ?_)
      refine lv_goto (tgt := 25) hx hb dX9_clear_43 (by decide) ?_
      exact ih (v1_25 + 1) _ _ _ _ hH (lv_sub hl [0, 1] rfl) hf
set_option maxHeartbeats 4000000 in
set_option maxRecDepth 100000 in
theorem k_X9_clear (l : Launch) (E : Ev) (K : Kd) (z : Nat) (o : Nat) (w : Wd) (ho : K o = some (8, 0)) {w' : Wd} (hf : f_X9_clear K o w = some w') : Met l yX9_clear (Cond.code yX9_clear cX9_clear 2 (Option.none : Option Jvm.ClassFile.FieldType) :: bt) ({ frames := 2, cells := 0, slots := 0, locals := 43 } : Room) (va_Pc [rv E (some o)] (HB E K w z)) (QV E K z w') 0 0 (hA E) := by
  refine Met.ofW (cc := cX9_clear) (maxL := 2) (ret := (Option.none : Option Jvm.ClassFile.FieldType)) (by decide) rfl ?_
  intro p e s m args below meth c s₁ B hml hv
  obtain ⟨rfl, hz, hP, hKs, hT, hb0⟩ := hv
  have C : CX p l e s m _ meth c cX9_clear 2 RX9 (Option.none : Option Jvm.ClassFile.FieldType) E := ⟨B.exec, B.bytes, hml, findClass_of_methodNamed B.named, fun w h => atoms_spec (ws := Cond.code yX9_clear cX9_clear 2 (Option.none : Option Jvm.ClassFile.FieldType) :: bt) B.pre w (List.mem_cons_of_mem _ h), hKs, hT, by rw [hz]; exact hb0, B.notSynchronized, B.returns⟩
  have hH : HQ E K z w s s.heap [] := ⟨hP, va_S.rf, hz⟩
  obtain ⟨hx, hb, hml, hown, hts, hKs, hT, hb0, hlocks, hret⟩ := id C
  have hl := lv_entry [rv E (some o)] (n := 2) (by simp [lg_len_nil, lg_len_i, lg_len_j, lg_len_q, lg_len_f, lg_len_d, lg_len_r])
  rw [lg_entry_eq]
  generalize (lg_sl [rv E (some o)] ++ List.replicate (2 - (lg_sl [rv E (some o)]).length) Slot.unset).toArray = ls at hl ⊢
  replace hl : lv_has ls 2 [(0, rv E (some o))] := by simpa only [lv_args, cat_q, cat_i, cat_j, reduceIte, Nat.reduceEqDiff, Nat.reduceAdd, Nat.zero_add] using hl
  generalize s.heap = H at hH ⊢
  unfold f_X9_clear at hf
  refine lv_iconst (v := 0) hx hb dX9_clear_0 (by decide) ?_
  refine lv_istore_n (lv' := [(1, .int 0), (0, rv E (some o))]) hx hb dX9_clear_1 rfl hl (by decide) rfl (fun ls hl => ?_)
  refine l_X9_clear_L2  C ho _ (fun v1_2 w1 H locs ls hH hl hf => ?_) fu 0 w _ _ _ hH (lv_sub hl [0, 1] rfl) hf
  refine lv_iconst (v := 0) hx hb dX9_clear_23 (by decide) ?_
  refine lv_istore_n (lv' := [(1, .int 0), (0, rv E (some o))]) hx hb dX9_clear_24 rfl hl (by decide) rfl (fun ls hl => ?_)
  refine l_X9_clear_L25  C ho _ (fun v1_25 w7 H locs ls hH hl hf => ?_) fu 0 w1 _ _ _ hH (lv_sub hl [0, 1] rfl) hf
  refine hl_aload_n hx hb dX9_clear_46 rfl (lv_at hl 1 rfl) ?_
  refine g9_2 hx hb hts hown hKs hH rfl ho m1_157 dX9_clear_47 ?_
  refine lv_iconst (v := 0) hx hb dX9_clear_50 (by decide) ?_
  obtain ⟨q13, hq13, hf⟩ := bnd hf
  refine hcS_v hx hb hml hown hts hKs hT hb0 hH (As := [rv E (wR w7 902 o), .int 0]) (rest := []) (k_J7_fill_53178 l E K H.size (wR w7 902 o) 0 w7 hq13) (gS m1_142 m1_143 m1_7 m1_144) hs_J7_fill_53178 ⟨Nat.le_of_ble_eq_true rfl, Nat.le_of_ble_eq_true rfl, rfl, rfl⟩ hl.1 rfl rc0 rfl dX9_clear_51 ⟨Nat.zero_le _, Nat.zero_le _⟩ (fun H locs hH => ?_)
  refine hl_aload_n hx hb dX9_clear_54 rfl (lv_at hl 1 rfl) ?_
  refine g9_10 hx hb hts hown hKs hH rfl ho m1_181 dX9_clear_55 ?_
  obtain ⟨a14, ha14, hf⟩ := bnd hf
  replace ha14 := chk_some ha14
  obtain ⟨q15, hq15, hf⟩ := bnd hf
  refine hcV_v hx hb hml hown hts hKs hT hb0 hH (As := []) (rest := []) (k_X2_clear l E K H.size a14 q13 ha14.2 hq15) (gV m1_145 m1_146 m1_147 m1_3 m1_148) hd_X2_clear ⟨Nat.le_of_ble_eq_true rfl, Nat.le_of_ble_eq_true rfl, rfl, rfl⟩ ha14.1 ha14.2 rfl rfl rfl hl.1 rfl rc0 rfl dX9_clear_58 ⟨Nat.zero_le _, Nat.zero_le _⟩ (fun H locs hH => ?_)
  refine hl_aload_n hx hb dX9_clear_61 rfl (lv_at hl 1 rfl) ?_
  refine g9_11 hx hb hts hown hKs hH rfl ho m1_184 dX9_clear_62 ?_
  refine lv_iconst (v := 0) hx hb dX9_clear_65 (by decide) ?_
  refine lv_bipush (v := 10) hx hb dX9_clear_66 (by decide) ?_
  obtain ⟨a16, ha16, hf⟩ := bnd hf
  replace ha16 := cha_some ha16
  obtain ⟨j17, hj17, hf⟩ := bnd hf
  obtain ⟨w18, hw18, hf⟩ := bnd hf
  replace hw18 := Option.some.inj hw18
  refine hw_iast (x := 10) hx hb hKs hH ha16.1 ha16.2 hj17 dX9_clear_68 (fun H locs hH => ?_)
  rw [hw18] at hH
  refine hl_aload_n hx hb dX9_clear_69 rfl (lv_at hl 1 rfl) ?_
  refine g9_11 hx hb hts hown hKs hH rfl ho m1_184 dX9_clear_70 ?_
  refine lv_iconst (v := 1) hx hb dX9_clear_73 (by decide) ?_
  refine lv_iconst (v := 5) hx hb dX9_clear_74 (by decide) ?_
  obtain ⟨a19, ha19, hf⟩ := bnd hf
  replace ha19 := cha_some ha19
  obtain ⟨j20, hj20, hf⟩ := bnd hf
  obtain ⟨w21, hw21, hf⟩ := bnd hf
  replace hw21 := Option.some.inj hw21
  refine hw_iast (x := 5) hx hb hKs hH ha19.1 ha19.2 hj20 dX9_clear_75 (fun H locs hH => ?_)
  rw [hw21] at hH
  refine hl_aload_n hx hb dX9_clear_76 rfl (lv_at hl 1 rfl) ?_
  refine g9_11 hx hb hts hown hKs hH rfl ho m1_184 dX9_clear_77 ?_
  refine lv_iconst (v := 2) hx hb dX9_clear_80 (by decide) ?_
  refine lv_iconst (v := 0) hx hb dX9_clear_81 (by decide) ?_
  obtain ⟨a22, ha22, hf⟩ := bnd hf
  replace ha22 := cha_some ha22
  obtain ⟨j23, hj23, hf⟩ := bnd hf
  obtain ⟨w24, hw24, hf⟩ := bnd hf
  replace hw24 := Option.some.inj hw24
  refine hw_iast (x := 0) hx hb hKs hH ha22.1 ha22.2 hj23 dX9_clear_82 (fun H locs hH => ?_)
  rw [hw24] at hH
  refine hl_aload_n hx hb dX9_clear_83 rfl (lv_at hl 1 rfl) ?_
  refine g9_11 hx hb hts hown hKs hH rfl ho m1_184 dX9_clear_84 ?_
  refine lv_iconst (v := 3) hx hb dX9_clear_87 (by decide) ?_
  refine lv_iconst (v := 0) hx hb dX9_clear_88 (by decide) ?_
  obtain ⟨a25, ha25, hf⟩ := bnd hf
  replace ha25 := cha_some ha25
  obtain ⟨j26, hj26, hf⟩ := bnd hf
  obtain ⟨w27, hw27, hf⟩ := bnd hf
  replace hw27 := Option.some.inj hw27
  refine hw_iast (x := 0) hx hb hKs hH ha25.1 ha25.2 hj26 dX9_clear_89 (fun H locs hH => ?_)
  rw [hw27] at hH
  refine hl_aload_n hx hb dX9_clear_90 rfl (lv_at hl 1 rfl) ?_
  refine lv_iconst (v := 0) hx hb dX9_clear_91 (by decide) ?_
  obtain ⟨w28, hw28, hf⟩ := bnd hf
  replace hw28 := Option.some.inj hw28
  refine p9_12 (v := 0) hx hb hts hown hKs hH rfl ho m1_188 dX9_clear_92 (fun H locs hH => ?_)
  rw [hw28] at hH
  refine hl_aload_n hx hb dX9_clear_95 rfl (lv_at hl 1 rfl) ?_
  refine lv_bipush (v := 15) hx hb dX9_clear_96 (by decide) ?_
  obtain ⟨w29, hw29, hf⟩ := bnd hf
  replace hw29 := Option.some.inj hw29
  refine p9_13 (v := 15) hx hb hts hown hKs hH rfl ho m1_190 dX9_clear_98 (fun H locs hH => ?_)
  rw [hw29] at hH
  refine hl_aload_n hx hb dX9_clear_101 rfl (lv_at hl 1 rfl) ?_
  refine lv_iconst (v := 0) hx hb dX9_clear_102 (by decide) ?_
  obtain ⟨w30, hw30, hf⟩ := bnd hf
  replace hw30 := Option.some.inj hw30
  refine p9_14 (v := false) hx hb hts hown hKs hH rfl ho m1_194 dX9_clear_103 (fun H locs hH => ?_)
  rw [hw30] at hH
  exact hw_vret hx hb hret hf hH hlocks dX9_clear_106

theorem dX9_countConflicts_0 : decode cX9_countConflicts 0 = .ok (.iconst 0, 1) := by decide +kernel
theorem dX9_countConflicts_1 : decode cX9_countConflicts 1 = .ok (.istore_n 1, 1) := by decide +kernel
theorem dX9_countConflicts_2 : decode cX9_countConflicts 2 = .ok (.iconst 0, 1) := by decide +kernel
theorem dX9_countConflicts_3 : decode cX9_countConflicts 3 = .ok (.istore_n 2, 1) := by decide +kernel
theorem dX9_countConflicts_4 : decode cX9_countConflicts 4 = .ok (.iload_n 2, 1) := by decide +kernel
theorem dX9_countConflicts_5 : decode cX9_countConflicts 5 = .ok (.aload_n 0, 1) := by decide +kernel
theorem dX9_countConflicts_6 : decode cX9_countConflicts 6 = .ok (.iconst 3, 1) := by decide +kernel
theorem dX9_countConflicts_7 : decode cX9_countConflicts 7 = .ok (.invokevirtual 87, 3) := by decide +kernel
theorem dX9_countConflicts_10 : decode cX9_countConflicts 10 = .ok (.if_icmp .ge 24, 3) := by decide +kernel
theorem dX9_countConflicts_13 : decode cX9_countConflicts 13 = .ok (.iload_n 1, 1) := by decide +kernel
theorem dX9_countConflicts_14 : decode cX9_countConflicts 14 = .ok (.aload_n 0, 1) := by decide +kernel
theorem dX9_countConflicts_15 : decode cX9_countConflicts 15 = .ok (.getfield 44, 3) := by decide +kernel
theorem dX9_countConflicts_18 : decode cX9_countConflicts 18 = .ok (.iload_n 2, 1) := by decide +kernel
theorem dX9_countConflicts_19 : decode cX9_countConflicts 19 = .ok (.aaload, 1) := by decide +kernel
theorem dX9_countConflicts_20 : decode cX9_countConflicts 20 = .ok (.getfield 94, 3) := by decide +kernel
theorem dX9_countConflicts_23 : decode cX9_countConflicts 23 = .ok (.invokestatic 97, 3) := by decide +kernel
theorem dX9_countConflicts_26 : decode cX9_countConflicts 26 = .ok (.iadd, 1) := by decide +kernel
theorem dX9_countConflicts_27 : decode cX9_countConflicts 27 = .ok (.istore_n 1, 1) := by decide +kernel
theorem dX9_countConflicts_28 : decode cX9_countConflicts 28 = .ok (.iinc 2 1, 3) := by decide +kernel
theorem dX9_countConflicts_31 : decode cX9_countConflicts 31 = .ok (.goto (-27), 3) := by decide +kernel
theorem dX9_countConflicts_34 : decode cX9_countConflicts 34 = .ok (.iload_n 1, 1) := by decide +kernel
theorem dX9_countConflicts_35 : decode cX9_countConflicts 35 = .ok (.iconst 2, 1) := by decide +kernel
theorem dX9_countConflicts_36 : decode cX9_countConflicts 36 = .ok (.idiv, 1) := by decide +kernel
theorem dX9_countConflicts_37 : decode cX9_countConflicts 37 = .ok (.ireturn, 1) := by decide +kernel
theorem hd_X9_countConflicts : yX9_countConflicts.cls = RX9 ∧ yX9_countConflicts.cls ≠ "java/lang/invoke/MethodHandle" ∧ yX9_countConflicts.cls ≠ "java/lang/invoke/VarHandle" ∧ (parseMethodDescriptor yX9_countConflicts.desc).map (fun d => d.parameters.length) = some 0 := by decide +kernel
theorem hs_X9_countConflicts : yX9_countConflicts.cls ≠ "java/lang/invoke/MethodHandle" ∧ yX9_countConflicts.cls ≠ "java/lang/invoke/VarHandle" ∧ (parseMethodDescriptor yX9_countConflicts.desc).map (fun d => d.parameters.length) = some 0 := by decide +kernel
set_option maxHeartbeats 4000000 in
set_option maxRecDepth 100000 in
theorem l_X9_countConflicts_L4 (C : CX p l e s m args meth c cX9_countConflicts 3 RX9 (Option.some Jvm.ClassFile.FieldType.int) E) {o : Nat} (ho : K o = some (8, 0)) {r : Int32} {w' : Wd} (k : Int32 → Int32 → Wd → Option (Int32 × Wd)) (hk : ∀ (v1_4 : Int32) (v2_4 : Int32) (w : Wd) (H : Heap) (locs : List Loc) (ls : Array Slot), HQ E K z w s H locs → lv_has ls 3 [(1, .int v1_4), (2, .int v2_4), (0, rv E (some o))] → k v1_4 v2_4 w = some (r, w') → W p l e ({ frames := 1, cells := 0, slots := 0, locals := 21 } : Room) s m args below meth c H locs 0 0 (MQ below (QI E K z w' r) args s 0 0 (hA E)) (F0 m 34 ls [])) : ∀ (n : Nat) (v1_4 : Int32) (v2_4 : Int32) (w : Wd) (H : Heap) (locs : List Loc) (ls : Array Slot), HQ E K z w s H locs → lv_has ls 3 [(1, .int v1_4), (2, .int v2_4), (0, rv E (some o))] → f_X9_countConflicts_L4 K o k n v1_4 v2_4 w = some (r, w') → W p l e ({ frames := 1, cells := 0, slots := 0, locals := 21 } : Room) s m args below meth c H locs 0 0 (MQ below (QI E K z w' r) args s 0 0 (hA E)) (F0 m 4 ls []) := by
  obtain ⟨hx, hb, hml, hown, hts, hKs, hT, hb0, hlocks, hret⟩ := id C
  intro n
  induction n with
  | zero =>
    intro v1_4 v2_4 w H locs ls hH hl hf
    cases hf
  | succ n ih =>
    intro v1_4 v2_4 w H locs ls hH hl hf
    rw [f_X9_countConflicts_L4] at hf
    refine lv_iload_n hx hb dX9_countConflicts_4 rfl (lv_at hl 1 rfl) ?_
    refine hl_aload_n hx hb dX9_countConflicts_5 rfl (lv_at hl 2 rfl) ?_
    refine lv_iconst (v := 3) hx hb dX9_countConflicts_6 (by decide) ?_
    obtain ⟨q2, hq2, hf⟩ := bnd hf
    refine hcV_i hx hb hml hown hts hKs hT hb0 hH (As := [.int 3]) (rest := [.int v2_4]) (k_X9_size l E K H.size o 3 w ho hq2) (gV m4_17 m3_151 m3_152 m1_2 m3_153) hd_X9_size ⟨Nat.le_of_ble_eq_true rfl, Nat.le_of_ble_eq_true rfl, rfl, rfl⟩ rfl ho rfl rfl rfl hl.1 rfl (rcI rc0) rfl dX9_countConflicts_7 ⟨Nat.zero_le _, Nat.zero_le _⟩ (fun H locs hH => ?_)
    refine lv_icmp_ge (tgt := 34) hx hb dX9_countConflicts_10 (by decide) (fun c3 => ?_) (fun c3 => ?_)
    · replace hf := (if_pos c3).symm.trans hf
      exact hk v1_4 v2_4 _ _ _ _ hH (lv_sub hl [0, 1, 2] rfl) hf
    · replace hf := (if_neg c3).symm.trans hf
      refine lv_iload_n hx hb dX9_countConflicts_13 rfl (lv_at hl 0 rfl) ?_
      refine hl_aload_n hx hb dX9_countConflicts_14 rfl (lv_at hl 2 rfl) ?_
      refine g9_9 hx hb hts hown hKs hH rfl ho m1_175 dX9_countConflicts_15 ?_
      refine lv_iload_n hx hb dX9_countConflicts_18 rfl (lv_at hl 1 rfl) ?_
      obtain ⟨a4, ha4, hf⟩ := bnd hf
      replace ha4 := cha_some ha4
      obtain ⟨j5, hj5, hf⟩ := bnd hf
      refine hw_aald25 hx hb hKs hH ha4.1 ha4.2 hj5 dX9_countConflicts_19 ?_
      obtain ⟨a6, ha6, hf⟩ := bnd hf
      replace ha6 := chk_some ha6
      refine gn3_5 hx hb hts hown hKs hH ha6.1 ha6.2 m1_112 dX9_countConflicts_20 ?_
      obtain ⟨q7, hq7, hf⟩ := bnd hf
      refine hcS_i hx hb hml hown hts hKs hT hb0 hH (As := [.int ((wI q2.2 305 a6))]) (rest := [.int v1_4]) (k_J6_bitCount_0f7a4 l E K H.size (wI q2.2 305 a6) q2.2 hq7) (gS m4_18 m4_8 m1_23 m4_9) hs_J6_bitCount_0f7a4 ⟨Nat.le_of_ble_eq_true rfl, Nat.le_of_ble_eq_true rfl, rfl, rfl⟩ hl.1 rfl (rcI rc0) rfl dX9_countConflicts_23 ⟨Nat.zero_le _, Nat.zero_le _⟩ (fun H locs hH => ?_)
      refine lv_iadd hx hb dX9_countConflicts_26 ?_
      refine lv_istore_n (lv' := [(1, .int ((v1_4 + q7.1))), (2, .int v2_4), (0, rv E (some o))]) hx hb dX9_countConflicts_27 rfl hl (by decide) rfl (fun ls hl => ?_)
      refine lv_iinc (v := (v2_4 + 1)) (lv' := [(2, .int ((v2_4 + 1))), (1, .int ((v1_4 + q7.1))), (0, rv E (some o))]) hx hb dX9_countConflicts_28 hl (k := 1) rfl rfl (by decide) rfl (fun ls hl => ?_)
      refine lv_goto (tgt := 4) hx hb dX9_countConflicts_31 (by decide) ?_
      exact ih (v1_4 + q7.1) (v2_4 + 1) _ _ _ _ hH (lv_sub hl [1, 0, 2] rfl) hf
set_option maxHeartbeats 4000000 in
set_option maxRecDepth 100000 in
theorem k_X9_countConflicts (l : Launch) (E : Ev) (K : Kd) (z : Nat) (o : Nat) (w : Wd) (ho : K o = some (8, 0)) {r : Int32} {w' : Wd} (hf : f_X9_countConflicts K o w = some (r, w')) : Met l yX9_countConflicts (Cond.code yX9_countConflicts cX9_countConflicts 3 (Option.some Jvm.ClassFile.FieldType.int) :: bt) ({ frames := 1, cells := 0, slots := 0, locals := 21 } : Room) (va_Pc [rv E (some o)] (HB E K w z)) (QI E K z w' r) 0 0 (hA E) := by
  refine Met.ofW (cc := cX9_countConflicts) (maxL := 3) (ret := (Option.some Jvm.ClassFile.FieldType.int)) (by decide) rfl ?_
  intro p e s m args below meth c s₁ B hml hv
  obtain ⟨rfl, hz, hP, hKs, hT, hb0⟩ := hv
  have C : CX p l e s m _ meth c cX9_countConflicts 3 RX9 (Option.some Jvm.ClassFile.FieldType.int) E := ⟨B.exec, B.bytes, hml, findClass_of_methodNamed B.named, fun w h => atoms_spec (ws := Cond.code yX9_countConflicts cX9_countConflicts 3 (Option.some Jvm.ClassFile.FieldType.int) :: bt) B.pre w (List.mem_cons_of_mem _ h), hKs, hT, by rw [hz]; exact hb0, B.notSynchronized, B.returns⟩
  have hH : HQ E K z w s s.heap [] := ⟨hP, va_S.rf, hz⟩
  obtain ⟨hx, hb, hml, hown, hts, hKs, hT, hb0, hlocks, hret⟩ := id C
  have hl := lv_entry [rv E (some o)] (n := 3) (by simp [lg_len_nil, lg_len_i, lg_len_j, lg_len_q, lg_len_f, lg_len_d, lg_len_r])
  rw [lg_entry_eq]
  generalize (lg_sl [rv E (some o)] ++ List.replicate (3 - (lg_sl [rv E (some o)]).length) Slot.unset).toArray = ls at hl ⊢
  replace hl : lv_has ls 3 [(0, rv E (some o))] := by simpa only [lv_args, cat_q, cat_i, cat_j, reduceIte, Nat.reduceEqDiff, Nat.reduceAdd, Nat.zero_add] using hl
  generalize s.heap = H at hH ⊢
  unfold f_X9_countConflicts at hf
  refine lv_iconst (v := 0) hx hb dX9_countConflicts_0 (by decide) ?_
  refine lv_istore_n (lv' := [(1, .int 0), (0, rv E (some o))]) hx hb dX9_countConflicts_1 rfl hl (by decide) rfl (fun ls hl => ?_)
  refine lv_iconst (v := 0) hx hb dX9_countConflicts_2 (by decide) ?_
  refine lv_istore_n (lv' := [(2, .int 0), (1, .int 0), (0, rv E (some o))]) hx hb dX9_countConflicts_3 rfl hl (by decide) rfl (fun ls hl => ?_)
  refine l_X9_countConflicts_L4  C ho _ (fun v1_4 v2_4 w1 H locs ls hH hl hf => ?_) fu 0 0 w _ _ _ hH (lv_sub hl [1, 0, 2] rfl) hf
  refine lv_iload_n hx hb dX9_countConflicts_34 rfl (lv_at hl 0 rfl) ?_
  refine lv_iconst (v := 2) hx hb dX9_countConflicts_35 (by decide) ?_
  refine lv_idiv hx hb dX9_countConflicts_36 (by decide) ?_
  exact hw_iret hx hb hret hf hH hlocks dX9_countConflicts_37

theorem dX10_begin_0 : decode cX10_begin 0 = .ok (.aload_n 0, 1) := by decide +kernel
theorem dX10_begin_1 : decode cX10_begin 1 = .ok (.aload_n 1, 1) := by decide +kernel
theorem dX10_begin_2 : decode cX10_begin 2 = .ok (.putfield 31, 3) := by decide +kernel
theorem dX10_begin_5 : decode cX10_begin 5 = .ok (.aload_n 0, 1) := by decide +kernel
theorem dX10_begin_6 : decode cX10_begin 6 = .ok (.iconst 0, 1) := by decide +kernel
theorem dX10_begin_7 : decode cX10_begin 7 = .ok (.putfield 39, 3) := by decide +kernel
theorem dX10_begin_10 : decode cX10_begin 10 = .ok (.aload_n 0, 1) := by decide +kernel
theorem dX10_begin_11 : decode cX10_begin 11 = .ok (.getfield 12, 3) := by decide +kernel
theorem dX10_begin_14 : decode cX10_begin 14 = .ok (.aload_n 1, 1) := by decide +kernel
theorem dX10_begin_15 : decode cX10_begin 15 = .ok (.getfield 43, 3) := by decide +kernel
theorem dX10_begin_18 : decode cX10_begin 18 = .ok (.invokevirtual 46, 3) := by decide +kernel
theorem dX10_begin_21 : decode cX10_begin 21 = .ok (.aload_n 1, 1) := by decide +kernel
theorem dX10_begin_22 : decode cX10_begin 22 = .ok (.getfield 50, 3) := by decide +kernel
theorem dX10_begin_25 : decode cX10_begin 25 = .ok (.iconst 0, 1) := by decide +kernel
theorem dX10_begin_26 : decode cX10_begin 26 = .ok (.aload_n 0, 1) := by decide +kernel
theorem dX10_begin_27 : decode cX10_begin 27 = .ok (.getfield 18, 3) := by decide +kernel
theorem dX10_begin_30 : decode cX10_begin 30 = .ok (.iconst 0, 1) := by decide +kernel
theorem dX10_begin_31 : decode cX10_begin 31 = .ok (.aload_n 0, 1) := by decide +kernel
theorem dX10_begin_32 : decode cX10_begin 32 = .ok (.getfield 18, 3) := by decide +kernel
theorem dX10_begin_35 : decode cX10_begin 35 = .ok (.arraylength, 1) := by decide +kernel
theorem dX10_begin_36 : decode cX10_begin 36 = .ok (.invokestatic 51, 3) := by decide +kernel
theorem dX10_begin_39 : decode cX10_begin 39 = .ok (.iconst 0, 1) := by decide +kernel
theorem dX10_begin_40 : decode cX10_begin 40 = .ok (.istore_n 2, 1) := by decide +kernel
theorem dX10_begin_41 : decode cX10_begin 41 = .ok (.iload_n 2, 1) := by decide +kernel
theorem dX10_begin_42 : decode cX10_begin 42 = .ok (.bipush 12, 2) := by decide +kernel
theorem dX10_begin_44 : decode cX10_begin 44 = .ok (.if_icmp .ge 33, 3) := by decide +kernel
theorem dX10_begin_47 : decode cX10_begin 47 = .ok (.aload_n 0, 1) := by decide +kernel
theorem dX10_begin_48 : decode cX10_begin 48 = .ok (.getfield 22, 3) := by decide +kernel
theorem dX10_begin_51 : decode cX10_begin 51 = .ok (.iload_n 2, 1) := by decide +kernel
theorem dX10_begin_52 : decode cX10_begin 52 = .ok (.aload_n 1, 1) := by decide +kernel
theorem dX10_begin_53 : decode cX10_begin 53 = .ok (.getfield 57, 3) := by decide +kernel
theorem dX10_begin_56 : decode cX10_begin 56 = .ok (.iload_n 2, 1) := by decide +kernel
theorem dX10_begin_57 : decode cX10_begin 57 = .ok (.aaload, 1) := by decide +kernel
theorem dX10_begin_58 : decode cX10_begin 58 = .ok (.getfield 61, 3) := by decide +kernel
theorem dX10_begin_61 : decode cX10_begin 61 = .ok (.iastore, 1) := by decide +kernel
theorem dX10_begin_62 : decode cX10_begin 62 = .ok (.aload_n 0, 1) := by decide +kernel
theorem dX10_begin_63 : decode cX10_begin 63 = .ok (.getfield 27, 3) := by decide +kernel
theorem dX10_begin_66 : decode cX10_begin 66 = .ok (.iload_n 2, 1) := by decide +kernel
theorem dX10_begin_67 : decode cX10_begin 67 = .ok (.aaload, 1) := by decide +kernel
theorem dX10_begin_68 : decode cX10_begin 68 = .ok (.invokevirtual 36, 3) := by decide +kernel
theorem dX10_begin_71 : decode cX10_begin 71 = .ok (.iinc 2 1, 3) := by decide +kernel
theorem dX10_begin_74 : decode cX10_begin 74 = .ok (.goto (-33), 3) := by decide +kernel
theorem dX10_begin_77 : decode cX10_begin 77 = .ok (.return_, 1) := by decide +kernel
theorem hd_X10_begin : yX10_begin.cls = RX10 ∧ yX10_begin.cls ≠ "java/lang/invoke/MethodHandle" ∧ yX10_begin.cls ≠ "java/lang/invoke/VarHandle" ∧ (parseMethodDescriptor yX10_begin.desc).map (fun d => d.parameters.length) = some 1 := by decide +kernel
theorem hs_X10_begin : yX10_begin.cls ≠ "java/lang/invoke/MethodHandle" ∧ yX10_begin.cls ≠ "java/lang/invoke/VarHandle" ∧ (parseMethodDescriptor yX10_begin.desc).map (fun d => d.parameters.length) = some 1 := by decide +kernel
set_option maxHeartbeats 4000000 in
set_option maxRecDepth 100000 in
theorem l_X10_begin_L41 (C : CX p l e s m args meth c cX10_begin 3 RX10 (Option.none : Option Jvm.ClassFile.FieldType) E) {o : Nat} (ho : K o = some (9, 0)) {w' : Wd} (k : Option Nat → Int32 → Wd → Option Wd) (hk : ∀ (v1_41 : Option Nat) (v2_41 : Int32) (w : Wd) (H : Heap) (locs : List Loc) (ls : Array Slot), HQ E K z w s H locs → lv_has ls 3 [(1, rv E v1_41), (2, .int v2_41), (0, rv E (some o))] → k v1_41 v2_41 w = some w' → W p l e ({ frames := 2, cells := 0, slots := 0, locals := 81 } : Room) s m args below meth c H locs 0 0 (MQ below (QV E K z w') args s 0 0 (hA E)) (F0 m 77 ls [])) : ∀ (n : Nat) (v1_41 : Option Nat) (v2_41 : Int32) (w : Wd) (H : Heap) (locs : List Loc) (ls : Array Slot), HQ E K z w s H locs → lv_has ls 3 [(1, rv E v1_41), (2, .int v2_41), (0, rv E (some o))] → f_X10_begin_L41 K o k n v1_41 v2_41 w = some w' → W p l e ({ frames := 2, cells := 0, slots := 0, locals := 81 } : Room) s m args below meth c H locs 0 0 (MQ below (QV E K z w') args s 0 0 (hA E)) (F0 m 41 ls []) := by
  obtain ⟨hx, hb, hml, hown, hts, hKs, hT, hb0, hlocks, hret⟩ := id C
  intro n
  induction n with
  | zero =>
    intro v1_41 v2_41 w H locs ls hH hl hf
    cases hf
  | succ n ih =>
    intro v1_41 v2_41 w H locs ls hH hl hf
    rw [f_X10_begin_L41] at hf
    refine lv_iload_n hx hb dX10_begin_41 rfl (lv_at hl 1 rfl) ?_
    refine lv_bipush (v := 12) hx hb dX10_begin_42 (by decide) ?_
    refine lv_icmp_ge (tgt := 77) hx hb dX10_begin_44 (by decide) (fun c11 => ?_) (fun c11 => ?_)
    · replace hf := (if_pos c11).symm.trans hf
      exact hk v1_41 v2_41 _ _ _ _ hH (lv_sub hl [0, 1, 2] rfl) hf
    · replace hf := (if_neg c11).symm.trans hf
      refine hl_aload_n hx hb dX10_begin_47 rfl (lv_at hl 2 rfl) ?_
      refine g10_4 hx hb hts hown hKs hH rfl ho m2_130 dX10_begin_48 ?_
      refine lv_iload_n hx hb dX10_begin_51 rfl (lv_at hl 1 rfl) ?_
      refine hl_aload_n hx hb dX10_begin_52 rfl (lv_at hl 0 rfl) ?_
      obtain ⟨a12, ha12, hf⟩ := bnd hf
      replace ha12 := chk_some ha12
      refine gn9_9 hx hb hts hown hKs hH ha12.1 ha12.2 m1_177 dX10_begin_53 ?_
      refine lv_iload_n hx hb dX10_begin_56 rfl (lv_at hl 1 rfl) ?_
      obtain ⟨a13, ha13, hf⟩ := bnd hf
      replace ha13 := cha_some ha13
      obtain ⟨j14, hj14, hf⟩ := bnd hf
      refine hw_aald25 hx hb hKs hH ha13.1 ha13.2 hj14 dX10_begin_57 ?_
      obtain ⟨a15, ha15, hf⟩ := bnd hf
      replace ha15 := chk_some ha15
      refine gn3_6 hx hb hts hown hKs hH ha15.1 ha15.2 m1_117 dX10_begin_58 ?_
      obtain ⟨a16, ha16, hf⟩ := bnd hf
      replace ha16 := cha_some ha16
      obtain ⟨j17, hj17, hf⟩ := bnd hf
      obtain ⟨w18, hw18, hf⟩ := bnd hf
      replace hw18 := Option.some.inj hw18
      refine hw_iast (x := (wI w 306 a15)) hx hb hKs hH ha16.1 ha16.2 hj17 dX10_begin_61 (fun H locs hH => ?_)
      rw [hw18] at hH
      refine hl_aload_n hx hb dX10_begin_62 rfl (lv_at hl 2 rfl) ?_
      refine g10_5 hx hb hts hown hKs hH rfl ho m2_133 dX10_begin_63 ?_
      refine lv_iload_n hx hb dX10_begin_66 rfl (lv_at hl 1 rfl) ?_
      obtain ⟨a19, ha19, hf⟩ := bnd hf
      replace ha19 := cha_some ha19
      obtain ⟨j20, hj20, hf⟩ := bnd hf
      refine hw_aald27 hx hb hKs hH ha19.1 ha19.2 hj20 dX10_begin_67 ?_
      obtain ⟨a21, ha21, hf⟩ := bnd hf
      replace ha21 := chk_some ha21
      obtain ⟨q22, hq22, hf⟩ := bnd hf
      refine hcV_v hx hb hml hown hts hKs hT hb0 hH (As := []) (rest := []) (k_X7_clear l E K H.size a21 w18 ha21.2 hq22) (gV m2_111 m2_112 m2_113 m1_13 m2_114) hd_X7_clear ⟨Nat.le_of_ble_eq_true rfl, Nat.le_of_ble_eq_true rfl, rfl, rfl⟩ ha21.1 ha21.2 rfl rfl rfl hl.1 rfl rc0 rfl dX10_begin_68 ⟨Nat.zero_le _, Nat.zero_le _⟩ (fun H locs hH => ?_)
      refine lv_iinc (v := (v2_41 + 1)) (lv' := [(2, .int ((v2_41 + 1))), (1, rv E v1_41), (0, rv E (some o))]) hx hb dX10_begin_71 hl (k := 1) rfl rfl (by decide) (by simp [List.filter_cons, cat_q, cat_i, cat_j]) (fun ls hl => ?_)
      refine lv_goto (tgt := 41) hx hb dX10_begin_74 (by decide) ?_
      exact ih v1_41 (v2_41 + 1) _ _ _ _ hH (lv_sub hl [1, 0, 2] rfl) hf
set_option maxHeartbeats 4000000 in
set_option maxRecDepth 100000 in
theorem k_X10_begin (l : Launch) (E : Ev) (K : Kd) (z : Nat) (o : Nat) (a_1 : Option Nat) (w : Wd) (ho : K o = some (9, 0)) {w' : Wd} (hf : f_X10_begin K o a_1 w = some w') : Met l yX10_begin (Cond.code yX10_begin cX10_begin 3 (Option.none : Option Jvm.ClassFile.FieldType) :: bt) ({ frames := 2, cells := 0, slots := 0, locals := 81 } : Room) (va_Pc [rv E (some o), rv E a_1] (HB E K w z)) (QV E K z w') 0 0 (hA E) := by
  refine Met.ofW (cc := cX10_begin) (maxL := 3) (ret := (Option.none : Option Jvm.ClassFile.FieldType)) (by decide) rfl ?_
  intro p e s m args below meth c s₁ B hml hv
  obtain ⟨rfl, hz, hP, hKs, hT, hb0⟩ := hv
  have C : CX p l e s m _ meth c cX10_begin 3 RX10 (Option.none : Option Jvm.ClassFile.FieldType) E := ⟨B.exec, B.bytes, hml, findClass_of_methodNamed B.named, fun w h => atoms_spec (ws := Cond.code yX10_begin cX10_begin 3 (Option.none : Option Jvm.ClassFile.FieldType) :: bt) B.pre w (List.mem_cons_of_mem _ h), hKs, hT, by rw [hz]; exact hb0, B.notSynchronized, B.returns⟩
  have hH : HQ E K z w s s.heap [] := ⟨hP, va_S.rf, hz⟩
  obtain ⟨hx, hb, hml, hown, hts, hKs, hT, hb0, hlocks, hret⟩ := id C
  have hl := lv_entry [rv E (some o), rv E a_1] (n := 3) (by simp [lg_len_nil, lg_len_i, lg_len_j, lg_len_q, lg_len_f, lg_len_d, lg_len_r])
  rw [lg_entry_eq]
  generalize (lg_sl [rv E (some o), rv E a_1] ++ List.replicate (3 - (lg_sl [rv E (some o), rv E a_1]).length) Slot.unset).toArray = ls at hl ⊢
  replace hl : lv_has ls 3 [(0, rv E (some o)), (1, rv E a_1)] := by simpa only [lv_args, cat_q, cat_i, cat_j, reduceIte, Nat.reduceEqDiff, Nat.reduceAdd, Nat.zero_add] using hl
  generalize s.heap = H at hH ⊢
  unfold f_X10_begin at hf
  refine hl_aload_n hx hb dX10_begin_0 rfl (lv_at hl 0 rfl) ?_
  refine hl_aload_n hx hb dX10_begin_1 rfl (lv_at hl 1 rfl) ?_
  obtain ⟨w1, hw1, hf⟩ := bnd hf
  replace hw1 := Option.some.inj hw1
  refine p10_0 (v := a_1) hx hb hts hown hKs hH rfl ho m2_119 dX10_begin_2 (fun H locs hH => ?_)
  rw [hw1] at hH
  refine hl_aload_n hx hb dX10_begin_5 rfl (lv_at hl 0 rfl) ?_
  refine lv_iconst (v := 0) hx hb dX10_begin_6 (by decide) ?_
  obtain ⟨w2, hw2, hf⟩ := bnd hf
  replace hw2 := Option.some.inj hw2
  refine p10_1 (v := 0) hx hb hts hown hKs hH rfl ho m2_123 dX10_begin_7 (fun H locs hH => ?_)
  rw [hw2] at hH
  refine hl_aload_n hx hb dX10_begin_10 rfl (lv_at hl 0 rfl) ?_
  refine g10_2 hx hb hts hown hKs hH rfl ho m2_126 dX10_begin_11 ?_
  refine hl_aload_n hx hb dX10_begin_14 rfl (lv_at hl 1 rfl) ?_
  obtain ⟨a3, ha3, hf⟩ := bnd hf
  replace ha3 := chk_some ha3
  refine gn9_10 hx hb hts hown hKs hH ha3.1 ha3.2 m1_182 dX10_begin_15 ?_
  obtain ⟨a4, ha4, hf⟩ := bnd hf
  replace ha4 := chk_some ha4
  obtain ⟨q5, hq5, hf⟩ := bnd hf
  refine hcV_v hx hb hml hown hts hKs hT hb0 hH (As := [rv E (wR w2 910 a3)]) (rest := []) (k_X2_copyFrom l E K H.size a4 (wR w2 910 a3) w2 ha4.2 hq5) (gV m3_221 m3_222 m3_223 m1_3 m3_224) hd_X2_copyFrom ⟨Nat.le_of_ble_eq_true rfl, Nat.le_of_ble_eq_true rfl, rfl, rfl⟩ ha4.1 ha4.2 rfl rfl rfl hl.1 rfl rc0 rfl dX10_begin_18 ⟨Nat.zero_le _, Nat.zero_le _⟩ (fun H locs hH => ?_)
  refine hl_aload_n hx hb dX10_begin_21 rfl (lv_at hl 1 rfl) ?_
  refine gn9_6 hx hb hts hown hKs hH ha3.1 ha3.2 m1_165 dX10_begin_22 ?_
  refine lv_iconst (v := 0) hx hb dX10_begin_25 (by decide) ?_
  refine hl_aload_n hx hb dX10_begin_26 rfl (lv_at hl 0 rfl) ?_
  refine g10_3 hx hb hts hown hKs hH rfl ho m2_128 dX10_begin_27 ?_
  refine lv_iconst (v := 0) hx hb dX10_begin_30 (by decide) ?_
  refine hl_aload_n hx hb dX10_begin_31 rfl (lv_at hl 0 rfl) ?_
  refine g10_3 hx hb hts hown hKs hH rfl ho m2_128 dX10_begin_32 ?_
  obtain ⟨a6, ha6, hf⟩ := bnd hf
  replace ha6 := cha_some ha6
  refine hw_alen20 hx hb hKs hH ha6.1 ha6.2 dX10_begin_35 ?_
  obtain ⟨a7, ha7, hf⟩ := bnd hf
  replace ha7 := cha_some ha7
  obtain ⟨_, hg8, hf⟩ := bnd hf
  replace hg8 := grd_some hg8
  obtain ⟨w9, hw9, hf⟩ := bnd hf
  replace hw9 := Option.some.inj hw9
  refine hw_copy hx hb (hml.trans hl.1.symm) hown (hts _ m3_228) (va_Nw.use rfl hKs.2.2.2.2) (hts _ m3_226) (hts _ m1_18) hKs hH ha7.1 ha7.2 ha6.1 ha6.2 hg8.1 hg8.2.1 hg8.2.2.1 hg8.2.2.2.1 hg8.2.2.2.2 (Nat.le_of_ble_eq_true rfl) (by decide) dX10_begin_36 (fun H locs hH => ?_)
  rw [hw9] at hH
  refine lv_iconst (v := 0) hx hb dX10_begin_39 (by decide) ?_
  refine lv_istore_n (lv' := [(2, .int 0), (0, rv E (some o)), (1, rv E a_1)]) hx hb dX10_begin_40 rfl hl (by decide) (by simp [List.filter_cons, cat_q, cat_i, cat_j]) (fun ls hl => ?_)
  refine l_X10_begin_L41  C ho _ (fun v1_41 v2_41 w10 H locs ls hH hl hf => ?_) fu a_1 0 w9 _ _ _ hH (lv_sub hl [2, 0, 1] rfl) hf
  exact hw_vret hx hb hret hf hH hlocks dX10_begin_77

theorem dX10_countBars_0 : decode cX10_countBars 0 = .ok (.iconst 0, 1) := by decide +kernel
theorem dX10_countBars_1 : decode cX10_countBars 1 = .ok (.istore_n 1, 1) := by decide +kernel
theorem dX10_countBars_2 : decode cX10_countBars 2 = .ok (.iconst 0, 1) := by decide +kernel
theorem dX10_countBars_3 : decode cX10_countBars 3 = .ok (.istore_n 2, 1) := by decide +kernel
theorem dX10_countBars_4 : decode cX10_countBars 4 = .ok (.iload_n 2, 1) := by decide +kernel
theorem dX10_countBars_5 : decode cX10_countBars 5 = .ok (.aload_n 0, 1) := by decide +kernel
theorem dX10_countBars_6 : decode cX10_countBars 6 = .ok (.getfield 31, 3) := by decide +kernel
theorem dX10_countBars_9 : decode cX10_countBars 9 = .ok (.iconst 3, 1) := by decide +kernel
theorem dX10_countBars_10 : decode cX10_countBars 10 = .ok (.invokevirtual 92, 3) := by decide +kernel
theorem dX10_countBars_13 : decode cX10_countBars 13 = .ok (.if_icmp .ge 21, 3) := by decide +kernel
theorem dX10_countBars_16 : decode cX10_countBars 16 = .ok (.iload_n 1, 1) := by decide +kernel
theorem dX10_countBars_17 : decode cX10_countBars 17 = .ok (.aload_n 0, 1) := by decide +kernel
theorem dX10_countBars_18 : decode cX10_countBars 18 = .ok (.getfield 22, 3) := by decide +kernel
theorem dX10_countBars_21 : decode cX10_countBars 21 = .ok (.iload_n 2, 1) := by decide +kernel
theorem dX10_countBars_22 : decode cX10_countBars 22 = .ok (.iaload, 1) := by decide +kernel
theorem dX10_countBars_23 : decode cX10_countBars 23 = .ok (.invokestatic 98, 3) := by decide +kernel
theorem dX10_countBars_26 : decode cX10_countBars 26 = .ok (.iadd, 1) := by decide +kernel
theorem dX10_countBars_27 : decode cX10_countBars 27 = .ok (.istore_n 1, 1) := by decide +kernel
theorem dX10_countBars_28 : decode cX10_countBars 28 = .ok (.iinc 2 1, 3) := by decide +kernel
theorem dX10_countBars_31 : decode cX10_countBars 31 = .ok (.goto (-27), 3) := by decide +kernel
theorem dX10_countBars_34 : decode cX10_countBars 34 = .ok (.iload_n 1, 1) := by decide +kernel
theorem dX10_countBars_35 : decode cX10_countBars 35 = .ok (.ireturn, 1) := by decide +kernel
theorem hd_X10_countBars : yX10_countBars.cls = RX10 ∧ yX10_countBars.cls ≠ "java/lang/invoke/MethodHandle" ∧ yX10_countBars.cls ≠ "java/lang/invoke/VarHandle" ∧ (parseMethodDescriptor yX10_countBars.desc).map (fun d => d.parameters.length) = some 0 := by decide +kernel
theorem hs_X10_countBars : yX10_countBars.cls ≠ "java/lang/invoke/MethodHandle" ∧ yX10_countBars.cls ≠ "java/lang/invoke/VarHandle" ∧ (parseMethodDescriptor yX10_countBars.desc).map (fun d => d.parameters.length) = some 0 := by decide +kernel
set_option maxHeartbeats 4000000 in
set_option maxRecDepth 100000 in
theorem l_X10_countBars_L4 (C : CX p l e s m args meth c cX10_countBars 3 RX10 (Option.some Jvm.ClassFile.FieldType.int) E) {o : Nat} (ho : K o = some (9, 0)) {r : Int32} {w' : Wd} (k : Int32 → Int32 → Wd → Option (Int32 × Wd)) (hk : ∀ (v1_4 : Int32) (v2_4 : Int32) (w : Wd) (H : Heap) (locs : List Loc) (ls : Array Slot), HQ E K z w s H locs → lv_has ls 3 [(1, .int v1_4), (2, .int v2_4), (0, rv E (some o))] → k v1_4 v2_4 w = some (r, w') → W p l e ({ frames := 1, cells := 0, slots := 0, locals := 21 } : Room) s m args below meth c H locs 0 0 (MQ below (QI E K z w' r) args s 0 0 (hA E)) (F0 m 34 ls [])) : ∀ (n : Nat) (v1_4 : Int32) (v2_4 : Int32) (w : Wd) (H : Heap) (locs : List Loc) (ls : Array Slot), HQ E K z w s H locs → lv_has ls 3 [(1, .int v1_4), (2, .int v2_4), (0, rv E (some o))] → f_X10_countBars_L4 K o k n v1_4 v2_4 w = some (r, w') → W p l e ({ frames := 1, cells := 0, slots := 0, locals := 21 } : Room) s m args below meth c H locs 0 0 (MQ below (QI E K z w' r) args s 0 0 (hA E)) (F0 m 4 ls []) := by
  obtain ⟨hx, hb, hml, hown, hts, hKs, hT, hb0, hlocks, hret⟩ := id C
  intro n
  induction n with
  | zero =>
    intro v1_4 v2_4 w H locs ls hH hl hf
    cases hf
  | succ n ih =>
    intro v1_4 v2_4 w H locs ls hH hl hf
    rw [f_X10_countBars_L4] at hf
    refine lv_iload_n hx hb dX10_countBars_4 rfl (lv_at hl 1 rfl) ?_
    refine hl_aload_n hx hb dX10_countBars_5 rfl (lv_at hl 2 rfl) ?_
    refine g10_0 hx hb hts hown hKs hH rfl ho m2_119 dX10_countBars_6 ?_
    refine lv_iconst (v := 3) hx hb dX10_countBars_9 (by decide) ?_
    obtain ⟨a2, ha2, hf⟩ := bnd hf
    replace ha2 := chk_some ha2
    obtain ⟨q3, hq3, hf⟩ := bnd hf
    refine hcV_i hx hb hml hown hts hKs hT hb0 hH (As := [.int 3]) (rest := [.int v2_4]) (k_X9_size l E K H.size a2 3 w ha2.2 hq3) (gV m4_6 m3_151 m3_152 m1_2 m3_153) hd_X9_size ⟨Nat.le_of_ble_eq_true rfl, Nat.le_of_ble_eq_true rfl, rfl, rfl⟩ ha2.1 ha2.2 rfl rfl rfl hl.1 rfl (rcI rc0) rfl dX10_countBars_10 ⟨Nat.zero_le _, Nat.zero_le _⟩ (fun H locs hH => ?_)
    refine lv_icmp_ge (tgt := 34) hx hb dX10_countBars_13 (by decide) (fun c4 => ?_) (fun c4 => ?_)
    · replace hf := (if_pos c4).symm.trans hf
      exact hk v1_4 v2_4 _ _ _ _ hH (lv_sub hl [0, 1, 2] rfl) hf
    · replace hf := (if_neg c4).symm.trans hf
      refine lv_iload_n hx hb dX10_countBars_16 rfl (lv_at hl 0 rfl) ?_
      refine hl_aload_n hx hb dX10_countBars_17 rfl (lv_at hl 2 rfl) ?_
      refine g10_4 hx hb hts hown hKs hH rfl ho m2_130 dX10_countBars_18 ?_
      refine lv_iload_n hx hb dX10_countBars_21 rfl (lv_at hl 1 rfl) ?_
      obtain ⟨a5, ha5, hf⟩ := bnd hf
      replace ha5 := cha_some ha5
      obtain ⟨j6, hj6, hf⟩ := bnd hf
      refine hw_iald hx hb hKs hH ha5.1 ha5.2 hj6 dX10_countBars_22 ?_
      obtain ⟨q7, hq7, hf⟩ := bnd hf
      refine hcS_i hx hb hml hown hts hKs hT hb0 hH (As := [.int ((aI q3.2 a5.1 j6))]) (rest := [.int v1_4]) (k_J6_bitCount_0f7a4 l E K H.size (aI q3.2 a5.1 j6) q3.2 hq7) (gS m4_7 m4_8 m1_23 m4_9) hs_J6_bitCount_0f7a4 ⟨Nat.le_of_ble_eq_true rfl, Nat.le_of_ble_eq_true rfl, rfl, rfl⟩ hl.1 rfl (rcI rc0) rfl dX10_countBars_23 ⟨Nat.zero_le _, Nat.zero_le _⟩ (fun H locs hH => ?_)
      refine lv_iadd hx hb dX10_countBars_26 ?_
      refine lv_istore_n (lv' := [(1, .int ((v1_4 + q7.1))), (2, .int v2_4), (0, rv E (some o))]) hx hb dX10_countBars_27 rfl hl (by decide) rfl (fun ls hl => ?_)
      refine lv_iinc (v := (v2_4 + 1)) (lv' := [(2, .int ((v2_4 + 1))), (1, .int ((v1_4 + q7.1))), (0, rv E (some o))]) hx hb dX10_countBars_28 hl (k := 1) rfl rfl (by decide) rfl (fun ls hl => ?_)
      refine lv_goto (tgt := 4) hx hb dX10_countBars_31 (by decide) ?_
      exact ih (v1_4 + q7.1) (v2_4 + 1) _ _ _ _ hH (lv_sub hl [1, 0, 2] rfl) hf
set_option maxHeartbeats 4000000 in
set_option maxRecDepth 100000 in
theorem k_X10_countBars (l : Launch) (E : Ev) (K : Kd) (z : Nat) (o : Nat) (w : Wd) (ho : K o = some (9, 0)) {r : Int32} {w' : Wd} (hf : f_X10_countBars K o w = some (r, w')) : Met l yX10_countBars (Cond.code yX10_countBars cX10_countBars 3 (Option.some Jvm.ClassFile.FieldType.int) :: bt) ({ frames := 1, cells := 0, slots := 0, locals := 21 } : Room) (va_Pc [rv E (some o)] (HB E K w z)) (QI E K z w' r) 0 0 (hA E) := by
  refine Met.ofW (cc := cX10_countBars) (maxL := 3) (ret := (Option.some Jvm.ClassFile.FieldType.int)) (by decide) rfl ?_
  intro p e s m args below meth c s₁ B hml hv
  obtain ⟨rfl, hz, hP, hKs, hT, hb0⟩ := hv
  have C : CX p l e s m _ meth c cX10_countBars 3 RX10 (Option.some Jvm.ClassFile.FieldType.int) E := ⟨B.exec, B.bytes, hml, findClass_of_methodNamed B.named, fun w h => atoms_spec (ws := Cond.code yX10_countBars cX10_countBars 3 (Option.some Jvm.ClassFile.FieldType.int) :: bt) B.pre w (List.mem_cons_of_mem _ h), hKs, hT, by rw [hz]; exact hb0, B.notSynchronized, B.returns⟩
  have hH : HQ E K z w s s.heap [] := ⟨hP, va_S.rf, hz⟩
  obtain ⟨hx, hb, hml, hown, hts, hKs, hT, hb0, hlocks, hret⟩ := id C
  have hl := lv_entry [rv E (some o)] (n := 3) (by simp [lg_len_nil, lg_len_i, lg_len_j, lg_len_q, lg_len_f, lg_len_d, lg_len_r])
  rw [lg_entry_eq]
  generalize (lg_sl [rv E (some o)] ++ List.replicate (3 - (lg_sl [rv E (some o)]).length) Slot.unset).toArray = ls at hl ⊢
  replace hl : lv_has ls 3 [(0, rv E (some o))] := by simpa only [lv_args, cat_q, cat_i, cat_j, reduceIte, Nat.reduceEqDiff, Nat.reduceAdd, Nat.zero_add] using hl
  generalize s.heap = H at hH ⊢
  unfold f_X10_countBars at hf
  refine lv_iconst (v := 0) hx hb dX10_countBars_0 (by decide) ?_
  refine lv_istore_n (lv' := [(1, .int 0), (0, rv E (some o))]) hx hb dX10_countBars_1 rfl hl (by decide) rfl (fun ls hl => ?_)
  refine lv_iconst (v := 0) hx hb dX10_countBars_2 (by decide) ?_
  refine lv_istore_n (lv' := [(2, .int 0), (1, .int 0), (0, rv E (some o))]) hx hb dX10_countBars_3 rfl hl (by decide) rfl (fun ls hl => ?_)
  refine l_X10_countBars_L4  C ho _ (fun v1_4 v2_4 w1 H locs ls hH hl hf => ?_) fu 0 0 w _ _ _ hH (lv_sub hl [1, 0, 2] rfl) hf
  refine lv_iload_n hx hb dX10_countBars_34 rfl (lv_at hl 0 rfl) ?_
  exact hw_iret hx hb hret hf hH hlocks dX10_countBars_35

theorem dX10_caseTaking_0 : decode cX10_caseTaking 0 = .ok (.iconst 0, 1) := by decide +kernel
theorem dX10_caseTaking_1 : decode cX10_caseTaking 1 = .ok (.istore 4, 2) := by decide +kernel
theorem dX10_caseTaking_3 : decode cX10_caseTaking 3 = .ok (.iload 4, 2) := by decide +kernel
theorem dX10_caseTaking_5 : decode cX10_caseTaking 5 = .ok (.aload_n 0, 1) := by decide +kernel
theorem dX10_caseTaking_6 : decode cX10_caseTaking 6 = .ok (.getfield 31, 3) := by decide +kernel
theorem dX10_caseTaking_9 : decode cX10_caseTaking 9 = .ok (.iconst 3, 1) := by decide +kernel
theorem dX10_caseTaking_10 : decode cX10_caseTaking 10 = .ok (.invokevirtual 92, 3) := by decide +kernel
theorem dX10_caseTaking_13 : decode cX10_caseTaking 13 = .ok (.if_icmp .ge 53, 3) := by decide +kernel
theorem dX10_caseTaking_16 : decode cX10_caseTaking 16 = .ok (.aload_n 0, 1) := by decide +kernel
theorem dX10_caseTaking_17 : decode cX10_caseTaking 17 = .ok (.getfield 27, 3) := by decide +kernel
theorem dX10_caseTaking_20 : decode cX10_caseTaking 20 = .ok (.iload 4, 2) := by decide +kernel
theorem dX10_caseTaking_22 : decode cX10_caseTaking 22 = .ok (.aaload, 1) := by decide +kernel
theorem dX10_caseTaking_23 : decode cX10_caseTaking 23 = .ok (.iload_n 2, 1) := by decide +kernel
theorem dX10_caseTaking_24 : decode cX10_caseTaking 24 = .ok (.invokevirtual 120, 3) := by decide +kernel
theorem dX10_caseTaking_27 : decode cX10_caseTaking 27 = .ok (.ifCond .eq 33, 3) := by decide +kernel
theorem dX10_caseTaking_30 : decode cX10_caseTaking 30 = .ok (.aload_n 0, 1) := by decide +kernel
theorem dX10_caseTaking_31 : decode cX10_caseTaking 31 = .ok (.getfield 27, 3) := by decide +kernel
theorem dX10_caseTaking_34 : decode cX10_caseTaking 34 = .ok (.iload 4, 2) := by decide +kernel
theorem dX10_caseTaking_36 : decode cX10_caseTaking 36 = .ok (.aaload, 1) := by decide +kernel
theorem dX10_caseTaking_37 : decode cX10_caseTaking 37 = .ok (.getfield 116, 3) := by decide +kernel
theorem dX10_caseTaking_40 : decode cX10_caseTaking 40 = .ok (.iload_n 1, 1) := by decide +kernel
theorem dX10_caseTaking_41 : decode cX10_caseTaking 41 = .ok (.if_icmp .ne 19, 3) := by decide +kernel
theorem dX10_caseTaking_44 : decode cX10_caseTaking 44 = .ok (.aload_n 0, 1) := by decide +kernel
theorem dX10_caseTaking_45 : decode cX10_caseTaking 45 = .ok (.iload 4, 2) := by decide +kernel
theorem dX10_caseTaking_47 : decode cX10_caseTaking 47 = .ok (.invokevirtual 123, 3) := by decide +kernel
theorem dX10_caseTaking_50 : decode cX10_caseTaking 50 = .ok (.iload_n 3, 1) := by decide +kernel
theorem dX10_caseTaking_51 : decode cX10_caseTaking 51 = .ok (.invokestatic 106, 3) := by decide +kernel
theorem dX10_caseTaking_54 : decode cX10_caseTaking 54 = .ok (.ifCond .eq 6, 3) := by decide +kernel
theorem dX10_caseTaking_57 : decode cX10_caseTaking 57 = .ok (.iload 4, 2) := by decide +kernel
theorem dX10_caseTaking_59 : decode cX10_caseTaking 59 = .ok (.ireturn, 1) := by decide +kernel
theorem dX10_caseTaking_60 : decode cX10_caseTaking 60 = .ok (.iinc 4 1, 3) := by decide +kernel
theorem dX10_caseTaking_63 : decode cX10_caseTaking 63 = .ok (.goto (-60), 3) := by decide +kernel
theorem dX10_caseTaking_66 : decode cX10_caseTaking 66 = .ok (.iconst (-1), 1) := by decide +kernel
theorem dX10_caseTaking_67 : decode cX10_caseTaking 67 = .ok (.ireturn, 1) := by decide +kernel
theorem hd_X10_caseTaking : yX10_caseTaking.cls = RX10 ∧ yX10_caseTaking.cls ≠ "java/lang/invoke/MethodHandle" ∧ yX10_caseTaking.cls ≠ "java/lang/invoke/VarHandle" ∧ (parseMethodDescriptor yX10_caseTaking.desc).map (fun d => d.parameters.length) = some 3 := by decide +kernel
theorem hs_X10_caseTaking : yX10_caseTaking.cls ≠ "java/lang/invoke/MethodHandle" ∧ yX10_caseTaking.cls ≠ "java/lang/invoke/VarHandle" ∧ (parseMethodDescriptor yX10_caseTaking.desc).map (fun d => d.parameters.length) = some 3 := by decide +kernel
set_option maxHeartbeats 4000000 in
set_option maxRecDepth 100000 in
theorem l_X10_caseTaking_L3 (C : CX p l e s m args meth c cX10_caseTaking 5 RX10 (Option.some Jvm.ClassFile.FieldType.int) E) {o : Nat} (ho : K o = some (9, 0)) {r : Int32} {w' : Wd} (k : Int32 → Int32 → Int32 → Int32 → Wd → Option (Int32 × Wd)) (hk : ∀ (v1_3 : Int32) (v2_3 : Int32) (v3_3 : Int32) (v4_3 : Int32) (w : Wd) (H : Heap) (locs : List Loc) (ls : Array Slot), HQ E K z w s H locs → lv_has ls 5 [(1, .int v1_3), (2, .int v2_3), (3, .int v3_3), (4, .int v4_3), (0, rv E (some o))] → k v1_3 v2_3 v3_3 v4_3 w = some (r, w') → W p l e ({ frames := 2, cells := 0, slots := 0, locals := 42 } : Room) s m args below meth c H locs 0 0 (MQ below (QI E K z w' r) args s 0 0 (hA E)) (F0 m 66 ls [])) : ∀ (n : Nat) (v1_3 : Int32) (v2_3 : Int32) (v3_3 : Int32) (v4_3 : Int32) (w : Wd) (H : Heap) (locs : List Loc) (ls : Array Slot), HQ E K z w s H locs → lv_has ls 5 [(1, .int v1_3), (2, .int v2_3), (3, .int v3_3), (4, .int v4_3), (0, rv E (some o))] → f_X10_caseTaking_L3 K o k n v1_3 v2_3 v3_3 v4_3 w = some (r, w') → W p l e ({ frames := 2, cells := 0, slots := 0, locals := 42 } : Room) s m args below meth c H locs 0 0 (MQ below (QI E K z w' r) args s 0 0 (hA E)) (F0 m 3 ls []) := by
  obtain ⟨hx, hb, hml, hown, hts, hKs, hT, hb0, hlocks, hret⟩ := id C
  intro n
  induction n with
  | zero =>
    intro v1_3 v2_3 v3_3 v4_3 w H locs ls hH hl hf
    cases hf
  | succ n ih =>
    intro v1_3 v2_3 v3_3 v4_3 w H locs ls hH hl hf
    rw [f_X10_caseTaking_L3] at hf
    refine lv_iload hx hb dX10_caseTaking_3 (lv_at hl 3 rfl) ?_
    refine hl_aload_n hx hb dX10_caseTaking_5 rfl (lv_at hl 4 rfl) ?_
    refine g10_0 hx hb hts hown hKs hH rfl ho m2_119 dX10_caseTaking_6 ?_
    refine lv_iconst (v := 3) hx hb dX10_caseTaking_9 (by decide) ?_
    obtain ⟨a2, ha2, hf⟩ := bnd hf
    replace ha2 := chk_some ha2
    obtain ⟨q3, hq3, hf⟩ := bnd hf
    refine hcV_i hx hb hml hown hts hKs hT hb0 hH (As := [.int 3]) (rest := [.int v4_3]) (k_X9_size l E K H.size a2 3 w ha2.2 hq3) (gV m4_6 m3_151 m3_152 m1_2 m3_153) hd_X9_size ⟨Nat.le_of_ble_eq_true rfl, Nat.le_of_ble_eq_true rfl, rfl, rfl⟩ ha2.1 ha2.2 rfl rfl rfl hl.1 rfl (rcI rc0) rfl dX10_caseTaking_10 ⟨Nat.zero_le _, Nat.zero_le _⟩ (fun H locs hH => ?_)
    refine lv_icmp_ge (tgt := 66) hx hb dX10_caseTaking_13 (by decide) (fun c4 => ?_) (fun c4 => ?_)
    · replace hf := (if_pos c4).symm.trans hf
      exact hk v1_3 v2_3 v3_3 v4_3 _ _ _ _ hH (lv_sub hl [0, 1, 2, 3, 4] rfl) hf
    · replace hf := (if_neg c4).symm.trans hf
      refine hl_aload_n hx hb dX10_caseTaking_16 rfl (lv_at hl 4 rfl) ?_
      refine g10_5 hx hb hts hown hKs hH rfl ho m2_133 dX10_caseTaking_17 ?_
      refine lv_iload hx hb dX10_caseTaking_20 (lv_at hl 3 rfl) ?_
      obtain ⟨a5, ha5, hf⟩ := bnd hf
      replace ha5 := cha_some ha5
      obtain ⟨j6, hj6, hf⟩ := bnd hf
      refine hw_aald27 hx hb hKs hH ha5.1 ha5.2 hj6 dX10_caseTaking_22 ?_
      refine lv_iload_n hx hb dX10_caseTaking_23 rfl (lv_at hl 1 rfl) ?_
      obtain ⟨a7, ha7, hf⟩ := bnd hf
      replace ha7 := chk_some ha7
      obtain ⟨q8, hq8, hf⟩ := bnd hf
      refine hcV_i hx hb hml hown hts hKs hT hb0 hH (As := [.int v2_3]) (rest := []) (k_X7_isOn l E K H.size a7 v2_3 q3.2 ha7.2 hq8) (gV m5_177 m4_162 m4_163 m1_13 m4_164) hd_X7_isOn ⟨Nat.le_of_ble_eq_true rfl, Nat.le_of_ble_eq_true rfl, rfl, rfl⟩ ha7.1 ha7.2 rfl rfl rfl hl.1 rfl rc0 rfl dX10_caseTaking_24 ⟨Nat.zero_le _, Nat.zero_le _⟩ (fun H locs hH => ?_)
      refine lv_if_eq (tgt := 60) hx hb dX10_caseTaking_27 (by decide) (fun c9 => ?_) (fun c9 => ?_)
      · replace hf := (if_pos c9).symm.trans hf
        refine lv_iinc (v := (v4_3 + 1)) (lv' := [(4, .int ((v4_3 + 1))), (1, .int v1_3), (2, .int v2_3), (3, .int v3_3), (0, rv E (some o))]) hx hb dX10_caseTaking_60 hl (k := 3) rfl rfl (by decide) rfl (fun ls hl => ?_)
        refine lv_goto (tgt := 3) hx hb dX10_caseTaking_63 (by decide) ?_
        exact ih v1_3 v2_3 v3_3 (v4_3 + 1) _ _ _ _ hH (lv_sub hl [1, 2, 3, 0, 4] rfl) hf
      · replace hf := (if_neg c9).symm.trans hf
        refine hl_aload_n hx hb dX10_caseTaking_30 rfl (lv_at hl 4 rfl) ?_
        refine g10_5 hx hb hts hown hKs hH rfl ho m2_133 dX10_caseTaking_31 ?_
        refine lv_iload hx hb dX10_caseTaking_34 (lv_at hl 3 rfl) ?_
        obtain ⟨a10, ha10, hf⟩ := bnd hf
        replace ha10 := cha_some ha10
        obtain ⟨j11, hj11, hf⟩ := bnd hf
        refine hw_aald27 hx hb hKs hH ha10.1 ha10.2 hj11 dX10_caseTaking_36 ?_
        obtain ⟨a12, ha12, hf⟩ := bnd hf
        replace ha12 := chk_some ha12
        refine gn7_4 hx hb hts hown hKs hH ha12.1 ha12.2 m2_82 dX10_caseTaking_37 ?_
        refine lv_iload_n hx hb dX10_caseTaking_40 rfl (lv_at hl 0 rfl) ?_
        refine lv_icmp_ne (tgt := 60) hx hb dX10_caseTaking_41 (by decide) (fun c13 => ?_) (fun c13 => ?_)
        · replace hf := (if_neg c13).symm.trans hf
          refine lv_iinc (v := (v4_3 + 1)) (lv' := [(4, .int ((v4_3 + 1))), (1, .int v1_3), (2, .int v2_3), (3, .int v3_3), (0, rv E (some o))]) hx hb dX10_caseTaking_60 hl (k := 3) rfl rfl (by decide) rfl (fun ls hl => ?_)
          refine lv_goto (tgt := 3) hx hb dX10_caseTaking_63 (by decide) ?_
          exact ih v1_3 v2_3 v3_3 (v4_3 + 1) _ _ _ _ hH (lv_sub hl [1, 2, 3, 0, 4] rfl) hf
        · replace hf := (if_pos c13).symm.trans hf
          refine hl_aload_n hx hb dX10_caseTaking_44 rfl (lv_at hl 4 rfl) ?_
          refine lv_iload hx hb dX10_caseTaking_45 (lv_at hl 3 rfl) ?_
          obtain ⟨q14, hq14, hf⟩ := bnd hf
          refine hcV_i hx hb hml hown hts hKs hT hb0 hH (As := [.int v4_3]) (rest := []) (k_X10_slotsOf l E K H.size o v4_3 q8.2 ho hq14) (gV m5_178 m4_166 m4_167 m1_12 m4_168) hd_X10_slotsOf ⟨Nat.le_of_ble_eq_true rfl, Nat.le_of_ble_eq_true rfl, rfl, rfl⟩ rfl ho rfl rfl rfl hl.1 rfl rc0 rfl dX10_caseTaking_47 ⟨Nat.zero_le _, Nat.zero_le _⟩ (fun H locs hH => ?_)
          refine lv_iload_n hx hb dX10_caseTaking_50 rfl (lv_at hl 2 rfl) ?_
          obtain ⟨q15, hq15, hf⟩ := bnd hf
          refine hcM_i hx hb hml hown hts hKs hT hb0 hH (As := [.int (q14.1), .int v3_3]) (rest := []) (k_X12_has l E K H.size q14.1 v3_3 q14.2 hq15) m4_123 m3_194 m1_1 m3_195 hs_X12_has ⟨Nat.le_of_ble_eq_true rfl, Nat.le_of_ble_eq_true rfl, rfl, rfl⟩ hl.1 rfl rc0 rfl dX10_caseTaking_51 ⟨Nat.zero_le _, Nat.zero_le _⟩ (fun H locs hH => ?_)
          refine lv_if_eq (tgt := 60) hx hb dX10_caseTaking_54 (by decide) (fun c16 => ?_) (fun c16 => ?_)
          · replace hf := (if_pos c16).symm.trans hf
            refine lv_iinc (v := (v4_3 + 1)) (lv' := [(4, .int ((v4_3 + 1))), (1, .int v1_3), (2, .int v2_3), (3, .int v3_3), (0, rv E (some o))]) hx hb dX10_caseTaking_60 hl (k := 3) rfl rfl (by decide) rfl (fun ls hl => ?_)
            refine lv_goto (tgt := 3) hx hb dX10_caseTaking_63 (by decide) ?_
            exact ih v1_3 v2_3 v3_3 (v4_3 + 1) _ _ _ _ hH (lv_sub hl [1, 2, 3, 0, 4] rfl) hf
          · replace hf := (if_neg c16).symm.trans hf
            refine lv_iload hx hb dX10_caseTaking_57 (lv_at hl 3 rfl) ?_
            exact hw_iret hx hb hret hf hH hlocks dX10_caseTaking_59
set_option maxHeartbeats 4000000 in
set_option maxRecDepth 100000 in
theorem k_X10_caseTaking (l : Launch) (E : Ev) (K : Kd) (z : Nat) (o : Nat) (a_1 : Int32) (a_2 : Int32) (a_3 : Int32) (w : Wd) (ho : K o = some (9, 0)) {r : Int32} {w' : Wd} (hf : f_X10_caseTaking K o a_1 a_2 a_3 w = some (r, w')) : Met l yX10_caseTaking (Cond.code yX10_caseTaking cX10_caseTaking 5 (Option.some Jvm.ClassFile.FieldType.int) :: bt) ({ frames := 2, cells := 0, slots := 0, locals := 42 } : Room) (va_Pc [rv E (some o), .int a_1, .int a_2, .int a_3] (HB E K w z)) (QI E K z w' r) 0 0 (hA E) := by
  refine Met.ofW (cc := cX10_caseTaking) (maxL := 5) (ret := (Option.some Jvm.ClassFile.FieldType.int)) (by decide) rfl ?_
  intro p e s m args below meth c s₁ B hml hv
  obtain ⟨rfl, hz, hP, hKs, hT, hb0⟩ := hv
  have C : CX p l e s m _ meth c cX10_caseTaking 5 RX10 (Option.some Jvm.ClassFile.FieldType.int) E := ⟨B.exec, B.bytes, hml, findClass_of_methodNamed B.named, fun w h => atoms_spec (ws := Cond.code yX10_caseTaking cX10_caseTaking 5 (Option.some Jvm.ClassFile.FieldType.int) :: bt) B.pre w (List.mem_cons_of_mem _ h), hKs, hT, by rw [hz]; exact hb0, B.notSynchronized, B.returns⟩
  have hH : HQ E K z w s s.heap [] := ⟨hP, va_S.rf, hz⟩
  obtain ⟨hx, hb, hml, hown, hts, hKs, hT, hb0, hlocks, hret⟩ := id C
  have hl := lv_entry [rv E (some o), .int a_1, .int a_2, .int a_3] (n := 5) (by simp [lg_len_nil, lg_len_i, lg_len_j, lg_len_q, lg_len_f, lg_len_d, lg_len_r])
  rw [lg_entry_eq]
  generalize (lg_sl [rv E (some o), .int a_1, .int a_2, .int a_3] ++ List.replicate (5 - (lg_sl [rv E (some o), .int a_1, .int a_2, .int a_3]).length) Slot.unset).toArray = ls at hl ⊢
  replace hl : lv_has ls 5 [(0, rv E (some o)), (1, .int a_1), (2, .int a_2), (3, .int a_3)] := by simpa only [lv_args, cat_q, cat_i, cat_j, reduceIte, Nat.reduceEqDiff, Nat.reduceAdd, Nat.zero_add] using hl
  generalize s.heap = H at hH ⊢
  unfold f_X10_caseTaking at hf
  refine lv_iconst (v := 0) hx hb dX10_caseTaking_0 (by decide) ?_
  refine lv_istore (lv' := [(4, .int 0), (0, rv E (some o)), (1, .int a_1), (2, .int a_2), (3, .int a_3)]) hx hb dX10_caseTaking_1 hl (by decide) rfl (fun ls hl => ?_)
  refine l_X10_caseTaking_L3  C ho _ (fun v1_3 v2_3 v3_3 v4_3 w1 H locs ls hH hl hf => ?_) fu a_1 a_2 a_3 0 w _ _ _ hH (lv_sub hl [2, 3, 4, 0, 1] rfl) hf
  refine lv_iconst (v := (-1)) hx hb dX10_caseTaking_66 (by decide) ?_
  exact hw_iret hx hb hret hf hH hlocks dX10_caseTaking_67

theorem dX10_sortWaiting_0 : decode cX10_sortWaiting 0 = .ok (.iconst 0, 1) := by decide +kernel
theorem dX10_sortWaiting_1 : decode cX10_sortWaiting 1 = .ok (.istore_n 2, 1) := by decide +kernel
theorem dX10_sortWaiting_2 : decode cX10_sortWaiting 2 = .ok (.iconst 0, 1) := by decide +kernel
theorem dX10_sortWaiting_3 : decode cX10_sortWaiting 3 = .ok (.istore_n 3, 1) := by decide +kernel
theorem dX10_sortWaiting_4 : decode cX10_sortWaiting 4 = .ok (.iload_n 3, 1) := by decide +kernel
theorem dX10_sortWaiting_5 : decode cX10_sortWaiting 5 = .ok (.aload_n 0, 1) := by decide +kernel
theorem dX10_sortWaiting_6 : decode cX10_sortWaiting 6 = .ok (.getfield 31, 3) := by decide +kernel
theorem dX10_sortWaiting_9 : decode cX10_sortWaiting 9 = .ok (.iconst 3, 1) := by decide +kernel
theorem dX10_sortWaiting_10 : decode cX10_sortWaiting 10 = .ok (.invokevirtual 92, 3) := by decide +kernel
theorem dX10_sortWaiting_13 : decode cX10_sortWaiting 13 = .ok (.if_icmp .ge 40, 3) := by decide +kernel
theorem dX10_sortWaiting_16 : decode cX10_sortWaiting 16 = .ok (.iload_n 2, 1) := by decide +kernel
theorem dX10_sortWaiting_17 : decode cX10_sortWaiting 17 = .ok (.aload_n 1, 1) := by decide +kernel
theorem dX10_sortWaiting_18 : decode cX10_sortWaiting 18 = .ok (.arraylength, 1) := by decide +kernel
theorem dX10_sortWaiting_19 : decode cX10_sortWaiting 19 = .ok (.if_icmp .ge 34, 3) := by decide +kernel
theorem dX10_sortWaiting_22 : decode cX10_sortWaiting 22 = .ok (.aload_n 0, 1) := by decide +kernel
theorem dX10_sortWaiting_23 : decode cX10_sortWaiting 23 = .ok (.getfield 27, 3) := by decide +kernel
theorem dX10_sortWaiting_26 : decode cX10_sortWaiting 26 = .ok (.iload_n 3, 1) := by decide +kernel
theorem dX10_sortWaiting_27 : decode cX10_sortWaiting 27 = .ok (.aaload, 1) := by decide +kernel
theorem dX10_sortWaiting_28 : decode cX10_sortWaiting 28 = .ok (.getfield 95, 3) := by decide +kernel
theorem dX10_sortWaiting_31 : decode cX10_sortWaiting 31 = .ok (.ifCond .ne 16, 3) := by decide +kernel
theorem dX10_sortWaiting_34 : decode cX10_sortWaiting 34 = .ok (.aload_n 1, 1) := by decide +kernel
theorem dX10_sortWaiting_35 : decode cX10_sortWaiting 35 = .ok (.iload_n 2, 1) := by decide +kernel
theorem dX10_sortWaiting_36 : decode cX10_sortWaiting 36 = .ok (.aload_n 0, 1) := by decide +kernel
theorem dX10_sortWaiting_37 : decode cX10_sortWaiting 37 = .ok (.iload_n 3, 1) := by decide +kernel
theorem dX10_sortWaiting_38 : decode cX10_sortWaiting 38 = .ok (.invokevirtual 144, 3) := by decide +kernel
theorem dX10_sortWaiting_41 : decode cX10_sortWaiting 41 = .ok (.invokestatic 147, 3) := by decide +kernel
theorem dX10_sortWaiting_44 : decode cX10_sortWaiting 44 = .ok (.iinc 2 1, 3) := by decide +kernel
theorem dX10_sortWaiting_47 : decode cX10_sortWaiting 47 = .ok (.iinc 3 1, 3) := by decide +kernel
theorem dX10_sortWaiting_50 : decode cX10_sortWaiting 50 = .ok (.goto (-46), 3) := by decide +kernel
theorem dX10_sortWaiting_53 : decode cX10_sortWaiting 53 = .ok (.iconst 0, 1) := by decide +kernel
theorem dX10_sortWaiting_54 : decode cX10_sortWaiting 54 = .ok (.istore_n 3, 1) := by decide +kernel
theorem dX10_sortWaiting_55 : decode cX10_sortWaiting 55 = .ok (.iload_n 3, 1) := by decide +kernel
theorem dX10_sortWaiting_56 : decode cX10_sortWaiting 56 = .ok (.iload_n 2, 1) := by decide +kernel
theorem dX10_sortWaiting_57 : decode cX10_sortWaiting 57 = .ok (.if_icmp .ge 17, 3) := by decide +kernel
theorem dX10_sortWaiting_60 : decode cX10_sortWaiting 60 = .ok (.aload_n 1, 1) := by decide +kernel
theorem dX10_sortWaiting_61 : decode cX10_sortWaiting 61 = .ok (.iload_n 3, 1) := by decide +kernel
theorem dX10_sortWaiting_62 : decode cX10_sortWaiting 62 = .ok (.dup2, 1) := by decide +kernel
theorem dX10_sortWaiting_63 : decode cX10_sortWaiting 63 = .ok (.iaload, 1) := by decide +kernel
theorem dX10_sortWaiting_64 : decode cX10_sortWaiting 64 = .ok (.bipush 12, 2) := by decide +kernel
theorem dX10_sortWaiting_66 : decode cX10_sortWaiting 66 = .ok (.irem, 1) := by decide +kernel
theorem dX10_sortWaiting_67 : decode cX10_sortWaiting 67 = .ok (.iastore, 1) := by decide +kernel
theorem dX10_sortWaiting_68 : decode cX10_sortWaiting 68 = .ok (.iinc 3 1, 3) := by decide +kernel
theorem dX10_sortWaiting_71 : decode cX10_sortWaiting 71 = .ok (.goto (-16), 3) := by decide +kernel
theorem dX10_sortWaiting_74 : decode cX10_sortWaiting 74 = .ok (.iload_n 2, 1) := by decide +kernel
theorem dX10_sortWaiting_75 : decode cX10_sortWaiting 75 = .ok (.ireturn, 1) := by decide +kernel
theorem hd_X10_sortWaiting : yX10_sortWaiting.cls = RX10 ∧ yX10_sortWaiting.cls ≠ "java/lang/invoke/MethodHandle" ∧ yX10_sortWaiting.cls ≠ "java/lang/invoke/VarHandle" ∧ (parseMethodDescriptor yX10_sortWaiting.desc).map (fun d => d.parameters.length) = some 1 := by decide +kernel
theorem hs_X10_sortWaiting : yX10_sortWaiting.cls ≠ "java/lang/invoke/MethodHandle" ∧ yX10_sortWaiting.cls ≠ "java/lang/invoke/VarHandle" ∧ (parseMethodDescriptor yX10_sortWaiting.desc).map (fun d => d.parameters.length) = some 1 := by decide +kernel
set_option maxHeartbeats 4000000 in
set_option maxRecDepth 100000 in
theorem l_X10_sortWaiting_L4 (C : CX p l e s m args meth c cX10_sortWaiting 4 RX10 (Option.some Jvm.ClassFile.FieldType.int) E) {o : Nat} (ho : K o = some (9, 0)) {r : Int32} {w' : Wd} (k : Option Nat → Int32 → Int32 → Wd → Option (Int32 × Wd)) (hk : ∀ (v1_4 : Option Nat) (v2_4 : Int32) (v3_4 : Int32) (w : Wd) (H : Heap) (locs : List Loc) (ls : Array Slot), HQ E K z w s H locs → lv_has ls 4 [(1, rv E v1_4), (2, .int v2_4), (3, .int v3_4), (0, rv E (some o))] → k v1_4 v2_4 v3_4 w = some (r, w') → W p l e ({ frames := 4, cells := 0, slots := 0, locals := 88 } : Room) s m args below meth c H locs 0 0 (MQ below (QI E K z w' r) args s 0 0 (hA E)) (F0 m 53 ls [])) : ∀ (n : Nat) (v1_4 : Option Nat) (v2_4 : Int32) (v3_4 : Int32) (w : Wd) (H : Heap) (locs : List Loc) (ls : Array Slot), HQ E K z w s H locs → lv_has ls 4 [(1, rv E v1_4), (2, .int v2_4), (3, .int v3_4), (0, rv E (some o))] → f_X10_sortWaiting_L4 K o k n v1_4 v2_4 v3_4 w = some (r, w') → W p l e ({ frames := 4, cells := 0, slots := 0, locals := 88 } : Room) s m args below meth c H locs 0 0 (MQ below (QI E K z w' r) args s 0 0 (hA E)) (F0 m 4 ls []) := by
  obtain ⟨hx, hb, hml, hown, hts, hKs, hT, hb0, hlocks, hret⟩ := id C
  intro n
  induction n with
  | zero =>
    intro v1_4 v2_4 v3_4 w H locs ls hH hl hf
    cases hf
  | succ n ih =>
    intro v1_4 v2_4 v3_4 w H locs ls hH hl hf
    rw [f_X10_sortWaiting_L4] at hf
    refine lv_iload_n hx hb dX10_sortWaiting_4 rfl (lv_at hl 2 rfl) ?_
    refine hl_aload_n hx hb dX10_sortWaiting_5 rfl (lv_at hl 3 rfl) ?_
    refine g10_0 hx hb hts hown hKs hH rfl ho m2_119 dX10_sortWaiting_6 ?_
    refine lv_iconst (v := 3) hx hb dX10_sortWaiting_9 (by decide) ?_
    obtain ⟨a2, ha2, hf⟩ := bnd hf
    replace ha2 := chk_some ha2
    obtain ⟨q3, hq3, hf⟩ := bnd hf
    refine hcV_i hx hb hml hown hts hKs hT hb0 hH (As := [.int 3]) (rest := [.int v3_4]) (k_X9_size l E K H.size a2 3 w ha2.2 hq3) (gV m4_6 m3_151 m3_152 m1_2 m3_153) hd_X9_size ⟨Nat.le_of_ble_eq_true rfl, Nat.le_of_ble_eq_true rfl, rfl, rfl⟩ ha2.1 ha2.2 rfl rfl rfl hl.1 rfl (rcI rc0) rfl dX10_sortWaiting_10 ⟨Nat.zero_le _, Nat.zero_le _⟩ (fun H locs hH => ?_)
    refine lv_icmp_ge (tgt := 53) hx hb dX10_sortWaiting_13 (by decide) (fun c4 => ?_) (fun c4 => ?_)
    · replace hf := (if_pos c4).symm.trans hf
      exact hk v1_4 v2_4 v3_4 _ _ _ _ hH (lv_sub hl [0, 1, 2, 3] rfl) hf
    · replace hf := (if_neg c4).symm.trans hf
      refine lv_iload_n hx hb dX10_sortWaiting_16 rfl (lv_at hl 1 rfl) ?_
      refine hl_aload_n hx hb dX10_sortWaiting_17 rfl (lv_at hl 0 rfl) ?_
      obtain ⟨a5, ha5, hf⟩ := bnd hf
      replace ha5 := cha_some ha5
      refine hw_alen20 hx hb hKs hH ha5.1 ha5.2 dX10_sortWaiting_18 ?_
      refine lv_icmp_ge (tgt := 53) hx hb dX10_sortWaiting_19 (by decide) (fun c6 => ?_) (fun c6 => ?_)
      · replace hf := (if_pos c6).symm.trans hf
        exact hk v1_4 v2_4 v3_4 _ _ _ _ hH (lv_sub hl [0, 1, 2, 3] rfl) hf
      · replace hf := (if_neg c6).symm.trans hf
        refine hl_aload_n hx hb dX10_sortWaiting_22 rfl (lv_at hl 3 rfl) ?_
        refine g10_5 hx hb hts hown hKs hH rfl ho m2_133 dX10_sortWaiting_23 ?_
        refine lv_iload_n hx hb dX10_sortWaiting_26 rfl (lv_at hl 2 rfl) ?_
        obtain ⟨a7, ha7, hf⟩ := bnd hf
        replace ha7 := cha_some ha7
        obtain ⟨j8, hj8, hf⟩ := bnd hf
        refine hw_aald27 hx hb hKs hH ha7.1 ha7.2 hj8 dX10_sortWaiting_27 ?_
        obtain ⟨a9, ha9, hf⟩ := bnd hf
        replace ha9 := chk_some ha9
        refine gn7_0 hx hb hts hown hKs hH ha9.1 ha9.2 m2_70 dX10_sortWaiting_28 ?_
        refine lv_if_ne (tgt := 47) hx hb dX10_sortWaiting_31 (by decide) (fun c10 => ?_) (fun c10 => ?_)
        · replace hf := (if_neg c10).symm.trans hf
          refine lv_iinc (v := (v3_4 + 1)) (lv' := [(3, .int ((v3_4 + 1))), (1, rv E v1_4), (2, .int v2_4), (0, rv E (some o))]) hx hb dX10_sortWaiting_47 hl (k := 2) rfl rfl (by decide) rfl (fun ls hl => ?_)
          refine lv_goto (tgt := 4) hx hb dX10_sortWaiting_50 (by decide) ?_
          exact ih v1_4 v2_4 (v3_4 + 1) _ _ _ _ hH (lv_sub hl [1, 2, 0, 3] rfl) hf
        · replace hf := (if_pos c10).symm.trans hf
          refine hl_aload_n hx hb dX10_sortWaiting_34 rfl (lv_at hl 0 rfl) ?_
          refine lv_iload_n hx hb dX10_sortWaiting_35 rfl (lv_at hl 1 rfl) ?_
          refine hl_aload_n hx hb dX10_sortWaiting_36 rfl (lv_at hl 3 rfl) ?_
          refine lv_iload_n hx hb dX10_sortWaiting_37 rfl (lv_at hl 2 rfl) ?_
          obtain ⟨q11, hq11, hf⟩ := bnd hf
          refine hcV_i hx hb hml hown hts hKs hT hb0 hH (As := [.int v3_4]) (rest := [.int v2_4, rv E v1_4]) (k_X10_urgencyKey l E K H.size o v3_4 q3.2 ho hq11) (gV m4_104 m4_106 ms_25 m1_12 m4_107) hd_X10_urgencyKey ⟨Nat.le_of_ble_eq_true rfl, Nat.le_of_ble_eq_true rfl, rfl, rfl⟩ rfl ho rfl rfl rfl hl.1 rfl (rcI (rcV rc0)) rfl dX10_sortWaiting_38 ⟨Nat.zero_le _, Nat.zero_le _⟩ (fun H locs hH => ?_)
          obtain ⟨q12, hq12, hf⟩ := bnd hf
          refine hcS_v hx hb hml hown hts hKs hT hb0 hH (As := [rv E v1_4, .int v2_4, .int (q11.1)]) (rest := []) (k_X10_insert l E K H.size v1_4 v2_4 q11.1 q11.2 hq12) (gS m4_108 m4_109 m1_12 m4_110) hs_X10_insert ⟨Nat.le_of_ble_eq_true rfl, Nat.le_of_ble_eq_true rfl, rfl, rfl⟩ hl.1 rfl rc0 rfl dX10_sortWaiting_41 ⟨Nat.zero_le _, Nat.zero_le _⟩ (fun H locs hH => ?_)
          refine lv_iinc (v := (v2_4 + 1)) (lv' := [(2, .int ((v2_4 + 1))), (1, rv E v1_4), (3, .int v3_4), (0, rv E (some o))]) hx hb dX10_sortWaiting_44 hl (k := 1) rfl rfl (by decide) (by simp [List.filter_cons, cat_q, cat_i, cat_j]) (fun ls hl => ?_)
          refine lv_iinc (v := (v3_4 + 1)) (lv' := [(3, .int ((v3_4 + 1))), (2, .int ((v2_4 + 1))), (1, rv E v1_4), (0, rv E (some o))]) hx hb dX10_sortWaiting_47 hl (k := 2) rfl rfl (by decide) rfl (fun ls hl => ?_)
          refine lv_goto (tgt := 4) hx hb dX10_sortWaiting_50 (by decide) ?_
          exact ih v1_4 (v2_4 + 1) (v3_4 + 1) _ _ _ _ hH (lv_sub hl [2, 1, 0, 3] rfl) hf
set_option maxHeartbeats 4000000 in
set_option maxRecDepth 100000 in
theorem l_X10_sortWaiting_L55 (C : CX p l e s m args meth c cX10_sortWaiting 4 RX10 (Option.some Jvm.ClassFile.FieldType.int) E) {o : Nat} (ho : K o = some (9, 0)) {r : Int32} {w' : Wd} (k : Option Nat → Int32 → Int32 → Wd → Option (Int32 × Wd)) (hk : ∀ (v1_55 : Option Nat) (v2_55 : Int32) (v3_55 : Int32) (w : Wd) (H : Heap) (locs : List Loc) (ls : Array Slot), HQ E K z w s H locs → lv_has ls 4 [(1, rv E v1_55), (2, .int v2_55), (3, .int v3_55), (0, rv E (some o))] → k v1_55 v2_55 v3_55 w = some (r, w') → W p l e ({ frames := 4, cells := 0, slots := 0, locals := 88 } : Room) s m args below meth c H locs 0 0 (MQ below (QI E K z w' r) args s 0 0 (hA E)) (F0 m 74 ls [])) : ∀ (n : Nat) (v1_55 : Option Nat) (v2_55 : Int32) (v3_55 : Int32) (w : Wd) (H : Heap) (locs : List Loc) (ls : Array Slot), HQ E K z w s H locs → lv_has ls 4 [(1, rv E v1_55), (2, .int v2_55), (3, .int v3_55), (0, rv E (some o))] → f_X10_sortWaiting_L55 K o k n v1_55 v2_55 v3_55 w = some (r, w') → W p l e ({ frames := 4, cells := 0, slots := 0, locals := 88 } : Room) s m args below meth c H locs 0 0 (MQ below (QI E K z w' r) args s 0 0 (hA E)) (F0 m 55 ls []) := by
  obtain ⟨hx, hb, hml, hown, hts, hKs, hT, hb0, hlocks, hret⟩ := id C
  intro n
  induction n with
  | zero =>
    intro v1_55 v2_55 v3_55 w H locs ls hH hl hf
    cases hf
  | succ n ih =>
    intro v1_55 v2_55 v3_55 w H locs ls hH hl hf
    rw [f_X10_sortWaiting_L55] at hf
    refine lv_iload_n hx hb dX10_sortWaiting_55 rfl (lv_at hl 2 rfl) ?_
    refine lv_iload_n hx hb dX10_sortWaiting_56 rfl (lv_at hl 1 rfl) ?_
    refine lv_icmp_ge (tgt := 74) hx hb dX10_sortWaiting_57 (by decide) (fun c14 => ?_) (fun c14 => ?_)
    · replace hf := (if_pos c14).symm.trans hf
      exact hk v1_55 v2_55 v3_55 _ _ _ _ hH (lv_sub hl [0, 1, 2, 3] rfl) hf
    · replace hf := (if_neg c14).symm.trans hf
      refine hl_aload_n hx hb dX10_sortWaiting_60 rfl (lv_at hl 0 rfl) ?_
      refine lv_iload_n hx hb dX10_sortWaiting_61 rfl (lv_at hl 2 rfl) ?_
      refine lv_dup2_11 hx hb dX10_sortWaiting_62 rfl rv_cat ?_
      obtain ⟨a15, ha15, hf⟩ := bnd hf
      replace ha15 := cha_some ha15
      obtain ⟨j16, hj16, hf⟩ := bnd hf
      refine hw_iald hx hb hKs hH ha15.1 ha15.2 hj16 dX10_sortWaiting_63 ?_
      refine lv_bipush (v := 12) hx hb dX10_sortWaiting_64 (by decide) ?_
      refine lv_irem hx hb dX10_sortWaiting_66 (by decide) ?_
      obtain ⟨j17, hj17, hf⟩ := bnd hf
      obtain ⟨w18, hw18, hf⟩ := bnd hf
      replace hw18 := Option.some.inj hw18
      refine hw_iast (x := ((aI w a15.1 j16) - (aI w a15.1 j16) / 12 * 12)) hx hb hKs hH ha15.1 ha15.2 hj17 dX10_sortWaiting_67 (fun H locs hH => ?_)
      rw [hw18] at hH
      refine lv_iinc (v := (v3_55 + 1)) (lv' := [(3, .int ((v3_55 + 1))), (1, rv E v1_55), (2, .int v2_55), (0, rv E (some o))]) hx hb dX10_sortWaiting_68 hl (k := 2) rfl rfl (by decide) rfl (fun ls hl => ?_)
      refine lv_goto (tgt := 55) hx hb dX10_sortWaiting_71 (by decide) ?_
      exact ih v1_55 v2_55 (v3_55 + 1) _ _ _ _ hH (lv_sub hl [1, 2, 0, 3] rfl) hf
set_option maxHeartbeats 4000000 in
set_option maxRecDepth 100000 in
theorem k_X10_sortWaiting (l : Launch) (E : Ev) (K : Kd) (z : Nat) (o : Nat) (a_1 : Option Nat) (w : Wd) (ho : K o = some (9, 0)) {r : Int32} {w' : Wd} (hf : f_X10_sortWaiting K o a_1 w = some (r, w')) : Met l yX10_sortWaiting (Cond.code yX10_sortWaiting cX10_sortWaiting 4 (Option.some Jvm.ClassFile.FieldType.int) :: bt) ({ frames := 4, cells := 0, slots := 0, locals := 88 } : Room) (va_Pc [rv E (some o), rv E a_1] (HB E K w z)) (QI E K z w' r) 0 0 (hA E) := by
  refine Met.ofW (cc := cX10_sortWaiting) (maxL := 4) (ret := (Option.some Jvm.ClassFile.FieldType.int)) (by decide) rfl ?_
  intro p e s m args below meth c s₁ B hml hv
  obtain ⟨rfl, hz, hP, hKs, hT, hb0⟩ := hv
  have C : CX p l e s m _ meth c cX10_sortWaiting 4 RX10 (Option.some Jvm.ClassFile.FieldType.int) E := ⟨B.exec, B.bytes, hml, findClass_of_methodNamed B.named, fun w h => atoms_spec (ws := Cond.code yX10_sortWaiting cX10_sortWaiting 4 (Option.some Jvm.ClassFile.FieldType.int) :: bt) B.pre w (List.mem_cons_of_mem _ h), hKs, hT, by rw [hz]; exact hb0, B.notSynchronized, B.returns⟩
  have hH : HQ E K z w s s.heap [] := ⟨hP, va_S.rf, hz⟩
  obtain ⟨hx, hb, hml, hown, hts, hKs, hT, hb0, hlocks, hret⟩ := id C
  have hl := lv_entry [rv E (some o), rv E a_1] (n := 4) (by simp [lg_len_nil, lg_len_i, lg_len_j, lg_len_q, lg_len_f, lg_len_d, lg_len_r])
  rw [lg_entry_eq]
  generalize (lg_sl [rv E (some o), rv E a_1] ++ List.replicate (4 - (lg_sl [rv E (some o), rv E a_1]).length) Slot.unset).toArray = ls at hl ⊢
  replace hl : lv_has ls 4 [(0, rv E (some o)), (1, rv E a_1)] := by simpa only [lv_args, cat_q, cat_i, cat_j, reduceIte, Nat.reduceEqDiff, Nat.reduceAdd, Nat.zero_add] using hl
  generalize s.heap = H at hH ⊢
  unfold f_X10_sortWaiting at hf
  refine lv_iconst (v := 0) hx hb dX10_sortWaiting_0 (by decide) ?_
  refine lv_istore_n (lv' := [(2, .int 0), (0, rv E (some o)), (1, rv E a_1)]) hx hb dX10_sortWaiting_1 rfl hl (by decide) (by simp [List.filter_cons, cat_q, cat_i, cat_j]) (fun ls hl => ?_)
  refine lv_iconst (v := 0) hx hb dX10_sortWaiting_2 (by decide) ?_
  refine lv_istore_n (lv' := [(3, .int 0), (2, .int 0), (0, rv E (some o)), (1, rv E a_1)]) hx hb dX10_sortWaiting_3 rfl hl (by decide) rfl (fun ls hl => ?_)
  refine l_X10_sortWaiting_L4  C ho _ (fun v1_4 v2_4 v3_4 w1 H locs ls hH hl hf => ?_) fu a_1 0 0 w _ _ _ hH (lv_sub hl [3, 1, 0, 2] rfl) hf
  refine lv_iconst (v := 0) hx hb dX10_sortWaiting_53 (by decide) ?_
  refine lv_istore_n (lv' := [(3, .int 0), (1, rv E v1_4), (2, .int v2_4), (0, rv E (some o))]) hx hb dX10_sortWaiting_54 rfl hl (by decide) rfl (fun ls hl => ?_)
  refine l_X10_sortWaiting_L55  C ho _ (fun v1_55 v2_55 v3_55 w13 H locs ls hH hl hf => ?_) fu v1_4 v2_4 0 w1 _ _ _ hH (lv_sub hl [1, 2, 0, 3] rfl) hf
  refine lv_iload_n hx hb dX10_sortWaiting_74 rfl (lv_at hl 1 rfl) ?_
  exact hw_iret hx hb hret hf hH hlocks dX10_sortWaiting_75

theorem dX10_takeAway_0 : decode cX10_takeAway 0 = .ok (.aload_n 0, 1) := by decide +kernel
theorem dX10_takeAway_1 : decode cX10_takeAway 1 = .ok (.getfield 27, 3) := by decide +kernel
theorem dX10_takeAway_4 : decode cX10_takeAway 4 = .ok (.iload_n 1, 1) := by decide +kernel
theorem dX10_takeAway_5 : decode cX10_takeAway 5 = .ok (.aaload, 1) := by decide +kernel
theorem dX10_takeAway_6 : decode cX10_takeAway 6 = .ok (.astore_n 3, 1) := by decide +kernel
theorem dX10_takeAway_7 : decode cX10_takeAway 7 = .ok (.aload_n 3, 1) := by decide +kernel
theorem dX10_takeAway_8 : decode cX10_takeAway 8 = .ok (.getfield 155, 3) := by decide +kernel
theorem dX10_takeAway_11 : decode cX10_takeAway 11 = .ok (.iconst 5, 1) := by decide +kernel
theorem dX10_takeAway_12 : decode cX10_takeAway 12 = .ok (.if_icmp .ge 70, 3) := by decide +kernel
theorem dX10_takeAway_15 : decode cX10_takeAway 15 = .ok (.aload_n 3, 1) := by decide +kernel
theorem dX10_takeAway_16 : decode cX10_takeAway 16 = .ok (.getfield 78, 3) := by decide +kernel
theorem dX10_takeAway_19 : decode cX10_takeAway 19 = .ok (.aload_n 0, 1) := by decide +kernel
theorem dX10_takeAway_20 : decode cX10_takeAway 20 = .ok (.getfield 31, 3) := by decide +kernel
theorem dX10_takeAway_23 : decode cX10_takeAway 23 = .ok (.getfield 158, 3) := by decide +kernel
theorem dX10_takeAway_26 : decode cX10_takeAway 26 = .ok (.iload_n 2, 1) := by decide +kernel
theorem dX10_takeAway_27 : decode cX10_takeAway 27 = .ok (.iaload, 1) := by decide +kernel
theorem dX10_takeAway_28 : decode cX10_takeAway 28 = .ok (.iadd, 1) := by decide +kernel
theorem dX10_takeAway_29 : decode cX10_takeAway 29 = .ok (.istore 4, 2) := by decide +kernel
theorem dX10_takeAway_31 : decode cX10_takeAway 31 = .ok (.aload_n 0, 1) := by decide +kernel
theorem dX10_takeAway_32 : decode cX10_takeAway 32 = .ok (.getfield 31, 3) := by decide +kernel
theorem dX10_takeAway_35 : decode cX10_takeAway 35 = .ok (.getfield 57, 3) := by decide +kernel
theorem dX10_takeAway_38 : decode cX10_takeAway 38 = .ok (.iload_n 1, 1) := by decide +kernel
theorem dX10_takeAway_39 : decode cX10_takeAway 39 = .ok (.aaload, 1) := by decide +kernel
theorem dX10_takeAway_40 : decode cX10_takeAway 40 = .ok (.getfield 151, 3) := by decide +kernel
theorem dX10_takeAway_43 : decode cX10_takeAway 43 = .ok (.ifCond .eq 17, 3) := by decide +kernel
theorem dX10_takeAway_46 : decode cX10_takeAway 46 = .ok (.iload 4, 2) := by decide +kernel
theorem dX10_takeAway_48 : decode cX10_takeAway 48 = .ok (.aload_n 0, 1) := by decide +kernel
theorem dX10_takeAway_49 : decode cX10_takeAway 49 = .ok (.getfield 31, 3) := by decide +kernel
theorem dX10_takeAway_52 : decode cX10_takeAway 52 = .ok (.getfield 161, 3) := by decide +kernel
theorem dX10_takeAway_55 : decode cX10_takeAway 55 = .ok (.invokestatic 164, 3) := by decide +kernel
theorem dX10_takeAway_58 : decode cX10_takeAway 58 = .ok (.istore 4, 2) := by decide +kernel
theorem dX10_takeAway_60 : decode cX10_takeAway 60 = .ok (.aload_n 3, 1) := by decide +kernel
theorem dX10_takeAway_61 : decode cX10_takeAway 61 = .ok (.aload_n 0, 1) := by decide +kernel
theorem dX10_takeAway_62 : decode cX10_takeAway 62 = .ok (.getfield 39, 3) := by decide +kernel
theorem dX10_takeAway_65 : decode cX10_takeAway 65 = .ok (.iload_n 2, 1) := by decide +kernel
theorem dX10_takeAway_66 : decode cX10_takeAway 66 = .ok (.iload 4, 2) := by decide +kernel
theorem dX10_takeAway_68 : decode cX10_takeAway 68 = .ok (.aload_n 3, 1) := by decide +kernel
theorem dX10_takeAway_69 : decode cX10_takeAway 69 = .ok (.getfield 78, 3) := by decide +kernel
theorem dX10_takeAway_72 : decode cX10_takeAway 72 = .ok (.isub, 1) := by decide +kernel
theorem dX10_takeAway_73 : decode cX10_takeAway 73 = .ok (.invokevirtual 169, 3) := by decide +kernel
theorem dX10_takeAway_76 : decode cX10_takeAway 76 = .ok (.aload_n 3, 1) := by decide +kernel
theorem dX10_takeAway_77 : decode cX10_takeAway 77 = .ok (.iload 4, 2) := by decide +kernel
theorem dX10_takeAway_79 : decode cX10_takeAway 79 = .ok (.putfield 78, 3) := by decide +kernel
theorem dX10_takeAway_82 : decode cX10_takeAway 82 = .ok (.aload_n 3, 1) := by decide +kernel
theorem dX10_takeAway_83 : decode cX10_takeAway 83 = .ok (.invokevirtual 173, 3) := by decide +kernel
theorem dX10_takeAway_86 : decode cX10_takeAway 86 = .ok (.return_, 1) := by decide +kernel
theorem hd_X10_takeAway : yX10_takeAway.cls = RX10 ∧ yX10_takeAway.cls ≠ "java/lang/invoke/MethodHandle" ∧ yX10_takeAway.cls ≠ "java/lang/invoke/VarHandle" ∧ (parseMethodDescriptor yX10_takeAway.desc).map (fun d => d.parameters.length) = some 2 := by decide +kernel
theorem hs_X10_takeAway : yX10_takeAway.cls ≠ "java/lang/invoke/MethodHandle" ∧ yX10_takeAway.cls ≠ "java/lang/invoke/VarHandle" ∧ (parseMethodDescriptor yX10_takeAway.desc).map (fun d => d.parameters.length) = some 2 := by decide +kernel
set_option maxHeartbeats 4000000 in
set_option maxRecDepth 100000 in
theorem k_X10_takeAway (l : Launch) (E : Ev) (K : Kd) (z : Nat) (o : Nat) (a_1 : Int32) (a_2 : Int32) (w : Wd) (ho : K o = some (9, 0)) {w' : Wd} (hf : f_X10_takeAway K o a_1 a_2 w = some w') : Met l yX10_takeAway (Cond.code yX10_takeAway cX10_takeAway 5 (Option.none : Option Jvm.ClassFile.FieldType) :: bt) ({ frames := 1, cells := 0, slots := 0, locals := 24 } : Room) (va_Pc [rv E (some o), .int a_1, .int a_2] (HB E K w z)) (QV E K z w') 0 0 (hA E) := by
  refine Met.ofW (cc := cX10_takeAway) (maxL := 5) (ret := (Option.none : Option Jvm.ClassFile.FieldType)) (by decide) rfl ?_
  intro p e s m args below meth c s₁ B hml hv
  obtain ⟨rfl, hz, hP, hKs, hT, hb0⟩ := hv
  have C : CX p l e s m _ meth c cX10_takeAway 5 RX10 (Option.none : Option Jvm.ClassFile.FieldType) E := ⟨B.exec, B.bytes, hml, findClass_of_methodNamed B.named, fun w h => atoms_spec (ws := Cond.code yX10_takeAway cX10_takeAway 5 (Option.none : Option Jvm.ClassFile.FieldType) :: bt) B.pre w (List.mem_cons_of_mem _ h), hKs, hT, by rw [hz]; exact hb0, B.notSynchronized, B.returns⟩
  have hH : HQ E K z w s s.heap [] := ⟨hP, va_S.rf, hz⟩
  obtain ⟨hx, hb, hml, hown, hts, hKs, hT, hb0, hlocks, hret⟩ := id C
  have hl := lv_entry [rv E (some o), .int a_1, .int a_2] (n := 5) (by simp [lg_len_nil, lg_len_i, lg_len_j, lg_len_q, lg_len_f, lg_len_d, lg_len_r])
  rw [lg_entry_eq]
  generalize (lg_sl [rv E (some o), .int a_1, .int a_2] ++ List.replicate (5 - (lg_sl [rv E (some o), .int a_1, .int a_2]).length) Slot.unset).toArray = ls at hl ⊢
  replace hl : lv_has ls 5 [(0, rv E (some o)), (1, .int a_1), (2, .int a_2)] := by simpa only [lv_args, cat_q, cat_i, cat_j, reduceIte, Nat.reduceEqDiff, Nat.reduceAdd, Nat.zero_add] using hl
  generalize s.heap = H at hH ⊢
  unfold f_X10_takeAway at hf
  refine hl_aload_n hx hb dX10_takeAway_0 rfl (lv_at hl 0 rfl) ?_
  refine g10_5 hx hb hts hown hKs hH rfl ho m2_133 dX10_takeAway_1 ?_
  refine lv_iload_n hx hb dX10_takeAway_4 rfl (lv_at hl 1 rfl) ?_
  obtain ⟨a1, ha1, hf⟩ := bnd hf
  replace ha1 := cha_some ha1
  obtain ⟨j2, hj2, hf⟩ := bnd hf
  refine hw_aald27 hx hb hKs hH ha1.1 ha1.2 hj2 dX10_takeAway_5 ?_
  refine hl_astore_n (lv' := [(3, rv E (aR w a1.1 j2)), (0, rv E (some o)), (1, .int a_1), (2, .int a_2)]) hx hb dX10_takeAway_6 rfl hl (by decide) rfl (fun ls hl => ?_)
  refine hl_aload_n hx hb dX10_takeAway_7 rfl (lv_at hl 0 rfl) ?_
  obtain ⟨a3, ha3, hf⟩ := bnd hf
  replace ha3 := chk_some ha3
  refine gn7_6 hx hb hts hown hKs hH ha3.1 ha3.2 m2_91 dX10_takeAway_8 ?_
  refine lv_iconst (v := 5) hx hb dX10_takeAway_11 (by decide) ?_
  refine lv_icmp_ge (tgt := 82) hx hb dX10_takeAway_12 (by decide) (fun c4 => ?_) (fun c4 => ?_)
  · replace hf := (if_pos c4).symm.trans hf
    refine hl_aload_n hx hb dX10_takeAway_82 rfl (lv_at hl 0 rfl) ?_
    obtain ⟨q5, hq5, hf⟩ := bnd hf
    refine hcV_v hx hb hml hown hts hKs hT hb0 hH (As := []) (rest := []) (k_X7_dropHearing l E K H.size a3 w ha3.2 hq5) (gV m6_90 m2_116 m2_117 m1_13 m2_118) hd_X7_dropHearing ⟨Nat.le_of_ble_eq_true rfl, Nat.le_of_ble_eq_true rfl, rfl, rfl⟩ ha3.1 ha3.2 rfl rfl rfl hl.1 rfl rc0 rfl dX10_takeAway_83 ⟨Nat.zero_le _, Nat.zero_le _⟩ (fun H locs hH => ?_)
    exact hw_vret hx hb hret hf hH hlocks dX10_takeAway_86
  · replace hf := (if_neg c4).symm.trans hf
    refine hl_aload_n hx hb dX10_takeAway_15 rfl (lv_at hl 0 rfl) ?_
    refine gn7_1 hx hb hts hown hKs hH ha3.1 ha3.2 m2_73 dX10_takeAway_16 ?_
    refine hl_aload_n hx hb dX10_takeAway_19 rfl (lv_at hl 1 rfl) ?_
    refine g10_0 hx hb hts hown hKs hH rfl ho m2_119 dX10_takeAway_20 ?_
    obtain ⟨a6, ha6, hf⟩ := bnd hf
    replace ha6 := chk_some ha6
    refine gn9_11 hx hb hts hown hKs hH ha6.1 ha6.2 m1_187 dX10_takeAway_23 ?_
    refine lv_iload_n hx hb dX10_takeAway_26 rfl (lv_at hl 3 rfl) ?_
    obtain ⟨a7, ha7, hf⟩ := bnd hf
    replace ha7 := cha_some ha7
    obtain ⟨j8, hj8, hf⟩ := bnd hf
    refine hw_iald hx hb hKs hH ha7.1 ha7.2 hj8 dX10_takeAway_27 ?_
    refine lv_iadd hx hb dX10_takeAway_28 ?_
    refine lv_istore (lv' := [(4, .int (((wI w 701 a3) + (aI w a7.1 j8)))), (3, rv E (aR w a1.1 j2)), (0, rv E (some o)), (1, .int a_1), (2, .int a_2)]) hx hb dX10_takeAway_29 hl (by decide) (by simp [List.filter_cons, cat_q, cat_i, cat_j]) (fun ls hl => ?_)
    refine hl_aload_n hx hb dX10_takeAway_31 rfl (lv_at hl 2 rfl) ?_
    refine g10_0 hx hb hts hown hKs hH rfl ho m2_119 dX10_takeAway_32 ?_
    refine gn9_9 hx hb hts hown hKs hH ha6.1 ha6.2 m1_177 dX10_takeAway_35 ?_
    refine lv_iload_n hx hb dX10_takeAway_38 rfl (lv_at hl 3 rfl) ?_
    obtain ⟨a9, ha9, hf⟩ := bnd hf
    replace ha9 := cha_some ha9
    obtain ⟨j10, hj10, hf⟩ := bnd hf
    refine hw_aald25 hx hb hKs hH ha9.1 ha9.2 hj10 dX10_takeAway_39 ?_
    obtain ⟨a11, ha11, hf⟩ := bnd hf
    replace ha11 := chk_some ha11
    refine gn3_3 hx hb hts hown hKs hH ha11.1 ha11.2 m1_103 dX10_takeAway_40 ?_
    refine lv_if_eq (tgt := 60) hx hb dX10_takeAway_43 (by decide) (fun c12 => ?_) (fun c12 => ?_)
    · replace hf := (if_pos c12).symm.trans hf
      refine hl_aload_n hx hb dX10_takeAway_60 rfl (lv_at hl 1 rfl) ?_
      refine hl_aload_n hx hb dX10_takeAway_61 rfl (lv_at hl 2 rfl) ?_
      refine g10_1 hx hb hts hown hKs hH rfl ho m2_123 dX10_takeAway_62 ?_
      refine lv_iload_n hx hb dX10_takeAway_65 rfl (lv_at hl 4 rfl) ?_
      refine lv_iload hx hb dX10_takeAway_66 (lv_at hl 0 rfl) ?_
      refine hl_aload_n hx hb dX10_takeAway_68 rfl (lv_at hl 1 rfl) ?_
      refine gn7_1 hx hb hts hown hKs hH ha3.1 ha3.2 m2_73 dX10_takeAway_69 ?_
      refine lv_isub hx hb dX10_takeAway_72 ?_
      obtain ⟨q13, hq13, hf⟩ := bnd hf
      refine hcV_v hx hb hml hown hts hKs hT hb0 hH (As := [.int ((wI w 1001 o)), .int a_2, .int ((((wI w 701 a3) + (aI w a7.1 j8)) - (wI w 701 a3)))]) (rest := []) (k_X7_note l E K H.size a3 (wI w 1001 o) a_2 (((wI w 701 a3) + (aI w a7.1 j8)) - (wI w 701 a3)) w ha3.2 hq13) (gV m6_86 m6_87 m6_88 m1_13 m6_89) hd_X7_note ⟨Nat.le_of_ble_eq_true rfl, Nat.le_of_ble_eq_true rfl, rfl, rfl⟩ ha3.1 ha3.2 rfl rfl rfl hl.1 rfl rc0 rfl dX10_takeAway_73 ⟨Nat.zero_le _, Nat.zero_le _⟩ (fun H locs hH => ?_)
      refine hl_aload_n hx hb dX10_takeAway_76 rfl (lv_at hl 1 rfl) ?_
      refine lv_iload hx hb dX10_takeAway_77 (lv_at hl 0 rfl) ?_
      obtain ⟨w14, hw14, hf⟩ := bnd hf
      replace hw14 := Option.some.inj hw14
      refine pn7_1 (v := ((wI w 701 a3) + (aI w a7.1 j8))) hx hb hts hown hKs hH ha3.1 ha3.2 m2_73 dX10_takeAway_79 (fun H locs hH => ?_)
      rw [hw14] at hH
      refine hl_aload_n hx hb dX10_takeAway_82 rfl (lv_at hl 1 rfl) ?_
      obtain ⟨q15, hq15, hf⟩ := bnd hf
      refine hcV_v hx hb hml hown hts hKs hT hb0 hH (As := []) (rest := []) (k_X7_dropHearing l E K H.size a3 w14 ha3.2 hq15) (gV m6_90 m2_116 m2_117 m1_13 m2_118) hd_X7_dropHearing ⟨Nat.le_of_ble_eq_true rfl, Nat.le_of_ble_eq_true rfl, rfl, rfl⟩ ha3.1 ha3.2 rfl rfl rfl hl.1 rfl rc0 rfl dX10_takeAway_83 ⟨Nat.zero_le _, Nat.zero_le _⟩ (fun H locs hH => ?_)
      exact hw_vret hx hb hret hf hH hlocks dX10_takeAway_86
    · replace hf := (if_neg c12).symm.trans hf
      refine lv_iload hx hb dX10_takeAway_46 (lv_at hl 0 rfl) ?_
      refine hl_aload_n hx hb dX10_takeAway_48 rfl (lv_at hl 2 rfl) ?_
      refine g10_0 hx hb hts hown hKs hH rfl ho m2_119 dX10_takeAway_49 ?_
      refine gn9_13 hx hb hts hown hKs hH ha6.1 ha6.2 m1_193 dX10_takeAway_52 ?_
      obtain ⟨q16, hq16, hf⟩ := bnd hf
      refine hcS_i hx hb hml hown hts hKs hT hb0 hH (As := [.int (((wI w 701 a3) + (aI w a7.1 j8))), .int ((wI w 913 a6))]) (rest := []) (k_J9_min_7cf53 l E K H.size ((wI w 701 a3) + (aI w a7.1 j8)) (wI w 913 a6) w hq16) (gS m6_85 m3_54 m1_5 m3_55) hs_J9_min_7cf53 ⟨Nat.le_of_ble_eq_true rfl, Nat.le_of_ble_eq_true rfl, rfl, rfl⟩ hl.1 rfl rc0 rfl dX10_takeAway_55 ⟨Nat.zero_le _, Nat.zero_le _⟩ (fun H locs hH => ?_)
      refine lv_istore (lv' := [(4, .int (q16.1)), (3, rv E (aR w a1.1 j2)), (0, rv E (some o)), (1, .int a_1), (2, .int a_2)]) hx hb dX10_takeAway_58 hl (by decide) (by simp [List.filter_cons, cat_q, cat_i, cat_j]) (fun ls hl => ?_)
      refine hl_aload_n hx hb dX10_takeAway_60 rfl (lv_at hl 1 rfl) ?_
      refine hl_aload_n hx hb dX10_takeAway_61 rfl (lv_at hl 2 rfl) ?_
      refine g10_1 hx hb hts hown hKs hH rfl ho m2_123 dX10_takeAway_62 ?_
      refine lv_iload_n hx hb dX10_takeAway_65 rfl (lv_at hl 4 rfl) ?_
      refine lv_iload hx hb dX10_takeAway_66 (lv_at hl 0 rfl) ?_
      refine hl_aload_n hx hb dX10_takeAway_68 rfl (lv_at hl 1 rfl) ?_
      refine gn7_1 hx hb hts hown hKs hH ha3.1 ha3.2 m2_73 dX10_takeAway_69 ?_
      refine lv_isub hx hb dX10_takeAway_72 ?_
      obtain ⟨q17, hq17, hf⟩ := bnd hf
      refine hcV_v hx hb hml hown hts hKs hT hb0 hH (As := [.int ((wI q16.2 1001 o)), .int a_2, .int ((q16.1 - (wI q16.2 701 a3)))]) (rest := []) (k_X7_note l E K H.size a3 (wI q16.2 1001 o) a_2 (q16.1 - (wI q16.2 701 a3)) q16.2 ha3.2 hq17) (gV m6_86 m6_87 m6_88 m1_13 m6_89) hd_X7_note ⟨Nat.le_of_ble_eq_true rfl, Nat.le_of_ble_eq_true rfl, rfl, rfl⟩ ha3.1 ha3.2 rfl rfl rfl hl.1 rfl rc0 rfl dX10_takeAway_73 ⟨Nat.zero_le _, Nat.zero_le _⟩ (fun H locs hH => ?_)
      refine hl_aload_n hx hb dX10_takeAway_76 rfl (lv_at hl 1 rfl) ?_
      refine lv_iload hx hb dX10_takeAway_77 (lv_at hl 0 rfl) ?_
      obtain ⟨w18, hw18, hf⟩ := bnd hf
      replace hw18 := Option.some.inj hw18
      refine pn7_1 (v := q16.1) hx hb hts hown hKs hH ha3.1 ha3.2 m2_73 dX10_takeAway_79 (fun H locs hH => ?_)
      rw [hw18] at hH
      refine hl_aload_n hx hb dX10_takeAway_82 rfl (lv_at hl 1 rfl) ?_
      obtain ⟨q19, hq19, hf⟩ := bnd hf
      refine hcV_v hx hb hml hown hts hKs hT hb0 hH (As := []) (rest := []) (k_X7_dropHearing l E K H.size a3 w18 ha3.2 hq19) (gV m6_90 m2_116 m2_117 m1_13 m2_118) hd_X7_dropHearing ⟨Nat.le_of_ble_eq_true rfl, Nat.le_of_ble_eq_true rfl, rfl, rfl⟩ ha3.1 ha3.2 rfl rfl rfl hl.1 rfl rc0 rfl dX10_takeAway_83 ⟨Nat.zero_le _, Nat.zero_le _⟩ (fun H locs hH => ?_)
      exact hw_vret hx hb hret hf hH hlocks dX10_takeAway_86

theorem dL_isWorkingDay_0 : decode cL_isWorkingDay 0 = .ok (.aload_n 2, 1) := by decide +kernel
theorem dL_isWorkingDay_1 : decode cL_isWorkingDay 1 = .ok (.iconst 0, 1) := by decide +kernel
theorem dL_isWorkingDay_2 : decode cL_isWorkingDay 2 = .ok (.aload_n 0, 1) := by decide +kernel
theorem dL_isWorkingDay_3 : decode cL_isWorkingDay 3 = .ok (.iload_n 1, 1) := by decide +kernel
theorem dL_isWorkingDay_4 : decode cL_isWorkingDay 4 = .ok (.invokevirtual 15, 3) := by decide +kernel
theorem dL_isWorkingDay_7 : decode cL_isWorkingDay 7 = .ok (.ifCond .eq 7, 3) := by decide +kernel
theorem dL_isWorkingDay_10 : decode cL_isWorkingDay 10 = .ok (.lconst 1, 1) := by decide +kernel
theorem dL_isWorkingDay_11 : decode cL_isWorkingDay 11 = .ok (.goto 4, 3) := by decide +kernel
theorem dL_isWorkingDay_14 : decode cL_isWorkingDay 14 = .ok (.lconst 0, 1) := by decide +kernel
theorem dL_isWorkingDay_15 : decode cL_isWorkingDay 15 = .ok (.lastore, 1) := by decide +kernel
theorem dL_isWorkingDay_16 : decode cL_isWorkingDay 16 = .ok (.goto 6, 3) := by decide +kernel
theorem dL_isWorkingDay_19 : decode cL_isWorkingDay 19 = .ok (.astore_n 3, 1) := by decide +kernel
theorem dL_isWorkingDay_20 : decode cL_isWorkingDay 20 = .ok (.iconst 1, 1) := by decide +kernel
theorem dL_isWorkingDay_21 : decode cL_isWorkingDay 21 = .ok (.ireturn, 1) := by decide +kernel
theorem dL_isWorkingDay_22 : decode cL_isWorkingDay 22 = .ok (.iconst 0, 1) := by decide +kernel
theorem dL_isWorkingDay_23 : decode cL_isWorkingDay 23 = .ok (.ireturn, 1) := by decide +kernel
theorem hs_L_isWorkingDay : yL_isWorkingDay.cls ≠ "java/lang/invoke/MethodHandle" ∧ yL_isWorkingDay.cls ≠ "java/lang/invoke/VarHandle" ∧ (parseMethodDescriptor yL_isWorkingDay.desc).map (fun d => d.parameters.length) = some 3 := by decide +kernel
set_option maxHeartbeats 4000000 in
set_option maxRecDepth 100000 in
theorem k_L_isWorkingDay (l : Launch) (hls : l.stackTraces = false) (E : Ev) (K : Kd) (z : Nat) (a_0 : Option Nat) (a_1 : Int32) (a_2 : Option Nat) (w : Wd) {r : Int32} {w' : Wd} (hf : f_L_isWorkingDay K a_0 a_1 a_2 w = some (r, w')) : Met l yL_isWorkingDay (Cond.codeWith yL_isWorkingDay cL_isWorkingDay 4 (Option.some Jvm.ClassFile.FieldType.int) [(0, 16, 19, 13)] :: bt) ({ frames := 8, cells := 1, slots := 6, locals := 132 } : Room) (va_Pc [rv E a_0, .int a_1, rv E a_2] (HB E K w z)) (QW E K w' r) 1 6 (hA E) := by
  refine MetH_ofW (cc := cL_isWorkingDay) (maxL := 4) (ret := (Option.some Jvm.ClassFile.FieldType.int)) (hh := [(0, 16, 19, 13)]) (by decide) rfl ?_
  intro p e s m args below meth c s₁ B hml htab hv
  obtain ⟨rfl, hz, hP, hKs, hT, hb0⟩ := hv
  have C : CX p l e s m _ meth c cL_isWorkingDay 4 RL (Option.some Jvm.ClassFile.FieldType.int) E := ⟨B.exec, B.bytes, hml, findClass_of_methodNamed B.named, fun w h => atoms_spec (ws := Cond.codeWith yL_isWorkingDay cL_isWorkingDay 4 (Option.some Jvm.ClassFile.FieldType.int) [(0, 16, 19, 13)] :: bt) B.pre w (List.mem_cons_of_mem _ h), hKs, hT, by rw [hz]; exact hb0, B.notSynchronized, B.returns⟩
  have hH : HQ E K z w s s.heap [] := ⟨hP, va_S.rf, hz⟩
  obtain ⟨hx, hb, hml, hown, hts, hKs, hT, hb0, hlocks, hret⟩ := id C
  have hl := lv_entry [rv E a_0, .int a_1, rv E a_2] (n := 4) (by simp [lg_len_nil, lg_len_i, lg_len_j, lg_len_q, lg_len_f, lg_len_d, lg_len_r])
  rw [lg_entry_eq]
  generalize (lg_sl [rv E a_0, .int a_1, rv E a_2] ++ List.replicate (4 - (lg_sl [rv E a_0, .int a_1, rv E a_2]).length) Slot.unset).toArray = ls at hl ⊢
  replace hl : lv_has ls 4 [(0, rv E a_0), (1, .int a_1), (2, rv E a_2)] := by simpa only [lv_args, cat_q, cat_i, cat_j, reduceIte, Nat.reduceEqDiff, Nat.reduceAdd, Nat.zero_add] using hl
  generalize s.heap = H at hH ⊢
  unfold f_L_isWorkingDay at hf
  refine hl_aload_n hx hb dL_isWorkingDay_0 rfl (lv_at hl 2 rfl) ?_
  refine lv_iconst (v := 0) hx hb dL_isWorkingDay_1 (by decide) ?_
  refine hl_aload_n hx hb dL_isWorkingDay_2 rfl (lv_at hl 0 rfl) ?_
  refine lv_iload_n hx hb dL_isWorkingDay_3 rfl (lv_at hl 1 rfl) ?_
  obtain ⟨a1, ha1, hf⟩ := bnd hf
  replace ha1 := chk_some ha1
  obtain ⟨q2, hq2, hf⟩ := bnd hf
  refine hxC_z hx hb hml hown hts hKs hT hb0 hH (As := [.int a_1]) (rest := [.int 0, rv E a_2]) (k_X12_isWorkingDay l hls E K H.size a1 a_1 w ha1.2 hq2) (gV m5_51 m5_52 m5_53 m1_1 m5_54) hd_X12_isWorkingDay ⟨Nat.le_of_ble_eq_true rfl, Nat.le_of_ble_eq_true rfl, rfl, rfl⟩ ha1.1 ha1.2 rfl rfl rfl hl.1 rfl (rcI (rcV rc0)) rfl dL_isWorkingDay_4 ⟨Nat.le_of_ble_eq_true rfl, Nat.le_of_ble_eq_true rfl⟩ (fun c4 hc4 H locs q9 ce9 hH hc9 hv9 hf9 => ?_) (fun v3 hv3 H locs hH => ?_)
  · replace hf := (xh_inr hc4).symm.trans hf
    by_cases h5 : c4 = 2
    · subst h5
      replace hf := (if_pos rfl).symm.trans hf
      refine vx_catch (name := "java/lang/IllegalArgumentException") hown [] ⟨0, 16, 19, 13⟩ [] htab pass0 (by decide) (by decide) (hts _ m4_213) (va_Nw.use rfl (hKs.2.1 _ m4_220)) hc9 hv9 hf9 ?_
      refine lv_astore_n (lv' := [(3, .ref q9), (0, rv E a_0), (1, .int a_1), (2, rv E a_2)]) hx hb dL_isWorkingDay_19 rfl hl (by decide) (by simp [List.filter_cons, cat_q, cat_i, cat_j]) (fun ls hl => ?_)
      refine lv_iconst (v := 1) hx hb dL_isWorkingDay_20 (by decide) ?_
      exact hw_wret hx hb (Nat.le_of_ble_eq_true rfl) (Nat.le_of_ble_eq_true rfl) hret hf hH hlocks dL_isWorkingDay_21
    replace hf := (if_neg h5).symm.trans hf
    cases hf
  · replace hf := (xh_inl hv3).symm.trans hf
    refine lv_if_eq (tgt := 14) hx hb dL_isWorkingDay_7 (by decide) (fun c6 => ?_) (fun c6 => ?_)
    · replace hf := (if_pos c6).symm.trans hf
      refine lv_lconst (v := 0) hx hb dL_isWorkingDay_14 rfl ?_
      obtain ⟨a7, ha7, hf⟩ := bnd hf
      replace ha7 := cha_some ha7
      obtain ⟨j8, hj8, hf⟩ := bnd hf
      obtain ⟨w9, hw9, hf⟩ := bnd hf
      replace hw9 := Option.some.inj hw9
      refine hw_last (x := 0) hx hb hKs hH ha7.1 ha7.2 hj8 dL_isWorkingDay_15 (fun H locs hH => ?_)
      rw [hw9] at hH
      refine lv_goto (tgt := 22) hx hb dL_isWorkingDay_16 (by decide) ?_
      refine lv_iconst (v := 0) hx hb dL_isWorkingDay_22 (by decide) ?_
      exact hw_wret hx hb (Nat.le_of_ble_eq_true rfl) (Nat.le_of_ble_eq_true rfl) hret hf hH hlocks dL_isWorkingDay_23
    · replace hf := (if_neg c6).symm.trans hf
      refine lv_lconst (v := 1) hx hb dL_isWorkingDay_10 rfl ?_
      refine lv_goto (tgt := 15) hx hb dL_isWorkingDay_11 (by decide) ?_
      obtain ⟨a10, ha10, hf⟩ := bnd hf
      replace ha10 := cha_some ha10
      obtain ⟨j11, hj11, hf⟩ := bnd hf
      obtain ⟨w12, hw12, hf⟩ := bnd hf
      replace hw12 := Option.some.inj hw12
      refine hw_last (x := 1) hx hb hKs hH ha10.1 ha10.2 hj11 dL_isWorkingDay_15 (fun H locs hH => ?_)
      rw [hw12] at hH
      refine lv_goto (tgt := 22) hx hb dL_isWorkingDay_16 (by decide) ?_
      refine lv_iconst (v := 0) hx hb dL_isWorkingDay_22 (by decide) ?_
      exact hw_wret hx hb (Nat.le_of_ble_eq_true rfl) (Nat.le_of_ble_eq_true rfl) hret hf hH hlocks dL_isWorkingDay_23

theorem dL_workingDays_0 : decode cL_workingDays 0 = .ok (.aload_n 3, 1) := by decide +kernel
theorem dL_workingDays_1 : decode cL_workingDays 1 = .ok (.iconst 0, 1) := by decide +kernel
theorem dL_workingDays_2 : decode cL_workingDays 2 = .ok (.aload_n 0, 1) := by decide +kernel
theorem dL_workingDays_3 : decode cL_workingDays 3 = .ok (.iload_n 1, 1) := by decide +kernel
theorem dL_workingDays_4 : decode cL_workingDays 4 = .ok (.iload_n 2, 1) := by decide +kernel
theorem dL_workingDays_5 : decode cL_workingDays 5 = .ok (.invokevirtual 19, 3) := by decide +kernel
theorem dL_workingDays_8 : decode cL_workingDays 8 = .ok (.i2l, 1) := by decide +kernel
theorem dL_workingDays_9 : decode cL_workingDays 9 = .ok (.lastore, 1) := by decide +kernel
theorem dL_workingDays_10 : decode cL_workingDays 10 = .ok (.goto 7, 3) := by decide +kernel
theorem dL_workingDays_13 : decode cL_workingDays 13 = .ok (.astore 4, 2) := by decide +kernel
theorem dL_workingDays_15 : decode cL_workingDays 15 = .ok (.iconst 1, 1) := by decide +kernel
theorem dL_workingDays_16 : decode cL_workingDays 16 = .ok (.ireturn, 1) := by decide +kernel
theorem dL_workingDays_17 : decode cL_workingDays 17 = .ok (.iconst 0, 1) := by decide +kernel
theorem dL_workingDays_18 : decode cL_workingDays 18 = .ok (.ireturn, 1) := by decide +kernel
theorem hs_L_workingDays : yL_workingDays.cls ≠ "java/lang/invoke/MethodHandle" ∧ yL_workingDays.cls ≠ "java/lang/invoke/VarHandle" ∧ (parseMethodDescriptor yL_workingDays.desc).map (fun d => d.parameters.length) = some 4 := by decide +kernel
set_option maxHeartbeats 4000000 in
set_option maxRecDepth 100000 in
theorem k_L_workingDays (l : Launch) (hls : l.stackTraces = false) (E : Ev) (K : Kd) (z : Nat) (a_0 : Option Nat) (a_1 : Int32) (a_2 : Int32) (a_3 : Option Nat) (w : Wd) {r : Int32} {w' : Wd} (hf : f_L_workingDays K a_0 a_1 a_2 a_3 w = some (r, w')) : Met l yL_workingDays (Cond.codeWith yL_workingDays cL_workingDays 5 (Option.some Jvm.ClassFile.FieldType.int) [(0, 10, 13, 13)] :: bt) ({ frames := 8, cells := 1, slots := 6, locals := 134 } : Room) (va_Pc [rv E a_0, .int a_1, .int a_2, rv E a_3] (HB E K w z)) (QW E K w' r) 1 6 (hA E) := by
  refine MetH_ofW (cc := cL_workingDays) (maxL := 5) (ret := (Option.some Jvm.ClassFile.FieldType.int)) (hh := [(0, 10, 13, 13)]) (by decide) rfl ?_
  intro p e s m args below meth c s₁ B hml htab hv
  obtain ⟨rfl, hz, hP, hKs, hT, hb0⟩ := hv
  have C : CX p l e s m _ meth c cL_workingDays 5 RL (Option.some Jvm.ClassFile.FieldType.int) E := ⟨B.exec, B.bytes, hml, findClass_of_methodNamed B.named, fun w h => atoms_spec (ws := Cond.codeWith yL_workingDays cL_workingDays 5 (Option.some Jvm.ClassFile.FieldType.int) [(0, 10, 13, 13)] :: bt) B.pre w (List.mem_cons_of_mem _ h), hKs, hT, by rw [hz]; exact hb0, B.notSynchronized, B.returns⟩
  have hH : HQ E K z w s s.heap [] := ⟨hP, va_S.rf, hz⟩
  obtain ⟨hx, hb, hml, hown, hts, hKs, hT, hb0, hlocks, hret⟩ := id C
  have hl := lv_entry [rv E a_0, .int a_1, .int a_2, rv E a_3] (n := 5) (by simp [lg_len_nil, lg_len_i, lg_len_j, lg_len_q, lg_len_f, lg_len_d, lg_len_r])
  rw [lg_entry_eq]
  generalize (lg_sl [rv E a_0, .int a_1, .int a_2, rv E a_3] ++ List.replicate (5 - (lg_sl [rv E a_0, .int a_1, .int a_2, rv E a_3]).length) Slot.unset).toArray = ls at hl ⊢
  replace hl : lv_has ls 5 [(0, rv E a_0), (1, .int a_1), (2, .int a_2), (3, rv E a_3)] := by simpa only [lv_args, cat_q, cat_i, cat_j, reduceIte, Nat.reduceEqDiff, Nat.reduceAdd, Nat.zero_add] using hl
  generalize s.heap = H at hH ⊢
  unfold f_L_workingDays at hf
  refine hl_aload_n hx hb dL_workingDays_0 rfl (lv_at hl 3 rfl) ?_
  refine lv_iconst (v := 0) hx hb dL_workingDays_1 (by decide) ?_
  refine hl_aload_n hx hb dL_workingDays_2 rfl (lv_at hl 0 rfl) ?_
  refine lv_iload_n hx hb dL_workingDays_3 rfl (lv_at hl 1 rfl) ?_
  refine lv_iload_n hx hb dL_workingDays_4 rfl (lv_at hl 2 rfl) ?_
  obtain ⟨a1, ha1, hf⟩ := bnd hf
  replace ha1 := chk_some ha1
  obtain ⟨q2, hq2, hf⟩ := bnd hf
  refine hxC_i hx hb hml hown hts hKs hT hb0 hH (As := [.int a_1, .int a_2]) (rest := [.int 0, rv E a_3]) (k_X12_workingDays l hls E K H.size a1 a_1 a_2 w ha1.2 hq2) (gV m5_63 m5_64 m5_65 m1_1 m5_66) hd_X12_workingDays ⟨Nat.le_of_ble_eq_true rfl, Nat.le_of_ble_eq_true rfl, rfl, rfl⟩ ha1.1 ha1.2 rfl rfl rfl hl.1 rfl (rcI (rcV rc0)) rfl dL_workingDays_5 ⟨Nat.le_of_ble_eq_true rfl, Nat.le_of_ble_eq_true rfl⟩ (fun c4 hc4 H locs q9 ce9 hH hc9 hv9 hf9 => ?_) (fun v3 hv3 H locs hH => ?_)
  · replace hf := (xh_inr hc4).symm.trans hf
    by_cases h5 : c4 = 2
    · subst h5
      replace hf := (if_pos rfl).symm.trans hf
      refine vx_catch (name := "java/lang/IllegalArgumentException") hown [] ⟨0, 10, 13, 13⟩ [] htab pass0 (by decide) (by decide) (hts _ m4_213) (va_Nw.use rfl (hKs.2.1 _ m4_220)) hc9 hv9 hf9 ?_
      refine lv_astore (lv' := [(4, .ref q9), (0, rv E a_0), (1, .int a_1), (2, .int a_2), (3, rv E a_3)]) hx hb dL_workingDays_13 hl (by decide) (by simp [List.filter_cons, cat_q, cat_i, cat_j]) (fun ls hl => ?_)
      refine lv_iconst (v := 1) hx hb dL_workingDays_15 (by decide) ?_
      exact hw_wret hx hb (Nat.le_of_ble_eq_true rfl) (Nat.le_of_ble_eq_true rfl) hret hf hH hlocks dL_workingDays_16
    replace hf := (if_neg h5).symm.trans hf
    cases hf
  · replace hf := (xh_inl hv3).symm.trans hf
    refine lv_i2l (v := (v3.toInt64)) hx hb dL_workingDays_8 rfl ?_
    obtain ⟨a6, ha6, hf⟩ := bnd hf
    replace ha6 := cha_some ha6
    obtain ⟨j7, hj7, hf⟩ := bnd hf
    obtain ⟨w8, hw8, hf⟩ := bnd hf
    replace hw8 := Option.some.inj hw8
    refine hw_last (x := (v3.toInt64)) hx hb hKs hH ha6.1 ha6.2 hj7 dL_workingDays_9 (fun H locs hH => ?_)
    rw [hw8] at hH
    refine lv_goto (tgt := 17) hx hb dL_workingDays_10 (by decide) ?_
    refine lv_iconst (v := 0) hx hb dL_workingDays_17 (by decide) ?_
    exact hw_wret hx hb (Nat.le_of_ble_eq_true rfl) (Nat.le_of_ble_eq_true rfl) hret hf hH hlocks dL_workingDays_18

theorem dL_lengthening_0 : decode cL_lengthening 0 = .ok (.aload_n 2, 1) := by decide +kernel
theorem dL_lengthening_1 : decode cL_lengthening 1 = .ok (.iconst 0, 1) := by decide +kernel
theorem dL_lengthening_2 : decode cL_lengthening 2 = .ok (.aload_n 0, 1) := by decide +kernel
theorem dL_lengthening_3 : decode cL_lengthening 3 = .ok (.iload_n 1, 1) := by decide +kernel
theorem dL_lengthening_4 : decode cL_lengthening 4 = .ok (.invokevirtual 23, 3) := by decide +kernel
theorem dL_lengthening_7 : decode cL_lengthening 7 = .ok (.i2l, 1) := by decide +kernel
theorem dL_lengthening_8 : decode cL_lengthening 8 = .ok (.lastore, 1) := by decide +kernel
theorem dL_lengthening_9 : decode cL_lengthening 9 = .ok (.goto 6, 3) := by decide +kernel
theorem dL_lengthening_12 : decode cL_lengthening 12 = .ok (.astore_n 3, 1) := by decide +kernel
theorem dL_lengthening_13 : decode cL_lengthening 13 = .ok (.iconst 1, 1) := by decide +kernel
theorem dL_lengthening_14 : decode cL_lengthening 14 = .ok (.ireturn, 1) := by decide +kernel
theorem dL_lengthening_15 : decode cL_lengthening 15 = .ok (.iconst 0, 1) := by decide +kernel
theorem dL_lengthening_16 : decode cL_lengthening 16 = .ok (.ireturn, 1) := by decide +kernel
theorem hs_L_lengthening : yL_lengthening.cls ≠ "java/lang/invoke/MethodHandle" ∧ yL_lengthening.cls ≠ "java/lang/invoke/VarHandle" ∧ (parseMethodDescriptor yL_lengthening.desc).map (fun d => d.parameters.length) = some 3 := by decide +kernel
set_option maxHeartbeats 4000000 in
set_option maxRecDepth 100000 in
theorem k_L_lengthening (l : Launch) (hls : l.stackTraces = false) (E : Ev) (K : Kd) (z : Nat) (a_0 : Option Nat) (a_1 : Int32) (a_2 : Option Nat) (w : Wd) {r : Int32} {w' : Wd} (hf : f_L_lengthening K a_0 a_1 a_2 w = some (r, w')) : Met l yL_lengthening (Cond.codeWith yL_lengthening cL_lengthening 4 (Option.some Jvm.ClassFile.FieldType.int) [(0, 9, 12, 13)] :: bt) ({ frames := 8, cells := 1, slots := 6, locals := 132 } : Room) (va_Pc [rv E a_0, .int a_1, rv E a_2] (HB E K w z)) (QW E K w' r) 1 6 (hA E) := by
  refine MetH_ofW (cc := cL_lengthening) (maxL := 4) (ret := (Option.some Jvm.ClassFile.FieldType.int)) (hh := [(0, 9, 12, 13)]) (by decide) rfl ?_
  intro p e s m args below meth c s₁ B hml htab hv
  obtain ⟨rfl, hz, hP, hKs, hT, hb0⟩ := hv
  have C : CX p l e s m _ meth c cL_lengthening 4 RL (Option.some Jvm.ClassFile.FieldType.int) E := ⟨B.exec, B.bytes, hml, findClass_of_methodNamed B.named, fun w h => atoms_spec (ws := Cond.codeWith yL_lengthening cL_lengthening 4 (Option.some Jvm.ClassFile.FieldType.int) [(0, 9, 12, 13)] :: bt) B.pre w (List.mem_cons_of_mem _ h), hKs, hT, by rw [hz]; exact hb0, B.notSynchronized, B.returns⟩
  have hH : HQ E K z w s s.heap [] := ⟨hP, va_S.rf, hz⟩
  obtain ⟨hx, hb, hml, hown, hts, hKs, hT, hb0, hlocks, hret⟩ := id C
  have hl := lv_entry [rv E a_0, .int a_1, rv E a_2] (n := 4) (by simp [lg_len_nil, lg_len_i, lg_len_j, lg_len_q, lg_len_f, lg_len_d, lg_len_r])
  rw [lg_entry_eq]
  generalize (lg_sl [rv E a_0, .int a_1, rv E a_2] ++ List.replicate (4 - (lg_sl [rv E a_0, .int a_1, rv E a_2]).length) Slot.unset).toArray = ls at hl ⊢
  replace hl : lv_has ls 4 [(0, rv E a_0), (1, .int a_1), (2, rv E a_2)] := by simpa only [lv_args, cat_q, cat_i, cat_j, reduceIte, Nat.reduceEqDiff, Nat.reduceAdd, Nat.zero_add] using hl
  generalize s.heap = H at hH ⊢
  unfold f_L_lengthening at hf
  refine hl_aload_n hx hb dL_lengthening_0 rfl (lv_at hl 2 rfl) ?_
  refine lv_iconst (v := 0) hx hb dL_lengthening_1 (by decide) ?_
  refine hl_aload_n hx hb dL_lengthening_2 rfl (lv_at hl 0 rfl) ?_
  refine lv_iload_n hx hb dL_lengthening_3 rfl (lv_at hl 1 rfl) ?_
  obtain ⟨a1, ha1, hf⟩ := bnd hf
  replace ha1 := chk_some ha1
  obtain ⟨q2, hq2, hf⟩ := bnd hf
  refine hxC_i hx hb hml hown hts hKs hT hb0 hH (As := [.int a_1]) (rest := [.int 0, rv E a_2]) (k_X12_lengthening l hls E K H.size a1 a_1 w ha1.2 hq2) (gV m5_75 m5_76 m5_77 m1_1 m5_78) hd_X12_lengthening ⟨Nat.le_of_ble_eq_true rfl, Nat.le_of_ble_eq_true rfl, rfl, rfl⟩ ha1.1 ha1.2 rfl rfl rfl hl.1 rfl (rcI (rcV rc0)) rfl dL_lengthening_4 ⟨Nat.le_of_ble_eq_true rfl, Nat.le_of_ble_eq_true rfl⟩ (fun c4 hc4 H locs q9 ce9 hH hc9 hv9 hf9 => ?_) (fun v3 hv3 H locs hH => ?_)
  · replace hf := (xh_inr hc4).symm.trans hf
    by_cases h5 : c4 = 2
    · subst h5
      replace hf := (if_pos rfl).symm.trans hf
      refine vx_catch (name := "java/lang/IllegalArgumentException") hown [] ⟨0, 9, 12, 13⟩ [] htab pass0 (by decide) (by decide) (hts _ m4_213) (va_Nw.use rfl (hKs.2.1 _ m4_220)) hc9 hv9 hf9 ?_
      refine lv_astore_n (lv' := [(3, .ref q9), (0, rv E a_0), (1, .int a_1), (2, rv E a_2)]) hx hb dL_lengthening_12 rfl hl (by decide) (by simp [List.filter_cons, cat_q, cat_i, cat_j]) (fun ls hl => ?_)
      refine lv_iconst (v := 1) hx hb dL_lengthening_13 (by decide) ?_
      exact hw_wret hx hb (Nat.le_of_ble_eq_true rfl) (Nat.le_of_ble_eq_true rfl) hret hf hH hlocks dL_lengthening_14
    replace hf := (if_neg h5).symm.trans hf
    cases hf
  · replace hf := (xh_inl hv3).symm.trans hf
    refine lv_i2l (v := (v3.toInt64)) hx hb dL_lengthening_7 rfl ?_
    obtain ⟨a6, ha6, hf⟩ := bnd hf
    replace ha6 := cha_some ha6
    obtain ⟨j7, hj7, hf⟩ := bnd hf
    obtain ⟨w8, hw8, hf⟩ := bnd hf
    replace hw8 := Option.some.inj hw8
    refine hw_last (x := (v3.toInt64)) hx hb hKs hH ha6.1 ha6.2 hj7 dL_lengthening_8 (fun H locs hH => ?_)
    rw [hw8] at hH
    refine lv_goto (tgt := 15) hx hb dL_lengthening_9 (by decide) ?_
    refine lv_iconst (v := 0) hx hb dL_lengthening_15 (by decide) ?_
    exact hw_wret hx hb (Nat.le_of_ble_eq_true rfl) (Nat.le_of_ble_eq_true rfl) hret hf hH hlocks dL_lengthening_16
end
