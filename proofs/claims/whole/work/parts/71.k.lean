section
variable {p : Program} {l : Launch} {e : Env} {s : State} {m : MethodId} {args : Array Value} {below : List Frame} {meth : Method} {c : Code} {E : Ev} {K : Kd} {z : Nat}

theorem dX1_prepare_0 : decode cX1_prepare 0 = .ok (.aload_n 0, 1) := by decide +kernel
theorem dX1_prepare_1 : decode cX1_prepare 1 = .ok (.aload_n 1, 1) := by decide +kernel
theorem dX1_prepare_2 : decode cX1_prepare 2 = .ok (.getfield 40, 3) := by decide +kernel
theorem dX1_prepare_5 : decode cX1_prepare 5 = .ok (.iconst 3, 1) := by decide +kernel
theorem dX1_prepare_6 : decode cX1_prepare 6 = .ok (.invokevirtual 46, 3) := by decide +kernel
theorem dX1_prepare_9 : decode cX1_prepare 9 = .ok (.putfield 29, 3) := by decide +kernel
theorem dX1_prepare_12 : decode cX1_prepare 12 = .ok (.aload_n 0, 1) := by decide +kernel
theorem dX1_prepare_13 : decode cX1_prepare 13 = .ok (.aload_n 1, 1) := by decide +kernel
theorem dX1_prepare_14 : decode cX1_prepare 14 = .ok (.getfield 40, 3) := by decide +kernel
theorem dX1_prepare_17 : decode cX1_prepare 17 = .ok (.iconst 1, 1) := by decide +kernel
theorem dX1_prepare_18 : decode cX1_prepare 18 = .ok (.invokevirtual 46, 3) := by decide +kernel
theorem dX1_prepare_21 : decode cX1_prepare 21 = .ok (.putfield 25, 3) := by decide +kernel
theorem dX1_prepare_24 : decode cX1_prepare 24 = .ok (.aload_n 0, 1) := by decide +kernel
theorem dX1_prepare_25 : decode cX1_prepare 25 = .ok (.getfield 15, 3) := by decide +kernel
theorem dX1_prepare_28 : decode cX1_prepare 28 = .ok (.iconst 0, 1) := by decide +kernel
theorem dX1_prepare_29 : decode cX1_prepare 29 = .ok (.invokestatic 51, 3) := by decide +kernel
theorem dX1_prepare_32 : decode cX1_prepare 32 = .ok (.iconst 0, 1) := by decide +kernel
theorem dX1_prepare_33 : decode cX1_prepare 33 = .ok (.istore_n 2, 1) := by decide +kernel
theorem dX1_prepare_34 : decode cX1_prepare 34 = .ok (.iload_n 2, 1) := by decide +kernel
theorem dX1_prepare_35 : decode cX1_prepare 35 = .ok (.aload_n 0, 1) := by decide +kernel
theorem dX1_prepare_36 : decode cX1_prepare 36 = .ok (.getfield 29, 3) := by decide +kernel
theorem dX1_prepare_39 : decode cX1_prepare 39 = .ok (.if_icmp .ge 94, 3) := by decide +kernel
theorem dX1_prepare_42 : decode cX1_prepare 42 = .ok (.aload_n 0, 1) := by decide +kernel
theorem dX1_prepare_43 : decode cX1_prepare 43 = .ok (.getfield 9, 3) := by decide +kernel
theorem dX1_prepare_46 : decode cX1_prepare 46 = .ok (.iload_n 2, 1) := by decide +kernel
theorem dX1_prepare_47 : decode cX1_prepare 47 = .ok (.aload_n 1, 1) := by decide +kernel
theorem dX1_prepare_48 : decode cX1_prepare 48 = .ok (.getfield 40, 3) := by decide +kernel
theorem dX1_prepare_51 : decode cX1_prepare 51 = .ok (.getfield 57, 3) := by decide +kernel
theorem dX1_prepare_54 : decode cX1_prepare 54 = .ok (.iload_n 2, 1) := by decide +kernel
theorem dX1_prepare_55 : decode cX1_prepare 55 = .ok (.aaload, 1) := by decide +kernel
theorem dX1_prepare_56 : decode cX1_prepare 56 = .ok (.getfield 61, 3) := by decide +kernel
theorem dX1_prepare_59 : decode cX1_prepare 59 = .ok (.iastore, 1) := by decide +kernel
theorem dX1_prepare_60 : decode cX1_prepare 60 = .ok (.aload_n 0, 1) := by decide +kernel
theorem dX1_prepare_61 : decode cX1_prepare 61 = .ok (.getfield 18, 3) := by decide +kernel
theorem dX1_prepare_64 : decode cX1_prepare 64 = .ok (.iload_n 2, 1) := by decide +kernel
theorem dX1_prepare_65 : decode cX1_prepare 65 = .ok (.aload_n 0, 1) := by decide +kernel
theorem dX1_prepare_66 : decode cX1_prepare 66 = .ok (.getfield 25, 3) := by decide +kernel
theorem dX1_prepare_69 : decode cX1_prepare 69 = .ok (.invokestatic 32, 3) := by decide +kernel
theorem dX1_prepare_72 : decode cX1_prepare 72 = .ok (.aload_n 1, 1) := by decide +kernel
theorem dX1_prepare_73 : decode cX1_prepare 73 = .ok (.getfield 65, 3) := by decide +kernel
theorem dX1_prepare_76 : decode cX1_prepare 76 = .ok (.iload_n 2, 1) := by decide +kernel
theorem dX1_prepare_77 : decode cX1_prepare 77 = .ok (.iaload, 1) := by decide +kernel
theorem dX1_prepare_78 : decode cX1_prepare 78 = .ok (.iconst (-1), 1) := by decide +kernel
theorem dX1_prepare_79 : decode cX1_prepare 79 = .ok (.ixor, 1) := by decide +kernel
theorem dX1_prepare_80 : decode cX1_prepare 80 = .ok (.iand, 1) := by decide +kernel
theorem dX1_prepare_81 : decode cX1_prepare 81 = .ok (.iastore, 1) := by decide +kernel
theorem dX1_prepare_82 : decode cX1_prepare 82 = .ok (.iconst 0, 1) := by decide +kernel
theorem dX1_prepare_83 : decode cX1_prepare 83 = .ok (.istore_n 3, 1) := by decide +kernel
theorem dX1_prepare_84 : decode cX1_prepare 84 = .ok (.iload_n 3, 1) := by decide +kernel
theorem dX1_prepare_85 : decode cX1_prepare 85 = .ok (.aload_n 0, 1) := by decide +kernel
theorem dX1_prepare_86 : decode cX1_prepare 86 = .ok (.getfield 25, 3) := by decide +kernel
theorem dX1_prepare_89 : decode cX1_prepare 89 = .ok (.if_icmp .ge 38, 3) := by decide +kernel
theorem dX1_prepare_92 : decode cX1_prepare 92 = .ok (.aload_n 0, 1) := by decide +kernel
theorem dX1_prepare_93 : decode cX1_prepare 93 = .ok (.getfield 15, 3) := by decide +kernel
theorem dX1_prepare_96 : decode cX1_prepare 96 = .ok (.iload_n 3, 1) := by decide +kernel
theorem dX1_prepare_97 : decode cX1_prepare 97 = .ok (.dup2, 1) := by decide +kernel
theorem dX1_prepare_98 : decode cX1_prepare 98 = .ok (.iaload, 1) := by decide +kernel
theorem dX1_prepare_99 : decode cX1_prepare 99 = .ok (.aload_n 0, 1) := by decide +kernel
theorem dX1_prepare_100 : decode cX1_prepare 100 = .ok (.getfield 18, 3) := by decide +kernel
theorem dX1_prepare_103 : decode cX1_prepare 103 = .ok (.iload_n 2, 1) := by decide +kernel
theorem dX1_prepare_104 : decode cX1_prepare 104 = .ok (.iaload, 1) := by decide +kernel
theorem dX1_prepare_105 : decode cX1_prepare 105 = .ok (.iload_n 3, 1) := by decide +kernel
theorem dX1_prepare_106 : decode cX1_prepare 106 = .ok (.invokestatic 68, 3) := by decide +kernel
theorem dX1_prepare_109 : decode cX1_prepare 109 = .ok (.ifCond .eq 9, 3) := by decide +kernel
theorem dX1_prepare_112 : decode cX1_prepare 112 = .ok (.iconst 1, 1) := by decide +kernel
theorem dX1_prepare_113 : decode cX1_prepare 113 = .ok (.iload_n 2, 1) := by decide +kernel
theorem dX1_prepare_114 : decode cX1_prepare 114 = .ok (.ishl, 1) := by decide +kernel
theorem dX1_prepare_115 : decode cX1_prepare 115 = .ok (.goto 4, 3) := by decide +kernel
theorem dX1_prepare_118 : decode cX1_prepare 118 = .ok (.iconst 0, 1) := by decide +kernel
theorem dX1_prepare_119 : decode cX1_prepare 119 = .ok (.ior, 1) := by decide +kernel
theorem dX1_prepare_120 : decode cX1_prepare 120 = .ok (.iastore, 1) := by decide +kernel
theorem dX1_prepare_121 : decode cX1_prepare 121 = .ok (.iinc 3 1, 3) := by decide +kernel
theorem dX1_prepare_124 : decode cX1_prepare 124 = .ok (.goto (-40), 3) := by decide +kernel
theorem dX1_prepare_127 : decode cX1_prepare 127 = .ok (.iinc 2 1, 3) := by decide +kernel
theorem dX1_prepare_130 : decode cX1_prepare 130 = .ok (.goto (-96), 3) := by decide +kernel
theorem dX1_prepare_133 : decode cX1_prepare 133 = .ok (.return_, 1) := by decide +kernel
theorem hd_X1_prepare : yX1_prepare.cls = RX1 ∧ yX1_prepare.cls ≠ "java/lang/invoke/MethodHandle" ∧ yX1_prepare.cls ≠ "java/lang/invoke/VarHandle" ∧ (parseMethodDescriptor yX1_prepare.desc).map (fun d => d.parameters.length) = some 1 := by decide +kernel
theorem hs_X1_prepare : yX1_prepare.cls ≠ "java/lang/invoke/MethodHandle" ∧ yX1_prepare.cls ≠ "java/lang/invoke/VarHandle" ∧ (parseMethodDescriptor yX1_prepare.desc).map (fun d => d.parameters.length) = some 1 := by decide +kernel
set_option maxHeartbeats 4000000 in
set_option maxRecDepth 100000 in
theorem l_X1_prepare_L84 (C : CX p l e s m args meth c cX1_prepare 4 RX1 (Option.none : Option Jvm.ClassFile.FieldType) E) {o : Nat} (ho : K o = some (0, 0)) {w' : Wd} (k : Option Nat → Int32 → Int32 → Wd → Option Wd) (hk : ∀ (v1_84 : Option Nat) (v2_84 : Int32) (v3_84 : Int32) (w : Wd) (H : Heap) (locs : List Loc) (ls : Array Slot), HQ E K z w s H locs → lv_has ls 4 [(1, rv E v1_84), (2, .int v2_84), (3, .int v3_84), (0, rv E (some o))] → k v1_84 v2_84 v3_84 w = some w' → W p l e ({ frames := 1, cells := 0, slots := 0, locals := 23 } : Room) s m args below meth c H locs 0 0 (MQ below (QV E K z w') args s 0 0 (hA E)) (F0 m 127 ls [])) : ∀ (n : Nat) (v1_84 : Option Nat) (v2_84 : Int32) (v3_84 : Int32) (w : Wd) (H : Heap) (locs : List Loc) (ls : Array Slot), HQ E K z w s H locs → lv_has ls 4 [(1, rv E v1_84), (2, .int v2_84), (3, .int v3_84), (0, rv E (some o))] → f_X1_prepare_L84 K o k n v1_84 v2_84 v3_84 w = some w' → W p l e ({ frames := 1, cells := 0, slots := 0, locals := 23 } : Room) s m args below meth c H locs 0 0 (MQ below (QV E K z w') args s 0 0 (hA E)) (F0 m 84 ls []) := by
  obtain ⟨hx, hb, hml, hown, hts, hKs, hT, hb0, hlocks, hret⟩ := id C
  intro n
  induction n with
  | zero =>
    intro v1_84 v2_84 v3_84 w H locs ls hH hl hf
    cases hf
  | succ n ih =>
    intro v1_84 v2_84 v3_84 w H locs ls hH hl hf
    rw [f_X1_prepare_L84] at hf
    refine lv_iload_n hx hb dX1_prepare_84 rfl (lv_at hl 2 rfl) ?_
    refine hl_aload_n hx hb dX1_prepare_85 rfl (lv_at hl 3 rfl) ?_
    refine g1_4 hx hb hts hown hKs hH rfl ho m2_207 dX1_prepare_86 ?_
    refine lv_icmp_ge (tgt := 127) hx hb dX1_prepare_89 (by decide) (fun c26 => ?_) (fun c26 => ?_)
    · replace hf := (if_pos c26).symm.trans hf
      exact hk v1_84 v2_84 v3_84 _ _ _ _ hH (lv_sub hl [0, 1, 2, 3] rfl) hf
    · replace hf := (if_neg c26).symm.trans hf
      refine hl_aload_n hx hb dX1_prepare_92 rfl (lv_at hl 3 rfl) ?_
      refine g1_1 hx hb hts hown hKs hH rfl ho m2_204 dX1_prepare_93 ?_
      refine lv_iload_n hx hb dX1_prepare_96 rfl (lv_at hl 2 rfl) ?_
      refine lv_dup2_11 hx hb dX1_prepare_97 rfl rv_cat ?_
      obtain ⟨a27, ha27, hf⟩ := bnd hf
      replace ha27 := cha_some ha27
      obtain ⟨j28, hj28, hf⟩ := bnd hf
      refine hw_iald hx hb hKs hH ha27.1 ha27.2 hj28 dX1_prepare_98 ?_
      refine hl_aload_n hx hb dX1_prepare_99 rfl (lv_at hl 3 rfl) ?_
      refine g1_2 hx hb hts hown hKs hH rfl ho m2_205 dX1_prepare_100 ?_
      refine lv_iload_n hx hb dX1_prepare_103 rfl (lv_at hl 1 rfl) ?_
      obtain ⟨a29, ha29, hf⟩ := bnd hf
      replace ha29 := cha_some ha29
      obtain ⟨j30, hj30, hf⟩ := bnd hf
      refine hw_iald hx hb hKs hH ha29.1 ha29.2 hj30 dX1_prepare_104 ?_
      refine lv_iload_n hx hb dX1_prepare_105 rfl (lv_at hl 2 rfl) ?_
      obtain ⟨q31, hq31, hf⟩ := bnd hf
      refine hcM_i hx hb hml hown hts hKs hT hb0 hH (As := [.int ((aI w a29.1 j30)), .int v3_84]) (rest := [.int ((aI w a27.1 j28)), .int v3_84, rv E (wR w 101 o)]) (k_X12_has l E K H.size (aI w a29.1 j30) v3_84 w hq31) m4_40 m3_194 m1_1 m3_195 hs_X12_has ⟨Nat.le_of_ble_eq_true rfl, Nat.le_of_ble_eq_true rfl, rfl, rfl⟩ hl.1 rfl (rcI (rcI (rcV rc0))) rfl dX1_prepare_106 ⟨Nat.zero_le _, Nat.zero_le _⟩ (fun H locs hH => ?_)
      refine lv_if_eq (tgt := 118) hx hb dX1_prepare_109 (by decide) (fun c32 => ?_) (fun c32 => ?_)
      · replace hf := (if_pos c32).symm.trans hf
        refine lv_iconst (v := 0) hx hb dX1_prepare_118 (by decide) ?_
        refine lv_ior hx hb dX1_prepare_119 ?_
        obtain ⟨j33, hj33, hf⟩ := bnd hf
        obtain ⟨w34, hw34, hf⟩ := bnd hf
        replace hw34 := Option.some.inj hw34
        refine hw_iast (x := ((aI w a27.1 j28) ||| 0)) hx hb hKs hH ha27.1 ha27.2 hj33 dX1_prepare_120 (fun H locs hH => ?_)
        rw [hw34] at hH
        refine lv_iinc (v := (v3_84 + 1)) (lv' := [(3, .int ((v3_84 + 1))), (1, rv E v1_84), (2, .int v2_84), (0, rv E (some o))]) hx hb dX1_prepare_121 hl (k := 2) rfl rfl (by decide) rfl (fun ls hl => ?_)
        refine lv_goto (tgt := 84) hx hb dX1_prepare_124 (by decide) ?_
        exact ih v1_84 v2_84 (v3_84 + 1) _ _ _ _ hH (lv_sub hl [1, 2, 0, 3] rfl) hf
      · replace hf := (if_neg c32).symm.trans hf
        refine lv_iconst (v := 1) hx hb dX1_prepare_112 (by decide) ?_
        refine lv_iload_n hx hb dX1_prepare_113 rfl (lv_at hl 1 rfl) ?_
        refine lv_ishl hx hb dX1_prepare_114 ?_
        refine lv_goto (tgt := 119) hx hb dX1_prepare_115 (by decide) ?_
        refine lv_ior hx hb dX1_prepare_119 ?_
        obtain ⟨j35, hj35, hf⟩ := bnd hf
        obtain ⟨w36, hw36, hf⟩ := bnd hf
        replace hw36 := Option.some.inj hw36
        refine hw_iast (x := ((aI w a27.1 j28) ||| (1 <<< (v2_84 &&& 31)))) hx hb hKs hH ha27.1 ha27.2 hj35 dX1_prepare_120 (fun H locs hH => ?_)
        rw [hw36] at hH
        refine lv_iinc (v := (v3_84 + 1)) (lv' := [(3, .int ((v3_84 + 1))), (1, rv E v1_84), (2, .int v2_84), (0, rv E (some o))]) hx hb dX1_prepare_121 hl (k := 2) rfl rfl (by decide) rfl (fun ls hl => ?_)
        refine lv_goto (tgt := 84) hx hb dX1_prepare_124 (by decide) ?_
        exact ih v1_84 v2_84 (v3_84 + 1) _ _ _ _ hH (lv_sub hl [1, 2, 0, 3] rfl) hf
set_option maxHeartbeats 4000000 in
set_option maxRecDepth 100000 in
theorem l_X1_prepare_L34 (C : CX p l e s m args meth c cX1_prepare 4 RX1 (Option.none : Option Jvm.ClassFile.FieldType) E) {o : Nat} (ho : K o = some (0, 0)) {w' : Wd} (k : Option Nat → Int32 → Wd → Option Wd) (hk : ∀ (v1_34 : Option Nat) (v2_34 : Int32) (w : Wd) (H : Heap) (locs : List Loc) (ls : Array Slot), HQ E K z w s H locs → lv_has ls 4 [(1, rv E v1_34), (2, .int v2_34), (0, rv E (some o))] → k v1_34 v2_34 w = some w' → W p l e ({ frames := 1, cells := 0, slots := 0, locals := 23 } : Room) s m args below meth c H locs 0 0 (MQ below (QV E K z w') args s 0 0 (hA E)) (F0 m 133 ls [])) : ∀ (n : Nat) (v1_34 : Option Nat) (v2_34 : Int32) (w : Wd) (H : Heap) (locs : List Loc) (ls : Array Slot), HQ E K z w s H locs → lv_has ls 4 [(1, rv E v1_34), (2, .int v2_34), (0, rv E (some o))] → f_X1_prepare_L34 K o k n v1_34 v2_34 w = some w' → W p l e ({ frames := 1, cells := 0, slots := 0, locals := 23 } : Room) s m args below meth c H locs 0 0 (MQ below (QV E K z w') args s 0 0 (hA E)) (F0 m 34 ls []) := by
  obtain ⟨hx, hb, hml, hown, hts, hKs, hT, hb0, hlocks, hret⟩ := id C
  intro n
  induction n with
  | zero =>
    intro v1_34 v2_34 w H locs ls hH hl hf
    cases hf
  | succ n ih =>
    intro v1_34 v2_34 w H locs ls hH hl hf
    rw [f_X1_prepare_L34] at hf
    refine lv_iload_n hx hb dX1_prepare_34 rfl (lv_at hl 1 rfl) ?_
    refine hl_aload_n hx hb dX1_prepare_35 rfl (lv_at hl 2 rfl) ?_
    refine g1_3 hx hb hts hown hKs hH rfl ho m2_206 dX1_prepare_36 ?_
    refine lv_icmp_ge (tgt := 133) hx hb dX1_prepare_39 (by decide) (fun c10 => ?_) (fun c10 => ?_)
    · replace hf := (if_pos c10).symm.trans hf
      exact hk v1_34 v2_34 _ _ _ _ hH (lv_sub hl [0, 1, 2] rfl) hf
    · replace hf := (if_neg c10).symm.trans hf
      refine hl_aload_n hx hb dX1_prepare_42 rfl (lv_at hl 2 rfl) ?_
      refine g1_0 hx hb hts hown hKs hH rfl ho m2_203 dX1_prepare_43 ?_
      refine lv_iload_n hx hb dX1_prepare_46 rfl (lv_at hl 1 rfl) ?_
      refine hl_aload_n hx hb dX1_prepare_47 rfl (lv_at hl 0 rfl) ?_
      obtain ⟨a11, ha11, hf⟩ := bnd hf
      replace ha11 := chk_some ha11
      refine gn10_0 hx hb hts hown hKs hH ha11.1 ha11.2 m2_121 dX1_prepare_48 ?_
      obtain ⟨a12, ha12, hf⟩ := bnd hf
      replace ha12 := chk_some ha12
      refine gn9_9 hx hb hts hown hKs hH ha12.1 ha12.2 m1_178 dX1_prepare_51 ?_
      refine lv_iload_n hx hb dX1_prepare_54 rfl (lv_at hl 1 rfl) ?_
      obtain ⟨a13, ha13, hf⟩ := bnd hf
      replace ha13 := cha_some ha13
      obtain ⟨j14, hj14, hf⟩ := bnd hf
      refine hw_aald25 hx hb hKs hH ha13.1 ha13.2 hj14 dX1_prepare_55 ?_
      obtain ⟨a15, ha15, hf⟩ := bnd hf
      replace ha15 := chk_some ha15
      refine gn3_5 hx hb hts hown hKs hH ha15.1 ha15.2 m1_111 dX1_prepare_56 ?_
      obtain ⟨a16, ha16, hf⟩ := bnd hf
      replace ha16 := cha_some ha16
      obtain ⟨j17, hj17, hf⟩ := bnd hf
      obtain ⟨w18, hw18, hf⟩ := bnd hf
      replace hw18 := Option.some.inj hw18
      refine hw_iast (x := (wI w 305 a15)) hx hb hKs hH ha16.1 ha16.2 hj17 dX1_prepare_59 (fun H locs hH => ?_)
      rw [hw18] at hH
      refine hl_aload_n hx hb dX1_prepare_60 rfl (lv_at hl 2 rfl) ?_
      refine g1_2 hx hb hts hown hKs hH rfl ho m2_205 dX1_prepare_61 ?_
      refine lv_iload_n hx hb dX1_prepare_64 rfl (lv_at hl 1 rfl) ?_
      refine hl_aload_n hx hb dX1_prepare_65 rfl (lv_at hl 2 rfl) ?_
      refine g1_4 hx hb hts hown hKs hH rfl ho m2_207 dX1_prepare_66 ?_
      obtain ⟨q19, hq19, hf⟩ := bnd hf
      refine hcM_i hx hb hml hown hts hKs hT hb0 hH (As := [.int ((wI w18 104 o))]) (rest := [.int v2_34, rv E (wR w18 102 o)]) (k_X12_allOf l E K H.size (wI w18 104 o) w18 hq19) m4_37 m4_38 m1_1 m4_39 hs_X12_allOf ⟨Nat.le_of_ble_eq_true rfl, Nat.le_of_ble_eq_true rfl, rfl, rfl⟩ hl.1 rfl (rcI (rcV rc0)) rfl dX1_prepare_69 ⟨Nat.zero_le _, Nat.zero_le _⟩ (fun H locs hH => ?_)
      refine hl_aload_n hx hb dX1_prepare_72 rfl (lv_at hl 0 rfl) ?_
      refine gn10_4 hx hb hts hown hKs hH ha11.1 ha11.2 m2_131 dX1_prepare_73 ?_
      refine lv_iload_n hx hb dX1_prepare_76 rfl (lv_at hl 1 rfl) ?_
      obtain ⟨a20, ha20, hf⟩ := bnd hf
      replace ha20 := cha_some ha20
      obtain ⟨j21, hj21, hf⟩ := bnd hf
      refine hw_iald hx hb hKs hH ha20.1 ha20.2 hj21 dX1_prepare_77 ?_
      refine lv_iconst (v := (-1)) hx hb dX1_prepare_78 (by decide) ?_
      refine lv_ixor hx hb dX1_prepare_79 ?_
      refine lv_iand hx hb dX1_prepare_80 ?_
      obtain ⟨a22, ha22, hf⟩ := bnd hf
      replace ha22 := cha_some ha22
      obtain ⟨j23, hj23, hf⟩ := bnd hf
      obtain ⟨w24, hw24, hf⟩ := bnd hf
      replace hw24 := Option.some.inj hw24
      refine hw_iast (x := (q19.1 &&& ((aI q19.2 a20.1 j21) ^^^ (-1)))) hx hb hKs hH ha22.1 ha22.2 hj23 dX1_prepare_81 (fun H locs hH => ?_)
      rw [hw24] at hH
      refine lv_iconst (v := 0) hx hb dX1_prepare_82 (by decide) ?_
      refine lv_istore_n (i := 3) (lv' := [(3, .int 0), (1, rv E v1_34), (2, .int v2_34), (0, rv E (some o))]) hx hb dX1_prepare_83 rfl hl (by decide) rfl (fun ls hl => ?_)
      refine l_X1_prepare_L84  C ho _ (fun v1_84 v2_84 v3_84 w25 H locs ls hH hl hf => ?_) fu v1_34 v2_34 0 w24 _ _ _ hH (lv_sub hl [1, 2, 0, 3] rfl) hf
      refine lv_iinc (v := (v2_84 + 1)) (lv' := [(2, .int ((v2_84 + 1))), (1, rv E v1_84), (3, .int v3_84), (0, rv E (some o))]) hx hb dX1_prepare_127 hl (k := 1) rfl rfl (by decide) (by simp [List.filter_cons, cat_q, cat_i, cat_j, imax, imin]) (fun ls hl => ?_)
      refine lv_goto (tgt := 34) hx hb dX1_prepare_130 (by decide) ?_
      exact ih v1_84 (v2_84 + 1) _ _ _ _ hH (lv_sub hl [1, 0, 3] rfl) hf
set_option maxHeartbeats 4000000 in
set_option maxRecDepth 100000 in
theorem k_X1_prepare (l : Launch) (E : Ev) (K : Kd) (z : Nat) (o : Nat) (a_1 : Option Nat) (w : Wd) (ho : K o = some (0, 0)) {w' : Wd} (hf : f_X1_prepare K o a_1 w = some w') : Met l yX1_prepare (Cond.code yX1_prepare cX1_prepare 4 (Option.none : Option Jvm.ClassFile.FieldType) :: bt) ({ frames := 1, cells := 0, slots := 0, locals := 23 } : Room) (va_Pc [rv E (some o), rv E a_1] (HB E K w z)) (QV E K z w') 0 0 (hA E) := by
  refine Met.ofW (cc := cX1_prepare) (maxL := 4) (ret := (Option.none : Option Jvm.ClassFile.FieldType)) (by decide) rfl ?_
  intro p e s m args below meth c s₁ B hml hv
  obtain ⟨rfl, hz, hP, hKs, hT, hb0⟩ := hv
  have C : CX p l e s m _ meth c cX1_prepare 4 RX1 (Option.none : Option Jvm.ClassFile.FieldType) E := ⟨B.exec, B.bytes, hml, findClass_of_methodNamed B.named, fun w h => atoms_spec (ws := Cond.code yX1_prepare cX1_prepare 4 (Option.none : Option Jvm.ClassFile.FieldType) :: bt) B.pre w (List.mem_cons_of_mem _ h), hKs, hT, by rw [hz]; exact hb0, B.notSynchronized, B.returns⟩
  have hH : HQ E K z w s s.heap [] := ⟨hP, va_S.rf, hz⟩
  obtain ⟨hx, hb, hml, hown, hts, hKs, hT, hb0, hlocks, hret⟩ := id C
  have hl := lv_entry [rv E (some o), rv E a_1] (n := 4) (by simp [lg_len_nil, lg_len_i, lg_len_j, lg_len_q, lg_len_f, lg_len_d, lg_len_r])
  rw [lg_entry_eq]
  generalize (lg_sl [rv E (some o), rv E a_1] ++ List.replicate (4 - (lg_sl [rv E (some o), rv E a_1]).length) Slot.unset).toArray = ls at hl ⊢
  replace hl : lv_has ls 4 [(0, rv E (some o)), (1, rv E a_1)] := by simpa only [lv_args, cat_q, cat_i, cat_j, reduceIte, Nat.reduceEqDiff, Nat.reduceAdd, Nat.zero_add] using hl
  generalize s.heap = H at hH ⊢
  unfold f_X1_prepare at hf
  refine hl_aload_n hx hb dX1_prepare_0 rfl (lv_at hl 0 rfl) ?_
  refine hl_aload_n hx hb dX1_prepare_1 rfl (lv_at hl 1 rfl) ?_
  obtain ⟨a1, ha1, hf⟩ := bnd hf
  replace ha1 := chk_some ha1
  refine gn10_0 hx hb hts hown hKs hH ha1.1 ha1.2 m2_121 dX1_prepare_2 ?_
  refine lv_iconst (v := 3) hx hb dX1_prepare_5 (by decide) ?_
  obtain ⟨a2, ha2, hf⟩ := bnd hf
  replace ha2 := chk_some ha2
  obtain ⟨q3, hq3, hf⟩ := bnd hf
  refine hcV_i hx hb hml hown hts hKs hT hb0 hH (As := [.int 3]) (rest := [rv E (some o)]) (k_X9_size l E K H.size a2 3 w ha2.2 hq3) (gV m4_35 m3_151 m3_152 m1_2 m3_153) hd_X9_size ⟨Nat.le_of_ble_eq_true rfl, Nat.le_of_ble_eq_true rfl, rfl, rfl⟩ ha2.1 ha2.2 rfl rfl rfl hl.1 rfl (rcV rc0) rfl dX1_prepare_6 ⟨Nat.zero_le _, Nat.zero_le _⟩ (fun H locs hH => ?_)
  obtain ⟨w4, hw4, hf⟩ := bnd hf
  replace hw4 := Option.some.inj hw4
  refine p1_3 (v := q3.1) hx hb hts hown hKs hH rfl ho m2_206 dX1_prepare_9 (fun H locs hH => ?_)
  rw [hw4] at hH
  refine hl_aload_n hx hb dX1_prepare_12 rfl (lv_at hl 0 rfl) ?_
  refine hl_aload_n hx hb dX1_prepare_13 rfl (lv_at hl 1 rfl) ?_
  refine gn10_0 hx hb hts hown hKs hH ha1.1 ha1.2 m2_121 dX1_prepare_14 ?_
  refine lv_iconst (v := 1) hx hb dX1_prepare_17 (by decide) ?_
  obtain ⟨a5, ha5, hf⟩ := bnd hf
  replace ha5 := chk_some ha5
  obtain ⟨q6, hq6, hf⟩ := bnd hf
  refine hcV_i hx hb hml hown hts hKs hT hb0 hH (As := [.int 1]) (rest := [rv E (some o)]) (k_X9_size l E K H.size a5 1 w4 ha5.2 hq6) (gV m4_35 m3_151 m3_152 m1_2 m3_153) hd_X9_size ⟨Nat.le_of_ble_eq_true rfl, Nat.le_of_ble_eq_true rfl, rfl, rfl⟩ ha5.1 ha5.2 rfl rfl rfl hl.1 rfl (rcV rc0) rfl dX1_prepare_18 ⟨Nat.zero_le _, Nat.zero_le _⟩ (fun H locs hH => ?_)
  obtain ⟨w7, hw7, hf⟩ := bnd hf
  replace hw7 := Option.some.inj hw7
  refine p1_4 (v := q6.1) hx hb hts hown hKs hH rfl ho m2_207 dX1_prepare_21 (fun H locs hH => ?_)
  rw [hw7] at hH
  refine hl_aload_n hx hb dX1_prepare_24 rfl (lv_at hl 0 rfl) ?_
  refine g1_1 hx hb hts hown hKs hH rfl ho m2_204 dX1_prepare_25 ?_
  refine lv_iconst (v := 0) hx hb dX1_prepare_28 (by decide) ?_
  obtain ⟨q8, hq8, hf⟩ := bnd hf
  refine hcS_v hx hb hml hown hts hKs hT hb0 hH (As := [rv E (wR w7 101 o), .int 0]) (rest := []) (k_J7_fill_53178 l E K H.size (wR w7 101 o) 0 w7 hq8) (gS m4_36 m1_143 m1_7 m1_144) hs_J7_fill_53178 ⟨Nat.le_of_ble_eq_true rfl, Nat.le_of_ble_eq_true rfl, rfl, rfl⟩ hl.1 rfl rc0 rfl dX1_prepare_29 ⟨Nat.zero_le _, Nat.zero_le _⟩ (fun H locs hH => ?_)
  refine lv_iconst (v := 0) hx hb dX1_prepare_32 (by decide) ?_
  refine lv_istore_n (i := 2) (lv' := [(2, .int 0), (0, rv E (some o)), (1, rv E a_1)]) hx hb dX1_prepare_33 rfl hl (by decide) (by simp [List.filter_cons, cat_q, cat_i, cat_j, imax, imin]) (fun ls hl => ?_)
  refine l_X1_prepare_L34  C ho _ (fun v1_34 v2_34 w9 H locs ls hH hl hf => ?_) fu a_1 0 q8 _ _ _ hH (lv_sub hl [2, 0, 1] rfl) hf
  exact hw_vret hx hb hret hf hH hlocks dX1_prepare_133

theorem dX1_hardest_0 : decode cX1_hardest 0 = .ok (.iconst 0, 1) := by decide +kernel
theorem dX1_hardest_1 : decode cX1_hardest 1 = .ok (.istore 4, 2) := by decide +kernel
theorem dX1_hardest_3 : decode cX1_hardest 3 = .ok (.bipush 96, 2) := by decide +kernel
theorem dX1_hardest_5 : decode cX1_hardest 5 = .ok (.istore 5, 2) := by decide +kernel
theorem dX1_hardest_7 : decode cX1_hardest 7 = .ok (.iconst 0, 1) := by decide +kernel
theorem dX1_hardest_8 : decode cX1_hardest 8 = .ok (.istore 6, 2) := by decide +kernel
theorem dX1_hardest_10 : decode cX1_hardest 10 = .ok (.iload 6, 2) := by decide +kernel
theorem dX1_hardest_12 : decode cX1_hardest 12 = .ok (.aload_n 0, 1) := by decide +kernel
theorem dX1_hardest_13 : decode cX1_hardest 13 = .ok (.getfield 29, 3) := by decide +kernel
theorem dX1_hardest_16 : decode cX1_hardest 16 = .ok (.if_icmp .ge 74, 3) := by decide +kernel
theorem dX1_hardest_19 : decode cX1_hardest 19 = .ok (.iload_n 2, 1) := by decide +kernel
theorem dX1_hardest_20 : decode cX1_hardest 20 = .ok (.iload 6, 2) := by decide +kernel
theorem dX1_hardest_22 : decode cX1_hardest 22 = .ok (.invokestatic 68, 3) := by decide +kernel
theorem dX1_hardest_25 : decode cX1_hardest 25 = .ok (.ifCond .eq 59, 3) := by decide +kernel
theorem dX1_hardest_28 : decode cX1_hardest 28 = .ok (.aload_n 0, 1) := by decide +kernel
theorem dX1_hardest_29 : decode cX1_hardest 29 = .ok (.getfield 18, 3) := by decide +kernel
theorem dX1_hardest_32 : decode cX1_hardest 32 = .ok (.iload_n 1, 1) := by decide +kernel
theorem dX1_hardest_33 : decode cX1_hardest 33 = .ok (.bipush 12, 2) := by decide +kernel
theorem dX1_hardest_35 : decode cX1_hardest 35 = .ok (.imul, 1) := by decide +kernel
theorem dX1_hardest_36 : decode cX1_hardest 36 = .ok (.iload 6, 2) := by decide +kernel
theorem dX1_hardest_38 : decode cX1_hardest 38 = .ok (.iadd, 1) := by decide +kernel
theorem dX1_hardest_39 : decode cX1_hardest 39 = .ok (.iaload, 1) := by decide +kernel
theorem dX1_hardest_40 : decode cX1_hardest 40 = .ok (.iload_n 3, 1) := by decide +kernel
theorem dX1_hardest_41 : decode cX1_hardest 41 = .ok (.iand, 1) := by decide +kernel
theorem dX1_hardest_42 : decode cX1_hardest 42 = .ok (.invokestatic 72, 3) := by decide +kernel
theorem dX1_hardest_45 : decode cX1_hardest 45 = .ok (.istore 7, 2) := by decide +kernel
theorem dX1_hardest_47 : decode cX1_hardest 47 = .ok (.iload 7, 2) := by decide +kernel
theorem dX1_hardest_49 : decode cX1_hardest 49 = .ok (.iconst 1, 1) := by decide +kernel
theorem dX1_hardest_50 : decode cX1_hardest 50 = .ok (.iadd, 1) := by decide +kernel
theorem dX1_hardest_51 : decode cX1_hardest 51 = .ok (.bipush 12, 2) := by decide +kernel
theorem dX1_hardest_53 : decode cX1_hardest 53 = .ok (.imul, 1) := by decide +kernel
theorem dX1_hardest_54 : decode cX1_hardest 54 = .ok (.aload_n 0, 1) := by decide +kernel
theorem dX1_hardest_55 : decode cX1_hardest 55 = .ok (.getfield 9, 3) := by decide +kernel
theorem dX1_hardest_58 : decode cX1_hardest 58 = .ok (.iload 6, 2) := by decide +kernel
theorem dX1_hardest_60 : decode cX1_hardest 60 = .ok (.iaload, 1) := by decide +kernel
theorem dX1_hardest_61 : decode cX1_hardest 61 = .ok (.iload_n 2, 1) := by decide +kernel
theorem dX1_hardest_62 : decode cX1_hardest 62 = .ok (.iand, 1) := by decide +kernel
theorem dX1_hardest_63 : decode cX1_hardest 63 = .ok (.invokestatic 72, 3) := by decide +kernel
theorem dX1_hardest_66 : decode cX1_hardest 66 = .ok (.isub, 1) := by decide +kernel
theorem dX1_hardest_67 : decode cX1_hardest 67 = .ok (.istore 8, 2) := by decide +kernel
theorem dX1_hardest_69 : decode cX1_hardest 69 = .ok (.iload 8, 2) := by decide +kernel
theorem dX1_hardest_71 : decode cX1_hardest 71 = .ok (.iload 5, 2) := by decide +kernel
theorem dX1_hardest_73 : decode cX1_hardest 73 = .ok (.if_icmp .ge 11, 3) := by decide +kernel
theorem dX1_hardest_76 : decode cX1_hardest 76 = .ok (.iload 6, 2) := by decide +kernel
theorem dX1_hardest_78 : decode cX1_hardest 78 = .ok (.istore 4, 2) := by decide +kernel
theorem dX1_hardest_80 : decode cX1_hardest 80 = .ok (.iload 8, 2) := by decide +kernel
theorem dX1_hardest_82 : decode cX1_hardest 82 = .ok (.istore 5, 2) := by decide +kernel
theorem dX1_hardest_84 : decode cX1_hardest 84 = .ok (.iinc 6 1, 3) := by decide +kernel
theorem dX1_hardest_87 : decode cX1_hardest 87 = .ok (.goto (-77), 3) := by decide +kernel
theorem dX1_hardest_90 : decode cX1_hardest 90 = .ok (.iload 4, 2) := by decide +kernel
theorem dX1_hardest_92 : decode cX1_hardest 92 = .ok (.ireturn, 1) := by decide +kernel
theorem hd_X1_hardest : yX1_hardest.cls = RX1 ∧ yX1_hardest.cls ≠ "java/lang/invoke/MethodHandle" ∧ yX1_hardest.cls ≠ "java/lang/invoke/VarHandle" ∧ (parseMethodDescriptor yX1_hardest.desc).map (fun d => d.parameters.length) = some 3 := by decide +kernel
theorem hs_X1_hardest : yX1_hardest.cls ≠ "java/lang/invoke/MethodHandle" ∧ yX1_hardest.cls ≠ "java/lang/invoke/VarHandle" ∧ (parseMethodDescriptor yX1_hardest.desc).map (fun d => d.parameters.length) = some 3 := by decide +kernel
set_option maxHeartbeats 4000000 in
set_option maxRecDepth 100000 in
theorem l_X1_hardest_L10 (C : CX p l e s m args meth c cX1_hardest 9 RX1 (Option.some Jvm.ClassFile.FieldType.int) E) {o : Nat} (ho : K o = some (0, 0)) {r : Int32} {w' : Wd} (k : Int32 → Int32 → Int32 → Int32 → Int32 → Int32 → Wd → Option (Int32 × Wd)) (hk : ∀ (v1_10 : Int32) (v2_10 : Int32) (v3_10 : Int32) (v4_10 : Int32) (v5_10 : Int32) (v6_10 : Int32) (w : Wd) (H : Heap) (locs : List Loc) (ls : Array Slot), HQ E K z w s H locs → lv_has ls 9 [(1, .int v1_10), (2, .int v2_10), (3, .int v3_10), (4, .int v4_10), (5, .int v5_10), (6, .int v6_10), (0, rv E (some o))] → k v1_10 v2_10 v3_10 v4_10 v5_10 v6_10 w = some (r, w') → W p l e ({ frames := 1, cells := 0, slots := 0, locals := 21 } : Room) s m args below meth c H locs 0 0 (MQ below (QI E K z w' r) args s 0 0 (hA E)) (F0 m 90 ls [])) : ∀ (n : Nat) (v1_10 : Int32) (v2_10 : Int32) (v3_10 : Int32) (v4_10 : Int32) (v5_10 : Int32) (v6_10 : Int32) (w : Wd) (H : Heap) (locs : List Loc) (ls : Array Slot), HQ E K z w s H locs → lv_has ls 9 [(1, .int v1_10), (2, .int v2_10), (3, .int v3_10), (4, .int v4_10), (5, .int v5_10), (6, .int v6_10), (0, rv E (some o))] → f_X1_hardest_L10 K o k n v1_10 v2_10 v3_10 v4_10 v5_10 v6_10 w = some (r, w') → W p l e ({ frames := 1, cells := 0, slots := 0, locals := 21 } : Room) s m args below meth c H locs 0 0 (MQ below (QI E K z w' r) args s 0 0 (hA E)) (F0 m 10 ls []) := by
  obtain ⟨hx, hb, hml, hown, hts, hKs, hT, hb0, hlocks, hret⟩ := id C
  intro n
  induction n with
  | zero =>
    intro v1_10 v2_10 v3_10 v4_10 v5_10 v6_10 w H locs ls hH hl hf
    cases hf
  | succ n ih =>
    intro v1_10 v2_10 v3_10 v4_10 v5_10 v6_10 w H locs ls hH hl hf
    rw [f_X1_hardest_L10] at hf
    refine lv_iload hx hb dX1_hardest_10 (lv_at hl 5 rfl) ?_
    refine hl_aload_n hx hb dX1_hardest_12 rfl (lv_at hl 6 rfl) ?_
    refine g1_3 hx hb hts hown hKs hH rfl ho m2_206 dX1_hardest_13 ?_
    refine lv_icmp_ge (tgt := 90) hx hb dX1_hardest_16 (by decide) (fun c2 => ?_) (fun c2 => ?_)
    · replace hf := (if_pos c2).symm.trans hf
      exact hk v1_10 v2_10 v3_10 v4_10 v5_10 v6_10 _ _ _ _ hH (lv_sub hl [0, 1, 2, 3, 4, 5, 6] rfl) hf
    · replace hf := (if_neg c2).symm.trans hf
      refine lv_iload_n hx hb dX1_hardest_19 rfl (lv_at hl 1 rfl) ?_
      refine lv_iload hx hb dX1_hardest_20 (lv_at hl 5 rfl) ?_
      obtain ⟨q3, hq3, hf⟩ := bnd hf
      refine hcM_i hx hb hml hown hts hKs hT hb0 hH (As := [.int v2_10, .int v6_10]) (rest := []) (k_X12_has l E K H.size v2_10 v6_10 w hq3) m4_40 m3_194 m1_1 m3_195 hs_X12_has ⟨Nat.le_of_ble_eq_true rfl, Nat.le_of_ble_eq_true rfl, rfl, rfl⟩ hl.1 rfl rc0 rfl dX1_hardest_22 ⟨Nat.zero_le _, Nat.zero_le _⟩ (fun H locs hH => ?_)
      refine lv_if_eq (tgt := 84) hx hb dX1_hardest_25 (by decide) (fun c4 => ?_) (fun c4 => ?_)
      · replace hf := (if_pos c4).symm.trans hf
        refine lv_iinc (v := (v6_10 + 1)) (lv' := [(6, .int ((v6_10 + 1))), (1, .int v1_10), (2, .int v2_10), (3, .int v3_10), (4, .int v4_10), (5, .int v5_10), (0, rv E (some o))]) hx hb dX1_hardest_84 hl (k := 5) rfl rfl (by decide) rfl (fun ls hl => ?_)
        refine lv_goto (tgt := 10) hx hb dX1_hardest_87 (by decide) ?_
        exact ih v1_10 v2_10 v3_10 v4_10 v5_10 (v6_10 + 1) _ _ _ _ hH (lv_sub hl [1, 2, 3, 4, 5, 0, 6] rfl) hf
      · replace hf := (if_neg c4).symm.trans hf
        refine hl_aload_n hx hb dX1_hardest_28 rfl (lv_at hl 6 rfl) ?_
        refine g1_2 hx hb hts hown hKs hH rfl ho m2_205 dX1_hardest_29 ?_
        refine lv_iload_n hx hb dX1_hardest_32 rfl (lv_at hl 0 rfl) ?_
        refine lv_bipush (v := 12) hx hb dX1_hardest_33 (by decide) ?_
        refine lv_imul hx hb dX1_hardest_35 ?_
        refine lv_iload hx hb dX1_hardest_36 (lv_at hl 5 rfl) ?_
        refine lv_iadd hx hb dX1_hardest_38 ?_
        obtain ⟨a5, ha5, hf⟩ := bnd hf
        replace ha5 := cha_some ha5
        obtain ⟨j6, hj6, hf⟩ := bnd hf
        refine hw_iald hx hb hKs hH ha5.1 ha5.2 hj6 dX1_hardest_39 ?_
        refine lv_iload_n hx hb dX1_hardest_40 rfl (lv_at hl 2 rfl) ?_
        refine lv_iand hx hb dX1_hardest_41 ?_
        obtain ⟨q7, hq7, hf⟩ := bnd hf
        refine hcS_i hx hb hml hown hts hKs hT hb0 hH (As := [.int (((aI q3.2 a5.1 j6) &&& v3_10))]) (rest := []) (k_J6_bitCount_0f7a4 l E K H.size ((aI q3.2 a5.1 j6) &&& v3_10) q3.2 hq7) (gS m4_44 m4_8 m1_23 m4_9) hs_J6_bitCount_0f7a4 ⟨Nat.le_of_ble_eq_true rfl, Nat.le_of_ble_eq_true rfl, rfl, rfl⟩ hl.1 rfl rc0 rfl dX1_hardest_42 ⟨Nat.zero_le _, Nat.zero_le _⟩ (fun H locs hH => ?_)
        refine lv_istore (i := 7) (lv' := [(7, .int (q7.1)), (1, .int v1_10), (2, .int v2_10), (3, .int v3_10), (4, .int v4_10), (5, .int v5_10), (6, .int v6_10), (0, rv E (some o))]) hx hb dX1_hardest_45 hl (by decide) rfl (fun ls hl => ?_)
        refine lv_iload hx hb dX1_hardest_47 (lv_at hl 0 rfl) ?_
        refine lv_iconst (v := 1) hx hb dX1_hardest_49 (by decide) ?_
        refine lv_iadd hx hb dX1_hardest_50 ?_
        refine lv_bipush (v := 12) hx hb dX1_hardest_51 (by decide) ?_
        refine lv_imul hx hb dX1_hardest_53 ?_
        refine hl_aload_n hx hb dX1_hardest_54 rfl (lv_at hl 7 rfl) ?_
        refine g1_0 hx hb hts hown hKs hH rfl ho m2_203 dX1_hardest_55 ?_
        refine lv_iload hx hb dX1_hardest_58 (lv_at hl 6 rfl) ?_
        obtain ⟨a8, ha8, hf⟩ := bnd hf
        replace ha8 := cha_some ha8
        obtain ⟨j9, hj9, hf⟩ := bnd hf
        refine hw_iald hx hb hKs hH ha8.1 ha8.2 hj9 dX1_hardest_60 ?_
        refine lv_iload_n hx hb dX1_hardest_61 rfl (lv_at hl 2 rfl) ?_
        refine lv_iand hx hb dX1_hardest_62 ?_
        obtain ⟨q10, hq10, hf⟩ := bnd hf
        refine hcS_i hx hb hml hown hts hKs hT hb0 hH (As := [.int (((aI q7.2 a8.1 j9) &&& v2_10))]) (rest := [.int (((q7.1 + 1) * 12))]) (k_J6_bitCount_0f7a4 l E K H.size ((aI q7.2 a8.1 j9) &&& v2_10) q7.2 hq10) (gS m4_44 m4_8 m1_23 m4_9) hs_J6_bitCount_0f7a4 ⟨Nat.le_of_ble_eq_true rfl, Nat.le_of_ble_eq_true rfl, rfl, rfl⟩ hl.1 rfl (rcI rc0) rfl dX1_hardest_63 ⟨Nat.zero_le _, Nat.zero_le _⟩ (fun H locs hH => ?_)
        refine lv_isub hx hb dX1_hardest_66 ?_
        refine lv_istore (i := 8) (lv' := [(8, .int ((((q7.1 + 1) * 12) - q10.1))), (7, .int (q7.1)), (1, .int v1_10), (2, .int v2_10), (3, .int v3_10), (4, .int v4_10), (5, .int v5_10), (6, .int v6_10), (0, rv E (some o))]) hx hb dX1_hardest_67 hl (by decide) rfl (fun ls hl => ?_)
        refine lv_iload hx hb dX1_hardest_69 (lv_at hl 0 rfl) ?_
        refine lv_iload hx hb dX1_hardest_71 (lv_at hl 6 rfl) ?_
        refine lv_icmp_ge (tgt := 84) hx hb dX1_hardest_73 (by decide) (fun c11 => ?_) (fun c11 => ?_)
        · replace hf := (if_pos c11).symm.trans hf
          refine lv_iinc (v := (v6_10 + 1)) (lv' := [(6, .int ((v6_10 + 1))), (8, .int ((((q7.1 + 1) * 12) - q10.1))), (7, .int (q7.1)), (1, .int v1_10), (2, .int v2_10), (3, .int v3_10), (4, .int v4_10), (5, .int v5_10), (0, rv E (some o))]) hx hb dX1_hardest_84 hl (k := 7) rfl rfl (by decide) rfl (fun ls hl => ?_)
          refine lv_goto (tgt := 10) hx hb dX1_hardest_87 (by decide) ?_
          exact ih v1_10 v2_10 v3_10 v4_10 v5_10 (v6_10 + 1) _ _ _ _ hH (lv_sub hl [3, 4, 5, 6, 7, 0, 8] rfl) hf
        · replace hf := (if_neg c11).symm.trans hf
          refine lv_iload hx hb dX1_hardest_76 (lv_at hl 7 rfl) ?_
          refine lv_istore (i := 4) (lv' := [(4, .int v6_10), (8, .int ((((q7.1 + 1) * 12) - q10.1))), (7, .int (q7.1)), (1, .int v1_10), (2, .int v2_10), (3, .int v3_10), (5, .int v5_10), (6, .int v6_10), (0, rv E (some o))]) hx hb dX1_hardest_78 hl (by decide) rfl (fun ls hl => ?_)
          refine lv_iload hx hb dX1_hardest_80 (lv_at hl 1 rfl) ?_
          refine lv_istore (i := 5) (lv' := [(5, .int ((((q7.1 + 1) * 12) - q10.1))), (4, .int v6_10), (8, .int ((((q7.1 + 1) * 12) - q10.1))), (7, .int (q7.1)), (1, .int v1_10), (2, .int v2_10), (3, .int v3_10), (6, .int v6_10), (0, rv E (some o))]) hx hb dX1_hardest_82 hl (by decide) rfl (fun ls hl => ?_)
          refine lv_iinc (v := (v6_10 + 1)) (lv' := [(6, .int ((v6_10 + 1))), (5, .int ((((q7.1 + 1) * 12) - q10.1))), (4, .int v6_10), (8, .int ((((q7.1 + 1) * 12) - q10.1))), (7, .int (q7.1)), (1, .int v1_10), (2, .int v2_10), (3, .int v3_10), (0, rv E (some o))]) hx hb dX1_hardest_84 hl (k := 7) rfl rfl (by decide) rfl (fun ls hl => ?_)
          refine lv_goto (tgt := 10) hx hb dX1_hardest_87 (by decide) ?_
          exact ih v1_10 v2_10 v3_10 v6_10 (((q7.1 + 1) * 12) - q10.1) (v6_10 + 1) _ _ _ _ hH (lv_sub hl [5, 6, 7, 2, 1, 0, 8] rfl) hf
set_option maxHeartbeats 4000000 in
set_option maxRecDepth 100000 in
theorem k_X1_hardest (l : Launch) (E : Ev) (K : Kd) (z : Nat) (o : Nat) (a_1 : Int32) (a_2 : Int32) (a_3 : Int32) (w : Wd) (ho : K o = some (0, 0)) {r : Int32} {w' : Wd} (hf : f_X1_hardest K o a_1 a_2 a_3 w = some (r, w')) : Met l yX1_hardest (Cond.code yX1_hardest cX1_hardest 9 (Option.some Jvm.ClassFile.FieldType.int) :: bt) ({ frames := 1, cells := 0, slots := 0, locals := 21 } : Room) (va_Pc [rv E (some o), .int a_1, .int a_2, .int a_3] (HB E K w z)) (QI E K z w' r) 0 0 (hA E) := by
  refine Met.ofW (cc := cX1_hardest) (maxL := 9) (ret := (Option.some Jvm.ClassFile.FieldType.int)) (by decide) rfl ?_
  intro p e s m args below meth c s₁ B hml hv
  obtain ⟨rfl, hz, hP, hKs, hT, hb0⟩ := hv
  have C : CX p l e s m _ meth c cX1_hardest 9 RX1 (Option.some Jvm.ClassFile.FieldType.int) E := ⟨B.exec, B.bytes, hml, findClass_of_methodNamed B.named, fun w h => atoms_spec (ws := Cond.code yX1_hardest cX1_hardest 9 (Option.some Jvm.ClassFile.FieldType.int) :: bt) B.pre w (List.mem_cons_of_mem _ h), hKs, hT, by rw [hz]; exact hb0, B.notSynchronized, B.returns⟩
  have hH : HQ E K z w s s.heap [] := ⟨hP, va_S.rf, hz⟩
  obtain ⟨hx, hb, hml, hown, hts, hKs, hT, hb0, hlocks, hret⟩ := id C
  have hl := lv_entry [rv E (some o), .int a_1, .int a_2, .int a_3] (n := 9) (by simp [lg_len_nil, lg_len_i, lg_len_j, lg_len_q, lg_len_f, lg_len_d, lg_len_r])
  rw [lg_entry_eq]
  generalize (lg_sl [rv E (some o), .int a_1, .int a_2, .int a_3] ++ List.replicate (9 - (lg_sl [rv E (some o), .int a_1, .int a_2, .int a_3]).length) Slot.unset).toArray = ls at hl ⊢
  replace hl : lv_has ls 9 [(0, rv E (some o)), (1, .int a_1), (2, .int a_2), (3, .int a_3)] := by simpa only [lv_args, cat_q, cat_i, cat_j, reduceIte, Nat.reduceEqDiff, Nat.reduceAdd, Nat.zero_add] using hl
  generalize s.heap = H at hH ⊢
  unfold f_X1_hardest at hf
  refine lv_iconst (v := 0) hx hb dX1_hardest_0 (by decide) ?_
  refine lv_istore (i := 4) (lv' := [(4, .int 0), (0, rv E (some o)), (1, .int a_1), (2, .int a_2), (3, .int a_3)]) hx hb dX1_hardest_1 hl (by decide) rfl (fun ls hl => ?_)
  refine lv_bipush (v := 96) hx hb dX1_hardest_3 (by decide) ?_
  refine lv_istore (i := 5) (lv' := [(5, .int 96), (4, .int 0), (0, rv E (some o)), (1, .int a_1), (2, .int a_2), (3, .int a_3)]) hx hb dX1_hardest_5 hl (by decide) rfl (fun ls hl => ?_)
  refine lv_iconst (v := 0) hx hb dX1_hardest_7 (by decide) ?_
  refine lv_istore (i := 6) (lv' := [(6, .int 0), (5, .int 96), (4, .int 0), (0, rv E (some o)), (1, .int a_1), (2, .int a_2), (3, .int a_3)]) hx hb dX1_hardest_8 hl (by decide) rfl (fun ls hl => ?_)
  refine l_X1_hardest_L10  C ho _ (fun v1_10 v2_10 v3_10 v4_10 v5_10 v6_10 w1 H locs ls hH hl hf => ?_) fu a_1 a_2 a_3 0 96 0 w _ _ _ hH (lv_sub hl [4, 5, 6, 2, 1, 0, 3] rfl) hf
  refine lv_iload hx hb dX1_hardest_90 (lv_at hl 3 rfl) ?_
  exact hw_iret hx hb hret hf hH hlocks dX1_hardest_92

theorem dX2_clear_0 : decode cX2_clear 0 = .ok (.aload_n 0, 1) := by decide +kernel
theorem dX2_clear_1 : decode cX2_clear 1 = .ok (.getfield 9, 3) := by decide +kernel
theorem dX2_clear_4 : decode cX2_clear 4 = .ok (.iconst 0, 1) := by decide +kernel
theorem dX2_clear_5 : decode cX2_clear 5 = .ok (.invokestatic 23, 3) := by decide +kernel
theorem dX2_clear_8 : decode cX2_clear 8 = .ok (.aload_n 0, 1) := by decide +kernel
theorem dX2_clear_9 : decode cX2_clear 9 = .ok (.iconst 0, 1) := by decide +kernel
theorem dX2_clear_10 : decode cX2_clear 10 = .ok (.putfield 19, 3) := by decide +kernel
theorem dX2_clear_13 : decode cX2_clear 13 = .ok (.return_, 1) := by decide +kernel
theorem hd_X2_clear : yX2_clear.cls = RX2 ∧ yX2_clear.cls ≠ "java/lang/invoke/MethodHandle" ∧ yX2_clear.cls ≠ "java/lang/invoke/VarHandle" ∧ (parseMethodDescriptor yX2_clear.desc).map (fun d => d.parameters.length) = some 0 := by decide +kernel
theorem hs_X2_clear : yX2_clear.cls ≠ "java/lang/invoke/MethodHandle" ∧ yX2_clear.cls ≠ "java/lang/invoke/VarHandle" ∧ (parseMethodDescriptor yX2_clear.desc).map (fun d => d.parameters.length) = some 0 := by decide +kernel
set_option maxHeartbeats 4000000 in
set_option maxRecDepth 100000 in
theorem k_X2_clear (l : Launch) (E : Ev) (K : Kd) (z : Nat) (o : Nat) (w : Wd) (ho : K o = some (1, 0)) {w' : Wd} (hf : f_X2_clear K o w = some w') : Met l yX2_clear (Cond.code yX2_clear cX2_clear 1 (Option.none : Option Jvm.ClassFile.FieldType) :: bt) ({ frames := 1, cells := 0, slots := 0, locals := 23 } : Room) (va_Pc [rv E (some o)] (HB E K w z)) (QV E K z w') 0 0 (hA E) := by
  refine Met.ofW (cc := cX2_clear) (maxL := 1) (ret := (Option.none : Option Jvm.ClassFile.FieldType)) (by decide) rfl ?_
  intro p e s m args below meth c s₁ B hml hv
  obtain ⟨rfl, hz, hP, hKs, hT, hb0⟩ := hv
  have C : CX p l e s m _ meth c cX2_clear 1 RX2 (Option.none : Option Jvm.ClassFile.FieldType) E := ⟨B.exec, B.bytes, hml, findClass_of_methodNamed B.named, fun w h => atoms_spec (ws := Cond.code yX2_clear cX2_clear 1 (Option.none : Option Jvm.ClassFile.FieldType) :: bt) B.pre w (List.mem_cons_of_mem _ h), hKs, hT, by rw [hz]; exact hb0, B.notSynchronized, B.returns⟩
  have hH : HQ E K z w s s.heap [] := ⟨hP, va_S.rf, hz⟩
  obtain ⟨hx, hb, hml, hown, hts, hKs, hT, hb0, hlocks, hret⟩ := id C
  have hl := lv_entry [rv E (some o)] (n := 1) (by simp [lg_len_nil, lg_len_i, lg_len_j, lg_len_q, lg_len_f, lg_len_d, lg_len_r])
  rw [lg_entry_eq]
  generalize (lg_sl [rv E (some o)] ++ List.replicate (1 - (lg_sl [rv E (some o)]).length) Slot.unset).toArray = ls at hl ⊢
  replace hl : lv_has ls 1 [(0, rv E (some o))] := by simpa only [lv_args, cat_q, cat_i, cat_j, reduceIte, Nat.reduceEqDiff, Nat.reduceAdd, Nat.zero_add] using hl
  generalize s.heap = H at hH ⊢
  unfold f_X2_clear at hf
  refine hl_aload_n hx hb dX2_clear_0 rfl (lv_at hl 0 rfl) ?_
  refine g2_0 hx hb hts hown hKs hH rfl ho m1_55 dX2_clear_1 ?_
  refine lv_iconst (v := 0) hx hb dX2_clear_4 (by decide) ?_
  obtain ⟨q1, hq1, hf⟩ := bnd hf
  refine hcS_v hx hb hml hown hts hKs hT hb0 hH (As := [rv E (wR w 200 o), .int 0]) (rest := []) (k_J7_fill_53178 l E K H.size (wR w 200 o) 0 w hq1) (gS m1_149 m1_143 m1_7 m1_144) hs_J7_fill_53178 ⟨Nat.le_of_ble_eq_true rfl, Nat.le_of_ble_eq_true rfl, rfl, rfl⟩ hl.1 rfl rc0 rfl dX2_clear_5 ⟨Nat.zero_le _, Nat.zero_le _⟩ (fun H locs hH => ?_)
  refine hl_aload_n hx hb dX2_clear_8 rfl (lv_at hl 0 rfl) ?_
  refine lv_iconst (v := 0) hx hb dX2_clear_9 (by decide) ?_
  obtain ⟨w2, hw2, hf⟩ := bnd hf
  replace hw2 := Option.some.inj hw2
  refine p2_1 (v := 0) hx hb hts hown hKs hH rfl ho m1_56 dX2_clear_10 (fun H locs hH => ?_)
  rw [hw2] at hH
  exact hw_vret hx hb hret hf hH hlocks dX2_clear_13

theorem dX6_setFound_0 : decode cX6_setFound 0 = .ok (.aload_n 1, 1) := by decide +kernel
theorem dX6_setFound_1 : decode cX6_setFound 1 = .ok (.getfield 98, 3) := by decide +kernel
theorem dX6_setFound_4 : decode cX6_setFound 4 = .ok (.iload_n 2, 1) := by decide +kernel
theorem dX6_setFound_5 : decode cX6_setFound 5 = .ok (.aaload, 1) := by decide +kernel
theorem dX6_setFound_6 : decode cX6_setFound 6 = .ok (.aload_n 0, 1) := by decide +kernel
theorem dX6_setFound_7 : decode cX6_setFound 7 = .ok (.getfield 102, 3) := by decide +kernel
theorem dX6_setFound_10 : decode cX6_setFound 10 = .ok (.aload_n 0, 1) := by decide +kernel
theorem dX6_setFound_11 : decode cX6_setFound 11 = .ok (.getfield 103, 3) := by decide +kernel
theorem dX6_setFound_14 : decode cX6_setFound 14 = .ok (.aload_n 0, 1) := by decide +kernel
theorem dX6_setFound_15 : decode cX6_setFound 15 = .ok (.getfield 106, 3) := by decide +kernel
theorem dX6_setFound_18 : decode cX6_setFound 18 = .ok (.aload_n 0, 1) := by decide +kernel
theorem dX6_setFound_19 : decode cX6_setFound 19 = .ok (.getfield 109, 3) := by decide +kernel
theorem dX6_setFound_22 : decode cX6_setFound 22 = .ok (.invokevirtual 112, 3) := by decide +kernel
theorem dX6_setFound_25 : decode cX6_setFound 25 = .ok (.return_, 1) := by decide +kernel
theorem hd_X6_setFound : yX6_setFound.cls = RX6 ∧ yX6_setFound.cls ≠ "java/lang/invoke/MethodHandle" ∧ yX6_setFound.cls ≠ "java/lang/invoke/VarHandle" ∧ (parseMethodDescriptor yX6_setFound.desc).map (fun d => d.parameters.length) = some 2 := by decide +kernel
theorem hs_X6_setFound : yX6_setFound.cls ≠ "java/lang/invoke/MethodHandle" ∧ yX6_setFound.cls ≠ "java/lang/invoke/VarHandle" ∧ (parseMethodDescriptor yX6_setFound.desc).map (fun d => d.parameters.length) = some 2 := by decide +kernel
set_option maxHeartbeats 4000000 in
set_option maxRecDepth 100000 in
theorem k_X6_setFound (l : Launch) (E : Ev) (K : Kd) (z : Nat) (o : Nat) (a_1 : Option Nat) (a_2 : Int32) (w : Wd) (ho : K o = some (5, 0)) {w' : Wd} (hf : f_X6_setFound K o a_1 a_2 w = some w') : Met l yX6_setFound (Cond.code yX6_setFound cX6_setFound 3 (Option.none : Option Jvm.ClassFile.FieldType) :: bt) ({ frames := 1, cells := 0, slots := 0, locals := 24 } : Room) (va_Pc [rv E (some o), rv E a_1, .int a_2] (HB E K w z)) (QV E K z w') 0 0 (hA E) := by
  refine Met.ofW (cc := cX6_setFound) (maxL := 3) (ret := (Option.none : Option Jvm.ClassFile.FieldType)) (by decide) rfl ?_
  intro p e s m args below meth c s₁ B hml hv
  obtain ⟨rfl, hz, hP, hKs, hT, hb0⟩ := hv
  have C : CX p l e s m _ meth c cX6_setFound 3 RX6 (Option.none : Option Jvm.ClassFile.FieldType) E := ⟨B.exec, B.bytes, hml, findClass_of_methodNamed B.named, fun w h => atoms_spec (ws := Cond.code yX6_setFound cX6_setFound 3 (Option.none : Option Jvm.ClassFile.FieldType) :: bt) B.pre w (List.mem_cons_of_mem _ h), hKs, hT, by rw [hz]; exact hb0, B.notSynchronized, B.returns⟩
  have hH : HQ E K z w s s.heap [] := ⟨hP, va_S.rf, hz⟩
  obtain ⟨hx, hb, hml, hown, hts, hKs, hT, hb0, hlocks, hret⟩ := id C
  have hl := lv_entry [rv E (some o), rv E a_1, .int a_2] (n := 3) (by simp [lg_len_nil, lg_len_i, lg_len_j, lg_len_q, lg_len_f, lg_len_d, lg_len_r])
  rw [lg_entry_eq]
  generalize (lg_sl [rv E (some o), rv E a_1, .int a_2] ++ List.replicate (3 - (lg_sl [rv E (some o), rv E a_1, .int a_2]).length) Slot.unset).toArray = ls at hl ⊢
  replace hl : lv_has ls 3 [(0, rv E (some o)), (1, rv E a_1), (2, .int a_2)] := by simpa only [lv_args, cat_q, cat_i, cat_j, reduceIte, Nat.reduceEqDiff, Nat.reduceAdd, Nat.zero_add] using hl
  generalize s.heap = H at hH ⊢
  unfold f_X6_setFound at hf
  refine hl_aload_n hx hb dX6_setFound_0 rfl (lv_at hl 1 rfl) ?_
  obtain ⟨a1, ha1, hf⟩ := bnd hf
  replace ha1 := chk_some ha1
  refine gn10_5 hx hb hts hown hKs hH ha1.1 ha1.2 m2_134 dX6_setFound_1 ?_
  refine lv_iload_n hx hb dX6_setFound_4 rfl (lv_at hl 2 rfl) ?_
  obtain ⟨a2, ha2, hf⟩ := bnd hf
  replace ha2 := cha_some ha2
  obtain ⟨j3, hj3, hf⟩ := bnd hf
  refine hw_aald27 hx hb hKs hH ha2.1 ha2.2 hj3 dX6_setFound_5 ?_
  refine hl_aload_n hx hb dX6_setFound_6 rfl (lv_at hl 0 rfl) ?_
  refine g6_8 hx hb hts hown hKs hH rfl ho m2_164 dX6_setFound_7 ?_
  refine hl_aload_n hx hb dX6_setFound_10 rfl (lv_at hl 0 rfl) ?_
  refine g6_9 hx hb hts hown hKs hH rfl ho m2_166 dX6_setFound_11 ?_
  refine hl_aload_n hx hb dX6_setFound_14 rfl (lv_at hl 0 rfl) ?_
  refine g6_10 hx hb hts hown hKs hH rfl ho m2_168 dX6_setFound_15 ?_
  refine hl_aload_n hx hb dX6_setFound_18 rfl (lv_at hl 0 rfl) ?_
  refine g6_11 hx hb hts hown hKs hH rfl ho m2_170 dX6_setFound_19 ?_
  obtain ⟨a4, ha4, hf⟩ := bnd hf
  replace ha4 := chk_some ha4
  obtain ⟨q5, hq5, hf⟩ := bnd hf
  refine hcV_v hx hb hml hown hts hKs hT hb0 hH (As := [.int ((wI w 608 o)), .int ((wI w 609 o)), .int ((wI w 610 o)), .int ((wI w 611 o))]) (rest := []) (k_X7_setHearing l E K H.size a4 (wI w 608 o) (wI w 609 o) (wI w 610 o) (wI w 611 o) w ha4.2 hq5) (gV m4_185 m4_186 m4_187 m1_13 m4_188) hd_X7_setHearing ⟨Nat.le_of_ble_eq_true rfl, Nat.le_of_ble_eq_true rfl, rfl, rfl⟩ ha4.1 ha4.2 rfl rfl rfl hl.1 rfl rc0 rfl dX6_setFound_22 ⟨Nat.zero_le _, Nat.zero_le _⟩ (fun H locs hH => ?_)
  exact hw_vret hx hb hret hf hH hlocks dX6_setFound_25

theorem dX6_lastDay_0 : decode cX6_lastDay 0 = .ok (.aload_n 0, 1) := by decide +kernel
theorem dX6_lastDay_1 : decode cX6_lastDay 1 = .ok (.iload_n 1, 1) := by decide +kernel
theorem dX6_lastDay_2 : decode cX6_lastDay 2 = .ok (.invokevirtual 49, 3) := by decide +kernel
theorem dX6_lastDay_5 : decode cX6_lastDay 5 = .ok (.sipush 599, 3) := by decide +kernel
theorem dX6_lastDay_8 : decode cX6_lastDay 8 = .ok (.invokestatic 134, 3) := by decide +kernel
theorem dX6_lastDay_11 : decode cX6_lastDay 11 = .ok (.ireturn, 1) := by decide +kernel
theorem hs_X6_lastDay : yX6_lastDay.cls ≠ "java/lang/invoke/MethodHandle" ∧ yX6_lastDay.cls ≠ "java/lang/invoke/VarHandle" ∧ (parseMethodDescriptor yX6_lastDay.desc).map (fun d => d.parameters.length) = some 2 := by decide +kernel
set_option maxHeartbeats 4000000 in
set_option maxRecDepth 100000 in
theorem k_X6_lastDay (l : Launch) (E : Ev) (K : Kd) (z : Nat) (a_0 : Option Nat) (a_1 : Int32) (w : Wd) {r : Int32} {w' : Wd} (hf : f_X6_lastDay K a_0 a_1 w = some (r, w')) : Met l yX6_lastDay (Cond.code yX6_lastDay cX6_lastDay 2 (Option.some Jvm.ClassFile.FieldType.int) :: bt) ({ frames := 3, cells := 0, slots := 0, locals := 66 } : Room) (va_Pc [rv E a_0, .int a_1] (HB E K w z)) (QI E K z w' r) 0 0 (hA E) := by
  refine Met.ofW (cc := cX6_lastDay) (maxL := 2) (ret := (Option.some Jvm.ClassFile.FieldType.int)) (by decide) rfl ?_
  intro p e s m args below meth c s₁ B hml hv
  obtain ⟨rfl, hz, hP, hKs, hT, hb0⟩ := hv
  have C : CX p l e s m _ meth c cX6_lastDay 2 RX6 (Option.some Jvm.ClassFile.FieldType.int) E := ⟨B.exec, B.bytes, hml, findClass_of_methodNamed B.named, fun w h => atoms_spec (ws := Cond.code yX6_lastDay cX6_lastDay 2 (Option.some Jvm.ClassFile.FieldType.int) :: bt) B.pre w (List.mem_cons_of_mem _ h), hKs, hT, by rw [hz]; exact hb0, B.notSynchronized, B.returns⟩
  have hH : HQ E K z w s s.heap [] := ⟨hP, va_S.rf, hz⟩
  obtain ⟨hx, hb, hml, hown, hts, hKs, hT, hb0, hlocks, hret⟩ := id C
  have hl := lv_entry [rv E a_0, .int a_1] (n := 2) (by simp [lg_len_nil, lg_len_i, lg_len_j, lg_len_q, lg_len_f, lg_len_d, lg_len_r])
  rw [lg_entry_eq]
  generalize (lg_sl [rv E a_0, .int a_1] ++ List.replicate (2 - (lg_sl [rv E a_0, .int a_1]).length) Slot.unset).toArray = ls at hl ⊢
  replace hl : lv_has ls 2 [(0, rv E a_0), (1, .int a_1)] := by simpa only [lv_args, cat_q, cat_i, cat_j, reduceIte, Nat.reduceEqDiff, Nat.reduceAdd, Nat.zero_add] using hl
  generalize s.heap = H at hH ⊢
  unfold f_X6_lastDay at hf
  refine hl_aload_n hx hb dX6_lastDay_0 rfl (lv_at hl 0 rfl) ?_
  refine lv_iload_n hx hb dX6_lastDay_1 rfl (lv_at hl 1 rfl) ?_
  obtain ⟨a1, ha1, hf⟩ := bnd hf
  replace ha1 := chk_some ha1
  obtain ⟨q2, hq2, hf⟩ := bnd hf
  refine hcV_i hx hb hml hown hts hKs hT hb0 hH (As := [.int a_1]) (rest := []) (k_X10_limitDay l E K H.size a1 a_1 w ha1.2 hq2) (gV m4_131 m4_66 m4_67 m1_12 m4_68) hd_X10_limitDay ⟨Nat.le_of_ble_eq_true rfl, Nat.le_of_ble_eq_true rfl, rfl, rfl⟩ ha1.1 ha1.2 rfl rfl rfl hl.1 rfl rc0 rfl dX6_lastDay_2 ⟨Nat.zero_le _, Nat.zero_le _⟩ (fun H locs hH => ?_)
  refine lv_sipush (v := 599) hx hb dX6_lastDay_5 (by decide) ?_
  refine va_mmin hx hb (hml.trans hl.1.symm) hown (hts _ m4_132) (hts _ m3_54) (hts _ m1_5) (hts _ m3_55) (Nat.le_of_ble_eq_true rfl) (Nat.le_trans (Nat.add_le_add_right (show rc 8 [] from rc0) 13) (Nat.le_of_ble_eq_true rfl)) (Nat.le_of_ble_eq_true rfl) (Nat.le_of_ble_eq_true rfl) dX6_lastDay_8 ?_
  exact hw_iret hx hb hret hf hH hlocks dX6_lastDay_11

theorem dX6_findIn_0 : decode cX6_findIn 0 = .ok (.aload_n 0, 1) := by decide +kernel
theorem dX6_findIn_1 : decode cX6_findIn 1 = .ok (.aload_n 1, 1) := by decide +kernel
theorem dX6_findIn_2 : decode cX6_findIn 2 = .ok (.iconst 1, 1) := by decide +kernel
theorem dX6_findIn_3 : decode cX6_findIn 3 = .ok (.invokevirtual 141, 3) := by decide +kernel
theorem dX6_findIn_6 : decode cX6_findIn 6 = .ok (.iload_n 2, 1) := by decide +kernel
theorem dX6_findIn_7 : decode cX6_findIn 7 = .ok (.invokevirtual 144, 3) := by decide +kernel
theorem dX6_findIn_10 : decode cX6_findIn 10 = .ok (.istore_n 3, 1) := by decide +kernel
theorem dX6_findIn_11 : decode cX6_findIn 11 = .ok (.iconst 0, 1) := by decide +kernel
theorem dX6_findIn_12 : decode cX6_findIn 12 = .ok (.istore 4, 2) := by decide +kernel
theorem dX6_findIn_14 : decode cX6_findIn 14 = .ok (.iload 4, 2) := by decide +kernel
theorem dX6_findIn_16 : decode cX6_findIn 16 = .ok (.aload_n 1, 1) := by decide +kernel
theorem dX6_findIn_17 : decode cX6_findIn 17 = .ok (.iconst 0, 1) := by decide +kernel
theorem dX6_findIn_18 : decode cX6_findIn 18 = .ok (.invokevirtual 141, 3) := by decide +kernel
theorem dX6_findIn_21 : decode cX6_findIn 21 = .ok (.if_icmp .ge 49, 3) := by decide +kernel
theorem dX6_findIn_24 : decode cX6_findIn 24 = .ok (.iload_n 3, 1) := by decide +kernel
theorem dX6_findIn_25 : decode cX6_findIn 25 = .ok (.iconst (-1), 1) := by decide +kernel
theorem dX6_findIn_26 : decode cX6_findIn 26 = .ok (.if_icmp .eq 44, 3) := by decide +kernel
theorem dX6_findIn_29 : decode cX6_findIn 29 = .ok (.iload_n 2, 1) := by decide +kernel
theorem dX6_findIn_30 : decode cX6_findIn 30 = .ok (.aload_n 0, 1) := by decide +kernel
theorem dX6_findIn_31 : decode cX6_findIn 31 = .ok (.getfield 9, 3) := by decide +kernel
theorem dX6_findIn_34 : decode cX6_findIn 34 = .ok (.iload 4, 2) := by decide +kernel
theorem dX6_findIn_36 : decode cX6_findIn 36 = .ok (.iaload, 1) := by decide +kernel
theorem dX6_findIn_37 : decode cX6_findIn 37 = .ok (.aload_n 1, 1) := by decide +kernel
theorem dX6_findIn_38 : decode cX6_findIn 38 = .ok (.getfield 68, 3) := by decide +kernel
theorem dX6_findIn_41 : decode cX6_findIn 41 = .ok (.iload 4, 2) := by decide +kernel
theorem dX6_findIn_43 : decode cX6_findIn 43 = .ok (.iaload, 1) := by decide +kernel
theorem dX6_findIn_44 : decode cX6_findIn 44 = .ok (.iconst (-1), 1) := by decide +kernel
theorem dX6_findIn_45 : decode cX6_findIn 45 = .ok (.ixor, 1) := by decide +kernel
theorem dX6_findIn_46 : decode cX6_findIn 46 = .ok (.ior, 1) := by decide +kernel
theorem dX6_findIn_47 : decode cX6_findIn 47 = .ok (.iand, 1) := by decide +kernel
theorem dX6_findIn_48 : decode cX6_findIn 48 = .ok (.ifCond .ne 16, 3) := by decide +kernel
theorem dX6_findIn_51 : decode cX6_findIn 51 = .ok (.aload_n 0, 1) := by decide +kernel
theorem dX6_findIn_52 : decode cX6_findIn 52 = .ok (.iload 4, 2) := by decide +kernel
theorem dX6_findIn_54 : decode cX6_findIn 54 = .ok (.putfield 106, 3) := by decide +kernel
theorem dX6_findIn_57 : decode cX6_findIn 57 = .ok (.aload_n 0, 1) := by decide +kernel
theorem dX6_findIn_58 : decode cX6_findIn 58 = .ok (.iload_n 3, 1) := by decide +kernel
theorem dX6_findIn_59 : decode cX6_findIn 59 = .ok (.putfield 109, 3) := by decide +kernel
theorem dX6_findIn_62 : decode cX6_findIn 62 = .ok (.iconst 1, 1) := by decide +kernel
theorem dX6_findIn_63 : decode cX6_findIn 63 = .ok (.ireturn, 1) := by decide +kernel
theorem dX6_findIn_64 : decode cX6_findIn 64 = .ok (.iinc 4 1, 3) := by decide +kernel
theorem dX6_findIn_67 : decode cX6_findIn 67 = .ok (.goto (-53), 3) := by decide +kernel
theorem dX6_findIn_70 : decode cX6_findIn 70 = .ok (.iconst 0, 1) := by decide +kernel
theorem dX6_findIn_71 : decode cX6_findIn 71 = .ok (.ireturn, 1) := by decide +kernel
theorem hd_X6_findIn : yX6_findIn.cls = RX6 ∧ yX6_findIn.cls ≠ "java/lang/invoke/MethodHandle" ∧ yX6_findIn.cls ≠ "java/lang/invoke/VarHandle" ∧ (parseMethodDescriptor yX6_findIn.desc).map (fun d => d.parameters.length) = some 2 := by decide +kernel
theorem hs_X6_findIn : yX6_findIn.cls ≠ "java/lang/invoke/MethodHandle" ∧ yX6_findIn.cls ≠ "java/lang/invoke/VarHandle" ∧ (parseMethodDescriptor yX6_findIn.desc).map (fun d => d.parameters.length) = some 2 := by decide +kernel
set_option maxHeartbeats 4000000 in
set_option maxRecDepth 100000 in
theorem l_X6_findIn_L14 (C : CX p l e s m args meth c cX6_findIn 5 RX6 (Option.some Jvm.ClassFile.FieldType.boolean) E) {o : Nat} (ho : K o = some (5, 0)) {r : Bool} {w' : Wd} (k : Option Nat → Int32 → Int32 → Int32 → Wd → Option (Bool × Wd)) (hk : ∀ (v1_14 : Option Nat) (v2_14 : Int32) (v3_14 : Int32) (v4_14 : Int32) (w : Wd) (H : Heap) (locs : List Loc) (ls : Array Slot), HQ E K z w s H locs → lv_has ls 5 [(1, rv E v1_14), (2, .int v2_14), (3, .int v3_14), (4, .int v4_14), (0, rv E (some o))] → k v1_14 v2_14 v3_14 v4_14 w = some (r, w') → W p l e ({ frames := 2, cells := 0, slots := 0, locals := 46 } : Room) s m args below meth c H locs 0 0 (MQ below (QI E K z w' (b2i r)) args s 0 0 (hA E)) (F0 m 70 ls [])) : ∀ (n : Nat) (v1_14 : Option Nat) (v2_14 : Int32) (v3_14 : Int32) (v4_14 : Int32) (w : Wd) (H : Heap) (locs : List Loc) (ls : Array Slot), HQ E K z w s H locs → lv_has ls 5 [(1, rv E v1_14), (2, .int v2_14), (3, .int v3_14), (4, .int v4_14), (0, rv E (some o))] → f_X6_findIn_L14 K o k n v1_14 v2_14 v3_14 v4_14 w = some (r, w') → W p l e ({ frames := 2, cells := 0, slots := 0, locals := 46 } : Room) s m args below meth c H locs 0 0 (MQ below (QI E K z w' (b2i r)) args s 0 0 (hA E)) (F0 m 14 ls []) := by
  obtain ⟨hx, hb, hml, hown, hts, hKs, hT, hb0, hlocks, hret⟩ := id C
  intro n
  induction n with
  | zero =>
    intro v1_14 v2_14 v3_14 v4_14 w H locs ls hH hl hf
    cases hf
  | succ n ih =>
    intro v1_14 v2_14 v3_14 v4_14 w H locs ls hH hl hf
    rw [f_X6_findIn_L14] at hf
    refine lv_iload hx hb dX6_findIn_14 (lv_at hl 3 rfl) ?_
    refine hl_aload_n hx hb dX6_findIn_16 rfl (lv_at hl 0 rfl) ?_
    refine lv_iconst (v := 0) hx hb dX6_findIn_17 (by decide) ?_
    obtain ⟨a5, ha5, hf⟩ := bnd hf
    replace ha5 := chk_some ha5
    obtain ⟨q6, hq6, hf⟩ := bnd hf
    refine hcV_i hx hb hml hown hts hKs hT hb0 hH (As := [.int 0]) (rest := [.int v4_14]) (k_X9_size l E K H.size a5 0 w ha5.2 hq6) (gV m4_123 m3_151 m3_152 m1_2 m3_153) hd_X9_size ⟨Nat.le_of_ble_eq_true rfl, Nat.le_of_ble_eq_true rfl, rfl, rfl⟩ ha5.1 ha5.2 rfl rfl rfl hl.1 rfl (rcI rc0) rfl dX6_findIn_18 ⟨Nat.zero_le _, Nat.zero_le _⟩ (fun H locs hH => ?_)
    refine lv_icmp_ge (tgt := 70) hx hb dX6_findIn_21 (by decide) (fun c7 => ?_) (fun c7 => ?_)
    · replace hf := (if_pos c7).symm.trans hf
      exact hk v1_14 v2_14 v3_14 v4_14 _ _ _ _ hH (lv_sub hl [0, 1, 2, 3, 4] rfl) hf
    · replace hf := (if_neg c7).symm.trans hf
      refine lv_iload_n hx hb dX6_findIn_24 rfl (lv_at hl 2 rfl) ?_
      refine lv_iconst (v := (-1)) hx hb dX6_findIn_25 (by decide) ?_
      refine lv_icmp_eq (tgt := 70) hx hb dX6_findIn_26 (by decide) (fun c8 => ?_) (fun c8 => ?_)
      · replace hf := (if_pos c8).symm.trans hf
        exact hk v1_14 v2_14 v3_14 v4_14 _ _ _ _ hH (lv_sub hl [0, 1, 2, 3, 4] rfl) hf
      · replace hf := (if_neg c8).symm.trans hf
        refine lv_iload_n hx hb dX6_findIn_29 rfl (lv_at hl 1 rfl) ?_
        refine hl_aload_n hx hb dX6_findIn_30 rfl (lv_at hl 4 rfl) ?_
        refine g6_0 hx hb hts hown hKs hH rfl ho m2_156 dX6_findIn_31 ?_
        refine lv_iload hx hb dX6_findIn_34 (lv_at hl 3 rfl) ?_
        obtain ⟨a9, ha9, hf⟩ := bnd hf
        replace ha9 := cha_some ha9
        obtain ⟨j10, hj10, hf⟩ := bnd hf
        refine hw_iald hx hb hKs hH ha9.1 ha9.2 hj10 dX6_findIn_36 ?_
        refine hl_aload_n hx hb dX6_findIn_37 rfl (lv_at hl 0 rfl) ?_
        refine gn9_1 hx hb hts hown hKs hH ha5.1 ha5.2 m1_154 dX6_findIn_38 ?_
        refine lv_iload hx hb dX6_findIn_41 (lv_at hl 3 rfl) ?_
        obtain ⟨a11, ha11, hf⟩ := bnd hf
        replace ha11 := cha_some ha11
        obtain ⟨j12, hj12, hf⟩ := bnd hf
        refine hw_iald hx hb hKs hH ha11.1 ha11.2 hj12 dX6_findIn_43 ?_
        refine lv_iconst (v := (-1)) hx hb dX6_findIn_44 (by decide) ?_
        refine lv_ixor hx hb dX6_findIn_45 ?_
        refine lv_ior hx hb dX6_findIn_46 ?_
        refine lv_iand hx hb dX6_findIn_47 ?_
        refine lv_if_ne (tgt := 64) hx hb dX6_findIn_48 (by decide) (fun c13 => ?_) (fun c13 => ?_)
        · replace hf := (if_neg c13).symm.trans hf
          refine lv_iinc (v := (v4_14 + 1)) (lv' := [(4, .int ((v4_14 + 1))), (1, rv E v1_14), (2, .int v2_14), (3, .int v3_14), (0, rv E (some o))]) hx hb dX6_findIn_64 hl (k := 3) rfl rfl (by decide) rfl (fun ls hl => ?_)
          refine lv_goto (tgt := 14) hx hb dX6_findIn_67 (by decide) ?_
          exact ih v1_14 v2_14 v3_14 (v4_14 + 1) _ _ _ _ hH (lv_sub hl [1, 2, 3, 0, 4] rfl) hf
        · replace hf := (if_pos c13).symm.trans hf
          refine hl_aload_n hx hb dX6_findIn_51 rfl (lv_at hl 4 rfl) ?_
          refine lv_iload hx hb dX6_findIn_52 (lv_at hl 3 rfl) ?_
          obtain ⟨w14, hw14, hf⟩ := bnd hf
          replace hw14 := Option.some.inj hw14
          refine p6_10 (v := v4_14) hx hb hts hown hKs hH rfl ho m2_168 dX6_findIn_54 (fun H locs hH => ?_)
          rw [hw14] at hH
          refine hl_aload_n hx hb dX6_findIn_57 rfl (lv_at hl 4 rfl) ?_
          refine lv_iload_n hx hb dX6_findIn_58 rfl (lv_at hl 2 rfl) ?_
          obtain ⟨w15, hw15, hf⟩ := bnd hf
          replace hw15 := Option.some.inj hw15
          refine p6_11 (v := v3_14) hx hb hts hown hKs hH rfl ho m2_170 dX6_findIn_59 (fun H locs hH => ?_)
          rw [hw15] at hH
          refine lv_iconst (v := 1) hx hb dX6_findIn_62 (by decide) ?_
          exact hw_zret hx hb hret rfl hf hH hlocks dX6_findIn_63
set_option maxHeartbeats 4000000 in
set_option maxRecDepth 100000 in
theorem k_X6_findIn (l : Launch) (E : Ev) (K : Kd) (z : Nat) (o : Nat) (a_1 : Option Nat) (a_2 : Int32) (w : Wd) (ho : K o = some (5, 0)) {r : Bool} {w' : Wd} (hf : f_X6_findIn K o a_1 a_2 w = some (r, w')) : Met l yX6_findIn (Cond.code yX6_findIn cX6_findIn 5 (Option.some Jvm.ClassFile.FieldType.boolean) :: bt) ({ frames := 2, cells := 0, slots := 0, locals := 46 } : Room) (va_Pc [rv E (some o), rv E a_1, .int a_2] (HB E K w z)) (QI E K z w' (b2i r)) 0 0 (hA E) := by
  refine Met.ofW (cc := cX6_findIn) (maxL := 5) (ret := (Option.some Jvm.ClassFile.FieldType.boolean)) (by decide) rfl ?_
  intro p e s m args below meth c s₁ B hml hv
  obtain ⟨rfl, hz, hP, hKs, hT, hb0⟩ := hv
  have C : CX p l e s m _ meth c cX6_findIn 5 RX6 (Option.some Jvm.ClassFile.FieldType.boolean) E := ⟨B.exec, B.bytes, hml, findClass_of_methodNamed B.named, fun w h => atoms_spec (ws := Cond.code yX6_findIn cX6_findIn 5 (Option.some Jvm.ClassFile.FieldType.boolean) :: bt) B.pre w (List.mem_cons_of_mem _ h), hKs, hT, by rw [hz]; exact hb0, B.notSynchronized, B.returns⟩
  have hH : HQ E K z w s s.heap [] := ⟨hP, va_S.rf, hz⟩
  obtain ⟨hx, hb, hml, hown, hts, hKs, hT, hb0, hlocks, hret⟩ := id C
  have hl := lv_entry [rv E (some o), rv E a_1, .int a_2] (n := 5) (by simp [lg_len_nil, lg_len_i, lg_len_j, lg_len_q, lg_len_f, lg_len_d, lg_len_r])
  rw [lg_entry_eq]
  generalize (lg_sl [rv E (some o), rv E a_1, .int a_2] ++ List.replicate (5 - (lg_sl [rv E (some o), rv E a_1, .int a_2]).length) Slot.unset).toArray = ls at hl ⊢
  replace hl : lv_has ls 5 [(0, rv E (some o)), (1, rv E a_1), (2, .int a_2)] := by simpa only [lv_args, cat_q, cat_i, cat_j, reduceIte, Nat.reduceEqDiff, Nat.reduceAdd, Nat.zero_add] using hl
  generalize s.heap = H at hH ⊢
  unfold f_X6_findIn at hf
  refine hl_aload_n hx hb dX6_findIn_0 rfl (lv_at hl 0 rfl) ?_
  refine hl_aload_n hx hb dX6_findIn_1 rfl (lv_at hl 1 rfl) ?_
  refine lv_iconst (v := 1) hx hb dX6_findIn_2 (by decide) ?_
  obtain ⟨a1, ha1, hf⟩ := bnd hf
  replace ha1 := chk_some ha1
  obtain ⟨q2, hq2, hf⟩ := bnd hf
  refine hcV_i hx hb hml hown hts hKs hT hb0 hH (As := [.int 1]) (rest := [rv E (some o)]) (k_X9_size l E K H.size a1 1 w ha1.2 hq2) (gV m4_123 m3_151 m3_152 m1_2 m3_153) hd_X9_size ⟨Nat.le_of_ble_eq_true rfl, Nat.le_of_ble_eq_true rfl, rfl, rfl⟩ ha1.1 ha1.2 rfl rfl rfl hl.1 rfl (rcV rc0) rfl dX6_findIn_3 ⟨Nat.zero_le _, Nat.zero_le _⟩ (fun H locs hH => ?_)
  refine lv_iload_n hx hb dX6_findIn_6 rfl (lv_at hl 2 rfl) ?_
  obtain ⟨q3, hq3, hf⟩ := bnd hf
  refine hcV_i hx hb hml hown hts hKs hT hb0 hH (As := [.int (q2.1), .int a_2]) (rest := []) (k_X6_leastLoaded l E K H.size o q2.1 a_2 q2.2 ho hq3) (gV m4_176 m4_178 ms_29 m1_14 m4_179) hd_X6_leastLoaded ⟨Nat.le_of_ble_eq_true rfl, Nat.le_of_ble_eq_true rfl, rfl, rfl⟩ rfl ho rfl rfl rfl hl.1 rfl rc0 rfl dX6_findIn_7 ⟨Nat.zero_le _, Nat.zero_le _⟩ (fun H locs hH => ?_)
  refine lv_istore_n (i := 3) (lv' := [(3, .int (q3.1)), (0, rv E (some o)), (1, rv E a_1), (2, .int a_2)]) hx hb dX6_findIn_10 rfl hl (by decide) rfl (fun ls hl => ?_)
  refine lv_iconst (v := 0) hx hb dX6_findIn_11 (by decide) ?_
  refine lv_istore (i := 4) (lv' := [(4, .int 0), (3, .int (q3.1)), (0, rv E (some o)), (1, rv E a_1), (2, .int a_2)]) hx hb dX6_findIn_12 hl (by decide) rfl (fun ls hl => ?_)
  refine l_X6_findIn_L14  C ho _ (fun v1_14 v2_14 v3_14 v4_14 w4 H locs ls hH hl hf => ?_) fu a_1 a_2 q3.1 0 q3.2 _ _ _ hH (lv_sub hl [3, 4, 1, 0, 2] rfl) hf
  refine lv_iconst (v := 0) hx hb dX6_findIn_70 (by decide) ?_
  exact hw_zret hx hb hret rfl hf hH hlocks dX6_findIn_71

theorem dX6_lookAtOfficers_0 : decode cX6_lookAtOfficers 0 = .ok (.aload_n 0, 1) := by decide +kernel
theorem dX6_lookAtOfficers_1 : decode cX6_lookAtOfficers 1 = .ok (.aload_n 1, 1) := by decide +kernel
theorem dX6_lookAtOfficers_2 : decode cX6_lookAtOfficers 2 = .ok (.iload_n 2, 1) := by decide +kernel
theorem dX6_lookAtOfficers_3 : decode cX6_lookAtOfficers 3 = .ok (.invokevirtual 147, 3) := by decide +kernel
theorem dX6_lookAtOfficers_6 : decode cX6_lookAtOfficers 6 = .ok (.putfield 78, 3) := by decide +kernel
theorem dX6_lookAtOfficers_9 : decode cX6_lookAtOfficers 9 = .ok (.iconst 0, 1) := by decide +kernel
theorem dX6_lookAtOfficers_10 : decode cX6_lookAtOfficers 10 = .ok (.istore_n 3, 1) := by decide +kernel
theorem dX6_lookAtOfficers_11 : decode cX6_lookAtOfficers 11 = .ok (.iload_n 3, 1) := by decide +kernel
theorem dX6_lookAtOfficers_12 : decode cX6_lookAtOfficers 12 = .ok (.aload_n 1, 1) := by decide +kernel
theorem dX6_lookAtOfficers_13 : decode cX6_lookAtOfficers 13 = .ok (.getfield 24, 3) := by decide +kernel
theorem dX6_lookAtOfficers_16 : decode cX6_lookAtOfficers 16 = .ok (.iconst 1, 1) := by decide +kernel
theorem dX6_lookAtOfficers_17 : decode cX6_lookAtOfficers 17 = .ok (.invokevirtual 141, 3) := by decide +kernel
theorem dX6_lookAtOfficers_20 : decode cX6_lookAtOfficers 20 = .ok (.if_icmp .ge 20, 3) := by decide +kernel
theorem dX6_lookAtOfficers_23 : decode cX6_lookAtOfficers 23 = .ok (.aload_n 0, 1) := by decide +kernel
theorem dX6_lookAtOfficers_24 : decode cX6_lookAtOfficers 24 = .ok (.getfield 18, 3) := by decide +kernel
theorem dX6_lookAtOfficers_27 : decode cX6_lookAtOfficers 27 = .ok (.iload_n 3, 1) := by decide +kernel
theorem dX6_lookAtOfficers_28 : decode cX6_lookAtOfficers 28 = .ok (.aload_n 1, 1) := by decide +kernel
theorem dX6_lookAtOfficers_29 : decode cX6_lookAtOfficers 29 = .ok (.iload_n 3, 1) := by decide +kernel
theorem dX6_lookAtOfficers_30 : decode cX6_lookAtOfficers 30 = .ok (.invokevirtual 150, 3) := by decide +kernel
theorem dX6_lookAtOfficers_33 : decode cX6_lookAtOfficers 33 = .ok (.iastore, 1) := by decide +kernel
theorem dX6_lookAtOfficers_34 : decode cX6_lookAtOfficers 34 = .ok (.iinc 3 1, 3) := by decide +kernel
theorem dX6_lookAtOfficers_37 : decode cX6_lookAtOfficers 37 = .ok (.goto (-26), 3) := by decide +kernel
theorem dX6_lookAtOfficers_40 : decode cX6_lookAtOfficers 40 = .ok (.return_, 1) := by decide +kernel
theorem hd_X6_lookAtOfficers : yX6_lookAtOfficers.cls = RX6 ∧ yX6_lookAtOfficers.cls ≠ "java/lang/invoke/MethodHandle" ∧ yX6_lookAtOfficers.cls ≠ "java/lang/invoke/VarHandle" ∧ (parseMethodDescriptor yX6_lookAtOfficers.desc).map (fun d => d.parameters.length) = some 2 := by decide +kernel
theorem hs_X6_lookAtOfficers : yX6_lookAtOfficers.cls ≠ "java/lang/invoke/MethodHandle" ∧ yX6_lookAtOfficers.cls ≠ "java/lang/invoke/VarHandle" ∧ (parseMethodDescriptor yX6_lookAtOfficers.desc).map (fun d => d.parameters.length) = some 2 := by decide +kernel
set_option maxHeartbeats 4000000 in
set_option maxRecDepth 100000 in
theorem l_X6_lookAtOfficers_L11 (C : CX p l e s m args meth c cX6_lookAtOfficers 4 RX6 (Option.none : Option Jvm.ClassFile.FieldType) E) {o : Nat} (ho : K o = some (5, 0)) {w' : Wd} (k : Option Nat → Int32 → Int32 → Wd → Option Wd) (hk : ∀ (v1_11 : Option Nat) (v2_11 : Int32) (v3_11 : Int32) (w : Wd) (H : Heap) (locs : List Loc) (ls : Array Slot), HQ E K z w s H locs → lv_has ls 4 [(1, rv E v1_11), (2, .int v2_11), (3, .int v3_11), (0, rv E (some o))] → k v1_11 v2_11 v3_11 w = some w' → W p l e ({ frames := 2, cells := 0, slots := 0, locals := 45 } : Room) s m args below meth c H locs 0 0 (MQ below (QV E K z w') args s 0 0 (hA E)) (F0 m 40 ls [])) : ∀ (n : Nat) (v1_11 : Option Nat) (v2_11 : Int32) (v3_11 : Int32) (w : Wd) (H : Heap) (locs : List Loc) (ls : Array Slot), HQ E K z w s H locs → lv_has ls 4 [(1, rv E v1_11), (2, .int v2_11), (3, .int v3_11), (0, rv E (some o))] → f_X6_lookAtOfficers_L11 K o k n v1_11 v2_11 v3_11 w = some w' → W p l e ({ frames := 2, cells := 0, slots := 0, locals := 45 } : Room) s m args below meth c H locs 0 0 (MQ below (QV E K z w') args s 0 0 (hA E)) (F0 m 11 ls []) := by
  obtain ⟨hx, hb, hml, hown, hts, hKs, hT, hb0, hlocks, hret⟩ := id C
  intro n
  induction n with
  | zero =>
    intro v1_11 v2_11 v3_11 w H locs ls hH hl hf
    cases hf
  | succ n ih =>
    intro v1_11 v2_11 v3_11 w H locs ls hH hl hf
    rw [f_X6_lookAtOfficers_L11] at hf
    refine lv_iload_n hx hb dX6_lookAtOfficers_11 rfl (lv_at hl 2 rfl) ?_
    refine hl_aload_n hx hb dX6_lookAtOfficers_12 rfl (lv_at hl 0 rfl) ?_
    obtain ⟨a5, ha5, hf⟩ := bnd hf
    replace ha5 := chk_some ha5
    refine gn10_0 hx hb hts hown hKs hH ha5.1 ha5.2 m2_120 dX6_lookAtOfficers_13 ?_
    refine lv_iconst (v := 1) hx hb dX6_lookAtOfficers_16 (by decide) ?_
    obtain ⟨a6, ha6, hf⟩ := bnd hf
    replace ha6 := chk_some ha6
    obtain ⟨q7, hq7, hf⟩ := bnd hf
    refine hcV_i hx hb hml hown hts hKs hT hb0 hH (As := [.int 1]) (rest := [.int v3_11]) (k_X9_size l E K H.size a6 1 w ha6.2 hq7) (gV m4_123 m3_151 m3_152 m1_2 m3_153) hd_X9_size ⟨Nat.le_of_ble_eq_true rfl, Nat.le_of_ble_eq_true rfl, rfl, rfl⟩ ha6.1 ha6.2 rfl rfl rfl hl.1 rfl (rcI rc0) rfl dX6_lookAtOfficers_17 ⟨Nat.zero_le _, Nat.zero_le _⟩ (fun H locs hH => ?_)
    refine lv_icmp_ge (tgt := 40) hx hb dX6_lookAtOfficers_20 (by decide) (fun c8 => ?_) (fun c8 => ?_)
    · replace hf := (if_pos c8).symm.trans hf
      exact hk v1_11 v2_11 v3_11 _ _ _ _ hH (lv_sub hl [0, 1, 2, 3] rfl) hf
    · replace hf := (if_neg c8).symm.trans hf
      refine hl_aload_n hx hb dX6_lookAtOfficers_23 rfl (lv_at hl 3 rfl) ?_
      refine g6_2 hx hb hts hown hKs hH rfl ho m2_158 dX6_lookAtOfficers_24 ?_
      refine lv_iload_n hx hb dX6_lookAtOfficers_27 rfl (lv_at hl 2 rfl) ?_
      refine hl_aload_n hx hb dX6_lookAtOfficers_28 rfl (lv_at hl 0 rfl) ?_
      refine lv_iload_n hx hb dX6_lookAtOfficers_29 rfl (lv_at hl 2 rfl) ?_
      obtain ⟨q9, hq9, hf⟩ := bnd hf
      refine hcV_i hx hb hml hown hts hKs hT hb0 hH (As := [.int v3_11]) (rest := [.int v3_11, rv E (wR q7.2 602 o)]) (k_X10_loadOf l E K H.size a5 v3_11 q7.2 ha5.2 hq9) (gV m4_124 m4_125 m4_126 m1_12 m4_127) hd_X10_loadOf ⟨Nat.le_of_ble_eq_true rfl, Nat.le_of_ble_eq_true rfl, rfl, rfl⟩ ha5.1 ha5.2 rfl rfl rfl hl.1 rfl (rcI (rcV rc0)) rfl dX6_lookAtOfficers_30 ⟨Nat.zero_le _, Nat.zero_le _⟩ (fun H locs hH => ?_)
      obtain ⟨a10, ha10, hf⟩ := bnd hf
      replace ha10 := cha_some ha10
      obtain ⟨j11, hj11, hf⟩ := bnd hf
      obtain ⟨w12, hw12, hf⟩ := bnd hf
      replace hw12 := Option.some.inj hw12
      refine hw_iast (x := q9.1) hx hb hKs hH ha10.1 ha10.2 hj11 dX6_lookAtOfficers_33 (fun H locs hH => ?_)
      rw [hw12] at hH
      refine lv_iinc (v := (v3_11 + 1)) (lv' := [(3, .int ((v3_11 + 1))), (1, rv E v1_11), (2, .int v2_11), (0, rv E (some o))]) hx hb dX6_lookAtOfficers_34 hl (k := 2) rfl rfl (by decide) rfl (fun ls hl => ?_)
      refine lv_goto (tgt := 11) hx hb dX6_lookAtOfficers_37 (by decide) ?_
      exact ih v1_11 v2_11 (v3_11 + 1) _ _ _ _ hH (lv_sub hl [1, 2, 0, 3] rfl) hf
set_option maxHeartbeats 4000000 in
set_option maxRecDepth 100000 in
theorem k_X6_lookAtOfficers (l : Launch) (E : Ev) (K : Kd) (z : Nat) (o : Nat) (a_1 : Option Nat) (a_2 : Int32) (w : Wd) (ho : K o = some (5, 0)) {w' : Wd} (hf : f_X6_lookAtOfficers K o a_1 a_2 w = some w') : Met l yX6_lookAtOfficers (Cond.code yX6_lookAtOfficers cX6_lookAtOfficers 4 (Option.none : Option Jvm.ClassFile.FieldType) :: bt) ({ frames := 2, cells := 0, slots := 0, locals := 45 } : Room) (va_Pc [rv E (some o), rv E a_1, .int a_2] (HB E K w z)) (QV E K z w') 0 0 (hA E) := by
  refine Met.ofW (cc := cX6_lookAtOfficers) (maxL := 4) (ret := (Option.none : Option Jvm.ClassFile.FieldType)) (by decide) rfl ?_
  intro p e s m args below meth c s₁ B hml hv
  obtain ⟨rfl, hz, hP, hKs, hT, hb0⟩ := hv
  have C : CX p l e s m _ meth c cX6_lookAtOfficers 4 RX6 (Option.none : Option Jvm.ClassFile.FieldType) E := ⟨B.exec, B.bytes, hml, findClass_of_methodNamed B.named, fun w h => atoms_spec (ws := Cond.code yX6_lookAtOfficers cX6_lookAtOfficers 4 (Option.none : Option Jvm.ClassFile.FieldType) :: bt) B.pre w (List.mem_cons_of_mem _ h), hKs, hT, by rw [hz]; exact hb0, B.notSynchronized, B.returns⟩
  have hH : HQ E K z w s s.heap [] := ⟨hP, va_S.rf, hz⟩
  obtain ⟨hx, hb, hml, hown, hts, hKs, hT, hb0, hlocks, hret⟩ := id C
  have hl := lv_entry [rv E (some o), rv E a_1, .int a_2] (n := 4) (by simp [lg_len_nil, lg_len_i, lg_len_j, lg_len_q, lg_len_f, lg_len_d, lg_len_r])
  rw [lg_entry_eq]
  generalize (lg_sl [rv E (some o), rv E a_1, .int a_2] ++ List.replicate (4 - (lg_sl [rv E (some o), rv E a_1, .int a_2]).length) Slot.unset).toArray = ls at hl ⊢
  replace hl : lv_has ls 4 [(0, rv E (some o)), (1, rv E a_1), (2, .int a_2)] := by simpa only [lv_args, cat_q, cat_i, cat_j, reduceIte, Nat.reduceEqDiff, Nat.reduceAdd, Nat.zero_add] using hl
  generalize s.heap = H at hH ⊢
  unfold f_X6_lookAtOfficers at hf
  refine hl_aload_n hx hb dX6_lookAtOfficers_0 rfl (lv_at hl 0 rfl) ?_
  refine hl_aload_n hx hb dX6_lookAtOfficers_1 rfl (lv_at hl 1 rfl) ?_
  refine lv_iload_n hx hb dX6_lookAtOfficers_2 rfl (lv_at hl 2 rfl) ?_
  obtain ⟨a1, ha1, hf⟩ := bnd hf
  replace ha1 := chk_some ha1
  obtain ⟨q2, hq2, hf⟩ := bnd hf
  refine hcV_i hx hb hml hown hts hKs hT hb0 hH (As := [.int a_2]) (rest := [rv E (some o)]) (k_X10_barredOfficers l E K H.size a1 a_2 w ha1.2 hq2) (gV m4_118 m4_119 m4_120 m1_12 m4_121) hd_X10_barredOfficers ⟨Nat.le_of_ble_eq_true rfl, Nat.le_of_ble_eq_true rfl, rfl, rfl⟩ ha1.1 ha1.2 rfl rfl rfl hl.1 rfl (rcV rc0) rfl dX6_lookAtOfficers_3 ⟨Nat.zero_le _, Nat.zero_le _⟩ (fun H locs hH => ?_)
  obtain ⟨w3, hw3, hf⟩ := bnd hf
  replace hw3 := Option.some.inj hw3
  refine p6_4 (v := q2.1) hx hb hts hown hKs hH rfl ho m2_160 dX6_lookAtOfficers_6 (fun H locs hH => ?_)
  rw [hw3] at hH
  refine lv_iconst (v := 0) hx hb dX6_lookAtOfficers_9 (by decide) ?_
  refine lv_istore_n (i := 3) (lv' := [(3, .int 0), (0, rv E (some o)), (1, rv E a_1), (2, .int a_2)]) hx hb dX6_lookAtOfficers_10 rfl hl (by decide) rfl (fun ls hl => ?_)
  refine l_X6_lookAtOfficers_L11  C ho _ (fun v1_11 v2_11 v3_11 w4 H locs ls hH hl hf => ?_) fu a_1 a_2 0 w3 _ _ _ hH (lv_sub hl [2, 3, 0, 1] rfl) hf
  exact hw_vret hx hb hret hf hH hlocks dX6_lookAtOfficers_40

theorem dX6_lookAtDay_0 : decode cX6_lookAtDay 0 = .ok (.aload_n 1, 1) := by decide +kernel
theorem dX6_lookAtDay_1 : decode cX6_lookAtDay 1 = .ok (.getfield 24, 3) := by decide +kernel
theorem dX6_lookAtDay_4 : decode cX6_lookAtDay 4 = .ok (.astore 5, 2) := by decide +kernel
theorem dX6_lookAtDay_6 : decode cX6_lookAtDay 6 = .ok (.aload 5, 2) := by decide +kernel
theorem dX6_lookAtDay_8 : decode cX6_lookAtDay 8 = .ok (.getfield 30, 3) := by decide +kernel
theorem dX6_lookAtDay_11 : decode cX6_lookAtDay 11 = .ok (.iload_n 2, 1) := by decide +kernel
theorem dX6_lookAtDay_12 : decode cX6_lookAtDay 12 = .ok (.aaload, 1) := by decide +kernel
theorem dX6_lookAtDay_13 : decode cX6_lookAtDay 13 = .ok (.getfield 153, 3) := by decide +kernel
theorem dX6_lookAtDay_16 : decode cX6_lookAtDay 16 = .ok (.istore 6, 2) := by decide +kernel
theorem dX6_lookAtDay_18 : decode cX6_lookAtDay 18 = .ok (.aload_n 0, 1) := by decide +kernel
theorem dX6_lookAtDay_19 : decode cX6_lookAtDay 19 = .ok (.getfield 9, 3) := by decide +kernel
theorem dX6_lookAtDay_22 : decode cX6_lookAtDay 22 = .ok (.iconst 0, 1) := by decide +kernel
theorem dX6_lookAtDay_23 : decode cX6_lookAtDay 23 = .ok (.invokestatic 156, 3) := by decide +kernel
theorem dX6_lookAtDay_26 : decode cX6_lookAtDay 26 = .ok (.aload_n 0, 1) := by decide +kernel
theorem dX6_lookAtDay_27 : decode cX6_lookAtDay 27 = .ok (.getfield 15, 3) := by decide +kernel
theorem dX6_lookAtDay_30 : decode cX6_lookAtDay 30 = .ok (.iconst 0, 1) := by decide +kernel
theorem dX6_lookAtDay_31 : decode cX6_lookAtDay 31 = .ok (.invokestatic 156, 3) := by decide +kernel
theorem dX6_lookAtDay_34 : decode cX6_lookAtDay 34 = .ok (.aload_n 0, 1) := by decide +kernel
theorem dX6_lookAtDay_35 : decode cX6_lookAtDay 35 = .ok (.iconst 0, 1) := by decide +kernel
theorem dX6_lookAtDay_36 : decode cX6_lookAtDay 36 = .ok (.putfield 84, 3) := by decide +kernel
theorem dX6_lookAtDay_39 : decode cX6_lookAtDay 39 = .ok (.aload_n 0, 1) := by decide +kernel
theorem dX6_lookAtDay_40 : decode cX6_lookAtDay 40 = .ok (.iload 4, 2) := by decide +kernel
theorem dX6_lookAtDay_42 : decode cX6_lookAtDay 42 = .ok (.aload 5, 2) := by decide +kernel
theorem dX6_lookAtDay_44 : decode cX6_lookAtDay 44 = .ok (.iload_n 3, 1) := by decide +kernel
theorem dX6_lookAtDay_45 : decode cX6_lookAtDay 45 = .ok (.invokevirtual 162, 3) := by decide +kernel
theorem dX6_lookAtDay_48 : decode cX6_lookAtDay 48 = .ok (.ior, 1) := by decide +kernel
theorem dX6_lookAtDay_49 : decode cX6_lookAtDay 49 = .ok (.putfield 71, 3) := by decide +kernel
theorem dX6_lookAtDay_52 : decode cX6_lookAtDay 52 = .ok (.aload_n 0, 1) := by decide +kernel
theorem dX6_lookAtDay_53 : decode cX6_lookAtDay 53 = .ok (.aload_n 1, 1) := by decide +kernel
theorem dX6_lookAtDay_54 : decode cX6_lookAtDay 54 = .ok (.iload 6, 2) := by decide +kernel
theorem dX6_lookAtDay_56 : decode cX6_lookAtDay 56 = .ok (.iload_n 3, 1) := by decide +kernel
theorem dX6_lookAtDay_57 : decode cX6_lookAtDay 57 = .ok (.invokevirtual 165, 3) := by decide +kernel
theorem dX6_lookAtDay_60 : decode cX6_lookAtDay 60 = .ok (.putfield 81, 3) := by decide +kernel
theorem dX6_lookAtDay_63 : decode cX6_lookAtDay 63 = .ok (.iconst 0, 1) := by decide +kernel
theorem dX6_lookAtDay_64 : decode cX6_lookAtDay 64 = .ok (.istore 7, 2) := by decide +kernel
theorem dX6_lookAtDay_66 : decode cX6_lookAtDay 66 = .ok (.iload 7, 2) := by decide +kernel
theorem dX6_lookAtDay_68 : decode cX6_lookAtDay 68 = .ok (.aload 5, 2) := by decide +kernel
theorem dX6_lookAtDay_70 : decode cX6_lookAtDay 70 = .ok (.iconst 3, 1) := by decide +kernel
theorem dX6_lookAtDay_71 : decode cX6_lookAtDay 71 = .ok (.invokevirtual 141, 3) := by decide +kernel
theorem dX6_lookAtDay_74 : decode cX6_lookAtDay 74 = .ok (.if_icmp .ge 101, 3) := by decide +kernel
theorem dX6_lookAtDay_77 : decode cX6_lookAtDay 77 = .ok (.aload_n 1, 1) := by decide +kernel
theorem dX6_lookAtDay_78 : decode cX6_lookAtDay 78 = .ok (.getfield 98, 3) := by decide +kernel
theorem dX6_lookAtDay_81 : decode cX6_lookAtDay 81 = .ok (.iload 7, 2) := by decide +kernel
theorem dX6_lookAtDay_83 : decode cX6_lookAtDay 83 = .ok (.aaload, 1) := by decide +kernel
theorem dX6_lookAtDay_84 : decode cX6_lookAtDay 84 = .ok (.astore 8, 2) := by decide +kernel
theorem dX6_lookAtDay_86 : decode cX6_lookAtDay 86 = .ok (.iload 7, 2) := by decide +kernel
theorem dX6_lookAtDay_88 : decode cX6_lookAtDay 88 = .ok (.iload_n 2, 1) := by decide +kernel
theorem dX6_lookAtDay_89 : decode cX6_lookAtDay 89 = .ok (.if_icmp .eq 80, 3) := by decide +kernel
theorem dX6_lookAtDay_92 : decode cX6_lookAtDay 92 = .ok (.aload 8, 2) := by decide +kernel
theorem dX6_lookAtDay_94 : decode cX6_lookAtDay 94 = .ok (.iload_n 3, 1) := by decide +kernel
theorem dX6_lookAtDay_95 : decode cX6_lookAtDay 95 = .ok (.invokevirtual 168, 3) := by decide +kernel
theorem dX6_lookAtDay_98 : decode cX6_lookAtDay 98 = .ok (.ifCond .eq 71, 3) := by decide +kernel
theorem dX6_lookAtDay_101 : decode cX6_lookAtDay 101 = .ok (.aload_n 1, 1) := by decide +kernel
theorem dX6_lookAtDay_102 : decode cX6_lookAtDay 102 = .ok (.iload 7, 2) := by decide +kernel
theorem dX6_lookAtDay_104 : decode cX6_lookAtDay 104 = .ok (.invokevirtual 171, 3) := by decide +kernel
theorem dX6_lookAtDay_107 : decode cX6_lookAtDay 107 = .ok (.istore 9, 2) := by decide +kernel
theorem dX6_lookAtDay_109 : decode cX6_lookAtDay 109 = .ok (.aload_n 0, 1) := by decide +kernel
theorem dX6_lookAtDay_110 : decode cX6_lookAtDay 110 = .ok (.getfield 9, 3) := by decide +kernel
theorem dX6_lookAtDay_113 : decode cX6_lookAtDay 113 = .ok (.aload 8, 2) := by decide +kernel
theorem dX6_lookAtDay_115 : decode cX6_lookAtDay 115 = .ok (.getfield 174, 3) := by decide +kernel
theorem dX6_lookAtDay_118 : decode cX6_lookAtDay 118 = .ok (.iload 9, 2) := by decide +kernel
theorem dX6_lookAtDay_120 : decode cX6_lookAtDay 120 = .ok (.invokestatic 175, 3) := by decide +kernel
theorem dX6_lookAtDay_123 : decode cX6_lookAtDay 123 = .ok (.aload_n 0, 1) := by decide +kernel
theorem dX6_lookAtDay_124 : decode cX6_lookAtDay 124 = .ok (.getfield 15, 3) := by decide +kernel
theorem dX6_lookAtDay_127 : decode cX6_lookAtDay 127 = .ok (.aload 8, 2) := by decide +kernel
theorem dX6_lookAtDay_129 : decode cX6_lookAtDay 129 = .ok (.getfield 179, 3) := by decide +kernel
theorem dX6_lookAtDay_132 : decode cX6_lookAtDay 132 = .ok (.iload 9, 2) := by decide +kernel
theorem dX6_lookAtDay_134 : decode cX6_lookAtDay 134 = .ok (.invokestatic 175, 3) := by decide +kernel
theorem dX6_lookAtDay_137 : decode cX6_lookAtDay 137 = .ok (.aload_n 0, 1) := by decide +kernel
theorem dX6_lookAtDay_138 : decode cX6_lookAtDay 138 = .ok (.dup, 1) := by decide +kernel
theorem dX6_lookAtDay_139 : decode cX6_lookAtDay 139 = .ok (.getfield 84, 3) := by decide +kernel
theorem dX6_lookAtDay_142 : decode cX6_lookAtDay 142 = .ok (.iload 6, 2) := by decide +kernel
theorem dX6_lookAtDay_144 : decode cX6_lookAtDay 144 = .ok (.aload 5, 2) := by decide +kernel
theorem dX6_lookAtDay_146 : decode cX6_lookAtDay 146 = .ok (.getfield 30, 3) := by decide +kernel
theorem dX6_lookAtDay_149 : decode cX6_lookAtDay 149 = .ok (.iload 7, 2) := by decide +kernel
theorem dX6_lookAtDay_151 : decode cX6_lookAtDay 151 = .ok (.aaload, 1) := by decide +kernel
theorem dX6_lookAtDay_152 : decode cX6_lookAtDay 152 = .ok (.getfield 153, 3) := by decide +kernel
theorem dX6_lookAtDay_155 : decode cX6_lookAtDay 155 = .ok (.iand, 1) := by decide +kernel
theorem dX6_lookAtDay_156 : decode cX6_lookAtDay 156 = .ok (.ifCond .eq 8, 3) := by decide +kernel
theorem dX6_lookAtDay_159 : decode cX6_lookAtDay 159 = .ok (.iload 9, 2) := by decide +kernel
theorem dX6_lookAtDay_161 : decode cX6_lookAtDay 161 = .ok (.goto 4, 3) := by decide +kernel
theorem dX6_lookAtDay_164 : decode cX6_lookAtDay 164 = .ok (.iconst 0, 1) := by decide +kernel
theorem dX6_lookAtDay_165 : decode cX6_lookAtDay 165 = .ok (.ior, 1) := by decide +kernel
theorem dX6_lookAtDay_166 : decode cX6_lookAtDay 166 = .ok (.putfield 84, 3) := by decide +kernel
theorem dX6_lookAtDay_169 : decode cX6_lookAtDay 169 = .ok (.iinc 7 1, 3) := by decide +kernel
theorem dX6_lookAtDay_172 : decode cX6_lookAtDay 172 = .ok (.goto (-106), 3) := by decide +kernel
theorem dX6_lookAtDay_175 : decode cX6_lookAtDay 175 = .ok (.return_, 1) := by decide +kernel
theorem hd_X6_lookAtDay : yX6_lookAtDay.cls = RX6 ∧ yX6_lookAtDay.cls ≠ "java/lang/invoke/MethodHandle" ∧ yX6_lookAtDay.cls ≠ "java/lang/invoke/VarHandle" ∧ (parseMethodDescriptor yX6_lookAtDay.desc).map (fun d => d.parameters.length) = some 4 := by decide +kernel
theorem hs_X6_lookAtDay : yX6_lookAtDay.cls ≠ "java/lang/invoke/MethodHandle" ∧ yX6_lookAtDay.cls ≠ "java/lang/invoke/VarHandle" ∧ (parseMethodDescriptor yX6_lookAtDay.desc).map (fun d => d.parameters.length) = some 4 := by decide +kernel
set_option maxHeartbeats 4000000 in
set_option maxRecDepth 100000 in
theorem l_X6_lookAtDay_L66 (C : CX p l e s m args meth c cX6_lookAtDay 10 RX6 (Option.none : Option Jvm.ClassFile.FieldType) E) {o : Nat} (ho : K o = some (5, 0)) {w' : Wd} (k : Option Nat → Int32 → Int32 → Int32 → Option Nat → Int32 → Int32 → Wd → Option Wd) (hk : ∀ (v1_66 : Option Nat) (v2_66 : Int32) (v3_66 : Int32) (v4_66 : Int32) (v5_66 : Option Nat) (v6_66 : Int32) (v7_66 : Int32) (w : Wd) (H : Heap) (locs : List Loc) (ls : Array Slot), HQ E K z w s H locs → lv_has ls 10 [(1, rv E v1_66), (2, .int v2_66), (3, .int v3_66), (4, .int v4_66), (5, rv E v5_66), (6, .int v6_66), (7, .int v7_66), (0, rv E (some o))] → k v1_66 v2_66 v3_66 v4_66 v5_66 v6_66 v7_66 w = some w' → W p l e ({ frames := 2, cells := 0, slots := 0, locals := 47 } : Room) s m args below meth c H locs 0 0 (MQ below (QV E K z w') args s 0 0 (hA E)) (F0 m 175 ls [])) : ∀ (n : Nat) (v1_66 : Option Nat) (v2_66 : Int32) (v3_66 : Int32) (v4_66 : Int32) (v5_66 : Option Nat) (v6_66 : Int32) (v7_66 : Int32) (w : Wd) (H : Heap) (locs : List Loc) (ls : Array Slot), HQ E K z w s H locs → lv_has ls 10 [(1, rv E v1_66), (2, .int v2_66), (3, .int v3_66), (4, .int v4_66), (5, rv E v5_66), (6, .int v6_66), (7, .int v7_66), (0, rv E (some o))] → f_X6_lookAtDay_L66 K o k n v1_66 v2_66 v3_66 v4_66 v5_66 v6_66 v7_66 w = some w' → W p l e ({ frames := 2, cells := 0, slots := 0, locals := 47 } : Room) s m args below meth c H locs 0 0 (MQ below (QV E K z w') args s 0 0 (hA E)) (F0 m 66 ls []) := by
  obtain ⟨hx, hb, hml, hown, hts, hKs, hT, hb0, hlocks, hret⟩ := id C
  intro n
  induction n with
  | zero =>
    intro v1_66 v2_66 v3_66 v4_66 v5_66 v6_66 v7_66 w H locs ls hH hl hf
    cases hf
  | succ n ih =>
    intro v1_66 v2_66 v3_66 v4_66 v5_66 v6_66 v7_66 w H locs ls hH hl hf
    rw [f_X6_lookAtDay_L66] at hf
    refine lv_iload hx hb dX6_lookAtDay_66 (lv_at hl 6 rfl) ?_
    refine hl_aload hx hb dX6_lookAtDay_68 (lv_at hl 4 rfl) ?_
    refine lv_iconst (v := 3) hx hb dX6_lookAtDay_70 (by decide) ?_
    obtain ⟨a14, ha14, hf⟩ := bnd hf
    replace ha14 := chk_some ha14
    obtain ⟨q15, hq15, hf⟩ := bnd hf
    refine hcV_i hx hb hml hown hts hKs hT hb0 hH (As := [.int 3]) (rest := [.int v7_66]) (k_X9_size l E K H.size a14 3 w ha14.2 hq15) (gV m4_123 m3_151 m3_152 m1_2 m3_153) hd_X9_size ⟨Nat.le_of_ble_eq_true rfl, Nat.le_of_ble_eq_true rfl, rfl, rfl⟩ ha14.1 ha14.2 rfl rfl rfl hl.1 rfl (rcI rc0) rfl dX6_lookAtDay_71 ⟨Nat.zero_le _, Nat.zero_le _⟩ (fun H locs hH => ?_)
    refine lv_icmp_ge (tgt := 175) hx hb dX6_lookAtDay_74 (by decide) (fun c16 => ?_) (fun c16 => ?_)
    · replace hf := (if_pos c16).symm.trans hf
      exact hk v1_66 v2_66 v3_66 v4_66 v5_66 v6_66 v7_66 _ _ _ _ hH (lv_sub hl [0, 1, 2, 3, 4, 5, 6, 7] rfl) hf
    · replace hf := (if_neg c16).symm.trans hf
      refine hl_aload_n hx hb dX6_lookAtDay_77 rfl (lv_at hl 0 rfl) ?_
      obtain ⟨a17, ha17, hf⟩ := bnd hf
      replace ha17 := chk_some ha17
      refine gn10_5 hx hb hts hown hKs hH ha17.1 ha17.2 m2_134 dX6_lookAtDay_78 ?_
      refine lv_iload hx hb dX6_lookAtDay_81 (lv_at hl 6 rfl) ?_
      obtain ⟨a18, ha18, hf⟩ := bnd hf
      replace ha18 := cha_some ha18
      obtain ⟨j19, hj19, hf⟩ := bnd hf
      refine hw_aald27 hx hb hKs hH ha18.1 ha18.2 hj19 dX6_lookAtDay_83 ?_
      refine hl_astore (i := 8) (lv' := [(8, rv E (aR q15.2 a18.1 j19)), (1, rv E v1_66), (2, .int v2_66), (3, .int v3_66), (4, .int v4_66), (5, rv E v5_66), (6, .int v6_66), (7, .int v7_66), (0, rv E (some o))]) hx hb dX6_lookAtDay_84 hl (by decide) rfl (fun ls hl => ?_)
      refine lv_iload hx hb dX6_lookAtDay_86 (lv_at hl 7 rfl) ?_
      refine lv_iload_n hx hb dX6_lookAtDay_88 rfl (lv_at hl 2 rfl) ?_
      refine lv_icmp_eq (tgt := 169) hx hb dX6_lookAtDay_89 (by decide) (fun c20 => ?_) (fun c20 => ?_)
      · replace hf := (if_pos c20).symm.trans hf
        refine lv_iinc (v := (v7_66 + 1)) (lv' := [(7, .int ((v7_66 + 1))), (8, rv E (aR q15.2 a18.1 j19)), (1, rv E v1_66), (2, .int v2_66), (3, .int v3_66), (4, .int v4_66), (5, rv E v5_66), (6, .int v6_66), (0, rv E (some o))]) hx hb dX6_lookAtDay_169 hl (k := 7) rfl rfl (by decide) rfl (fun ls hl => ?_)
        refine lv_goto (tgt := 66) hx hb dX6_lookAtDay_172 (by decide) ?_
        exact ih v1_66 v2_66 v3_66 v4_66 v5_66 v6_66 (v7_66 + 1) _ _ _ _ hH (lv_sub hl [2, 3, 4, 5, 6, 7, 0, 8] rfl) hf
      · replace hf := (if_neg c20).symm.trans hf
        refine hl_aload hx hb dX6_lookAtDay_92 (lv_at hl 0 rfl) ?_
        refine lv_iload_n hx hb dX6_lookAtDay_94 rfl (lv_at hl 3 rfl) ?_
        obtain ⟨a21, ha21, hf⟩ := bnd hf
        replace ha21 := chk_some ha21
        obtain ⟨q22, hq22, hf⟩ := bnd hf
        refine hcV_i hx hb hml hown hts hKs hT hb0 hH (As := [.int v3_66]) (rest := []) (k_X7_isOn l E K H.size a21 v3_66 q15.2 ha21.2 hq22) (gV m4_160 m4_161 m4_162 m1_13 m4_163) hd_X7_isOn ⟨Nat.le_of_ble_eq_true rfl, Nat.le_of_ble_eq_true rfl, rfl, rfl⟩ ha21.1 ha21.2 rfl rfl rfl hl.1 rfl rc0 rfl dX6_lookAtDay_95 ⟨Nat.zero_le _, Nat.zero_le _⟩ (fun H locs hH => ?_)
        refine lv_if_eq (tgt := 169) hx hb dX6_lookAtDay_98 (by decide) (fun c23 => ?_) (fun c23 => ?_)
        · replace hf := (if_pos c23).symm.trans hf
          refine lv_iinc (v := (v7_66 + 1)) (lv' := [(7, .int ((v7_66 + 1))), (8, rv E (aR q15.2 a18.1 j19)), (1, rv E v1_66), (2, .int v2_66), (3, .int v3_66), (4, .int v4_66), (5, rv E v5_66), (6, .int v6_66), (0, rv E (some o))]) hx hb dX6_lookAtDay_169 hl (k := 7) rfl rfl (by decide) rfl (fun ls hl => ?_)
          refine lv_goto (tgt := 66) hx hb dX6_lookAtDay_172 (by decide) ?_
          exact ih v1_66 v2_66 v3_66 v4_66 v5_66 v6_66 (v7_66 + 1) _ _ _ _ hH (lv_sub hl [2, 3, 4, 5, 6, 7, 0, 8] rfl) hf
        · replace hf := (if_neg c23).symm.trans hf
          refine hl_aload_n hx hb dX6_lookAtDay_101 rfl (lv_at hl 1 rfl) ?_
          refine lv_iload hx hb dX6_lookAtDay_102 (lv_at hl 7 rfl) ?_
          obtain ⟨q24, hq24, hf⟩ := bnd hf
          refine hcV_i hx hb hml hown hts hKs hT hb0 hH (As := [.int v7_66]) (rest := []) (k_X10_slotsOf l E K H.size a17 v7_66 q22.2 ha17.2 hq24) (gV m4_164 m4_165 m4_166 m1_12 m4_167) hd_X10_slotsOf ⟨Nat.le_of_ble_eq_true rfl, Nat.le_of_ble_eq_true rfl, rfl, rfl⟩ ha17.1 ha17.2 rfl rfl rfl hl.1 rfl rc0 rfl dX6_lookAtDay_104 ⟨Nat.zero_le _, Nat.zero_le _⟩ (fun H locs hH => ?_)
          refine lv_istore (i := 9) (lv' := [(9, .int (q24.1)), (8, rv E (aR q15.2 a18.1 j19)), (1, rv E v1_66), (2, .int v2_66), (3, .int v3_66), (4, .int v4_66), (5, rv E v5_66), (6, .int v6_66), (7, .int v7_66), (0, rv E (some o))]) hx hb dX6_lookAtDay_107 hl (by decide) (by simp [List.filter_cons, cat_q, cat_i, cat_j, imax, imin]) (fun ls hl => ?_)
          refine hl_aload_n hx hb dX6_lookAtDay_109 rfl (lv_at hl 9 rfl) ?_
          refine g6_0 hx hb hts hown hKs hH rfl ho m2_156 dX6_lookAtDay_110 ?_
          refine hl_aload hx hb dX6_lookAtDay_113 (lv_at hl 1 rfl) ?_
          refine gn7_4 hx hb hts hown hKs hH ha21.1 ha21.2 m2_83 dX6_lookAtDay_115 ?_
          refine lv_iload hx hb dX6_lookAtDay_118 (lv_at hl 0 rfl) ?_
          obtain ⟨q25, hq25, hf⟩ := bnd hf
          refine hcS_v hx hb hml hown hts hKs hT hb0 hH (As := [rv E (wR q24.2 600 o), .int ((wI q24.2 704 a21)), .int (q24.1)]) (rest := []) (k_X6_take l E K H.size (wR q24.2 600 o) (wI q24.2 704 a21) q24.1 q24.2 hq25) (gS m4_168 m4_169 m1_14 m4_170) hs_X6_take ⟨Nat.le_of_ble_eq_true rfl, Nat.le_of_ble_eq_true rfl, rfl, rfl⟩ hl.1 rfl rc0 rfl dX6_lookAtDay_120 ⟨Nat.zero_le _, Nat.zero_le _⟩ (fun H locs hH => ?_)
          refine hl_aload_n hx hb dX6_lookAtDay_123 rfl (lv_at hl 9 rfl) ?_
          refine g6_1 hx hb hts hown hKs hH rfl ho m2_157 dX6_lookAtDay_124 ?_
          refine hl_aload hx hb dX6_lookAtDay_127 (lv_at hl 1 rfl) ?_
          refine gn7_5 hx hb hts hown hKs hH ha21.1 ha21.2 m2_87 dX6_lookAtDay_129 ?_
          refine lv_iload hx hb dX6_lookAtDay_132 (lv_at hl 0 rfl) ?_
          obtain ⟨q26, hq26, hf⟩ := bnd hf
          refine hcS_v hx hb hml hown hts hKs hT hb0 hH (As := [rv E (wR q25 601 o), .int ((wI q25 705 a21)), .int (q24.1)]) (rest := []) (k_X6_take l E K H.size (wR q25 601 o) (wI q25 705 a21) q24.1 q25 hq26) (gS m4_168 m4_169 m1_14 m4_170) hs_X6_take ⟨Nat.le_of_ble_eq_true rfl, Nat.le_of_ble_eq_true rfl, rfl, rfl⟩ hl.1 rfl rc0 rfl dX6_lookAtDay_134 ⟨Nat.zero_le _, Nat.zero_le _⟩ (fun H locs hH => ?_)
          refine hl_aload_n hx hb dX6_lookAtDay_137 rfl (lv_at hl 9 rfl) ?_
          refine lv_dup hx hb dX6_lookAtDay_138 rv_cat ?_
          refine g6_7 hx hb hts hown hKs hH rfl ho m2_163 dX6_lookAtDay_139 ?_
          refine lv_iload hx hb dX6_lookAtDay_142 (lv_at hl 7 rfl) ?_
          refine hl_aload hx hb dX6_lookAtDay_144 (lv_at hl 6 rfl) ?_
          refine gn9_9 hx hb hts hown hKs hH ha14.1 ha14.2 m1_176 dX6_lookAtDay_146 ?_
          refine lv_iload hx hb dX6_lookAtDay_149 (lv_at hl 8 rfl) ?_
          obtain ⟨a27, ha27, hf⟩ := bnd hf
          replace ha27 := cha_some ha27
          obtain ⟨j28, hj28, hf⟩ := bnd hf
          refine hw_aald25 hx hb hKs hH ha27.1 ha27.2 hj28 dX6_lookAtDay_151 ?_
          obtain ⟨a29, ha29, hf⟩ := bnd hf
          replace ha29 := chk_some ha29
          refine gn3_4 hx hb hts hown hKs hH ha29.1 ha29.2 m1_108 dX6_lookAtDay_152 ?_
          refine lv_iand hx hb dX6_lookAtDay_155 ?_
          refine lv_if_eq (tgt := 164) hx hb dX6_lookAtDay_156 (by decide) (fun c30 => ?_) (fun c30 => ?_)
          · replace hf := (if_pos c30).symm.trans hf
            refine lv_iconst (v := 0) hx hb dX6_lookAtDay_164 (by decide) ?_
            refine lv_ior hx hb dX6_lookAtDay_165 ?_
            obtain ⟨w31, hw31, hf⟩ := bnd hf
            replace hw31 := Option.some.inj hw31
            refine p6_7 (v := ((wI q26 607 o) ||| 0)) hx hb hts hown hKs hH rfl ho m2_163 dX6_lookAtDay_166 (fun H locs hH => ?_)
            rw [hw31] at hH
            refine lv_iinc (v := (v7_66 + 1)) (lv' := [(7, .int ((v7_66 + 1))), (9, .int (q24.1)), (8, rv E (aR q15.2 a18.1 j19)), (1, rv E v1_66), (2, .int v2_66), (3, .int v3_66), (4, .int v4_66), (5, rv E v5_66), (6, .int v6_66), (0, rv E (some o))]) hx hb dX6_lookAtDay_169 hl (k := 8) rfl rfl (by decide) rfl (fun ls hl => ?_)
            refine lv_goto (tgt := 66) hx hb dX6_lookAtDay_172 (by decide) ?_
            exact ih v1_66 v2_66 v3_66 v4_66 v5_66 v6_66 (v7_66 + 1) _ _ _ _ hH (lv_sub hl [3, 4, 5, 6, 7, 8, 0, 9] rfl) hf
          · replace hf := (if_neg c30).symm.trans hf
            refine lv_iload hx hb dX6_lookAtDay_159 (lv_at hl 0 rfl) ?_
            refine lv_goto (tgt := 165) hx hb dX6_lookAtDay_161 (by decide) ?_
            refine lv_ior hx hb dX6_lookAtDay_165 ?_
            obtain ⟨w32, hw32, hf⟩ := bnd hf
            replace hw32 := Option.some.inj hw32
            refine p6_7 (v := ((wI q26 607 o) ||| q24.1)) hx hb hts hown hKs hH rfl ho m2_163 dX6_lookAtDay_166 (fun H locs hH => ?_)
            rw [hw32] at hH
            refine lv_iinc (v := (v7_66 + 1)) (lv' := [(7, .int ((v7_66 + 1))), (9, .int (q24.1)), (8, rv E (aR q15.2 a18.1 j19)), (1, rv E v1_66), (2, .int v2_66), (3, .int v3_66), (4, .int v4_66), (5, rv E v5_66), (6, .int v6_66), (0, rv E (some o))]) hx hb dX6_lookAtDay_169 hl (k := 8) rfl rfl (by decide) rfl (fun ls hl => ?_)
            refine lv_goto (tgt := 66) hx hb dX6_lookAtDay_172 (by decide) ?_
            exact ih v1_66 v2_66 v3_66 v4_66 v5_66 v6_66 (v7_66 + 1) _ _ _ _ hH (lv_sub hl [3, 4, 5, 6, 7, 8, 0, 9] rfl) hf
set_option maxHeartbeats 4000000 in
set_option maxRecDepth 100000 in
theorem k_X6_lookAtDay (l : Launch) (E : Ev) (K : Kd) (z : Nat) (o : Nat) (a_1 : Option Nat) (a_2 : Int32) (a_3 : Int32) (a_4 : Int32) (w : Wd) (ho : K o = some (5, 0)) {w' : Wd} (hf : f_X6_lookAtDay K o a_1 a_2 a_3 a_4 w = some w') : Met l yX6_lookAtDay (Cond.code yX6_lookAtDay cX6_lookAtDay 10 (Option.none : Option Jvm.ClassFile.FieldType) :: bt) ({ frames := 2, cells := 0, slots := 0, locals := 47 } : Room) (va_Pc [rv E (some o), rv E a_1, .int a_2, .int a_3, .int a_4] (HB E K w z)) (QV E K z w') 0 0 (hA E) := by
  refine Met.ofW (cc := cX6_lookAtDay) (maxL := 10) (ret := (Option.none : Option Jvm.ClassFile.FieldType)) (by decide) rfl ?_
  intro p e s m args below meth c s₁ B hml hv
  obtain ⟨rfl, hz, hP, hKs, hT, hb0⟩ := hv
  have C : CX p l e s m _ meth c cX6_lookAtDay 10 RX6 (Option.none : Option Jvm.ClassFile.FieldType) E := ⟨B.exec, B.bytes, hml, findClass_of_methodNamed B.named, fun w h => atoms_spec (ws := Cond.code yX6_lookAtDay cX6_lookAtDay 10 (Option.none : Option Jvm.ClassFile.FieldType) :: bt) B.pre w (List.mem_cons_of_mem _ h), hKs, hT, by rw [hz]; exact hb0, B.notSynchronized, B.returns⟩
  have hH : HQ E K z w s s.heap [] := ⟨hP, va_S.rf, hz⟩
  obtain ⟨hx, hb, hml, hown, hts, hKs, hT, hb0, hlocks, hret⟩ := id C
  have hl := lv_entry [rv E (some o), rv E a_1, .int a_2, .int a_3, .int a_4] (n := 10) (by simp [lg_len_nil, lg_len_i, lg_len_j, lg_len_q, lg_len_f, lg_len_d, lg_len_r])
  rw [lg_entry_eq]
  generalize (lg_sl [rv E (some o), rv E a_1, .int a_2, .int a_3, .int a_4] ++ List.replicate (10 - (lg_sl [rv E (some o), rv E a_1, .int a_2, .int a_3, .int a_4]).length) Slot.unset).toArray = ls at hl ⊢
  replace hl : lv_has ls 10 [(0, rv E (some o)), (1, rv E a_1), (2, .int a_2), (3, .int a_3), (4, .int a_4)] := by simpa only [lv_args, cat_q, cat_i, cat_j, reduceIte, Nat.reduceEqDiff, Nat.reduceAdd, Nat.zero_add] using hl
  generalize s.heap = H at hH ⊢
  unfold f_X6_lookAtDay at hf
  refine hl_aload_n hx hb dX6_lookAtDay_0 rfl (lv_at hl 1 rfl) ?_
  obtain ⟨a1, ha1, hf⟩ := bnd hf
  replace ha1 := chk_some ha1
  refine gn10_0 hx hb hts hown hKs hH ha1.1 ha1.2 m2_120 dX6_lookAtDay_1 ?_
  refine hl_astore (i := 5) (lv' := [(5, rv E (wR w 1000 a1)), (0, rv E (some o)), (1, rv E a_1), (2, .int a_2), (3, .int a_3), (4, .int a_4)]) hx hb dX6_lookAtDay_4 hl (by decide) rfl (fun ls hl => ?_)
  refine hl_aload hx hb dX6_lookAtDay_6 (lv_at hl 0 rfl) ?_
  obtain ⟨a2, ha2, hf⟩ := bnd hf
  replace ha2 := chk_some ha2
  refine gn9_9 hx hb hts hown hKs hH ha2.1 ha2.2 m1_176 dX6_lookAtDay_8 ?_
  refine lv_iload_n hx hb dX6_lookAtDay_11 rfl (lv_at hl 3 rfl) ?_
  obtain ⟨a3, ha3, hf⟩ := bnd hf
  replace ha3 := cha_some ha3
  obtain ⟨j4, hj4, hf⟩ := bnd hf
  refine hw_aald25 hx hb hKs hH ha3.1 ha3.2 hj4 dX6_lookAtDay_12 ?_
  obtain ⟨a5, ha5, hf⟩ := bnd hf
  replace ha5 := chk_some ha5
  refine gn3_4 hx hb hts hown hKs hH ha5.1 ha5.2 m1_108 dX6_lookAtDay_13 ?_
  refine lv_istore (i := 6) (lv' := [(6, .int ((wI w 304 a5))), (5, rv E (wR w 1000 a1)), (0, rv E (some o)), (1, rv E a_1), (2, .int a_2), (3, .int a_3), (4, .int a_4)]) hx hb dX6_lookAtDay_16 hl (by decide) (by simp [List.filter_cons, cat_q, cat_i, cat_j, imax, imin]) (fun ls hl => ?_)
  refine hl_aload_n hx hb dX6_lookAtDay_18 rfl (lv_at hl 2 rfl) ?_
  refine g6_0 hx hb hts hown hKs hH rfl ho m2_156 dX6_lookAtDay_19 ?_
  refine lv_iconst (v := 0) hx hb dX6_lookAtDay_22 (by decide) ?_
  obtain ⟨q6, hq6, hf⟩ := bnd hf
  refine hcS_v hx hb hml hown hts hKs hT hb0 hH (As := [rv E (wR w 600 o), .int 0]) (rest := []) (k_J7_fill_53178 l E K H.size (wR w 600 o) 0 w hq6) (gS m4_146 m1_143 m1_7 m1_144) hs_J7_fill_53178 ⟨Nat.le_of_ble_eq_true rfl, Nat.le_of_ble_eq_true rfl, rfl, rfl⟩ hl.1 rfl rc0 rfl dX6_lookAtDay_23 ⟨Nat.zero_le _, Nat.zero_le _⟩ (fun H locs hH => ?_)
  refine hl_aload_n hx hb dX6_lookAtDay_26 rfl (lv_at hl 2 rfl) ?_
  refine g6_1 hx hb hts hown hKs hH rfl ho m2_157 dX6_lookAtDay_27 ?_
  refine lv_iconst (v := 0) hx hb dX6_lookAtDay_30 (by decide) ?_
  obtain ⟨q7, hq7, hf⟩ := bnd hf
  refine hcS_v hx hb hml hown hts hKs hT hb0 hH (As := [rv E (wR q6 601 o), .int 0]) (rest := []) (k_J7_fill_53178 l E K H.size (wR q6 601 o) 0 q6 hq7) (gS m4_146 m1_143 m1_7 m1_144) hs_J7_fill_53178 ⟨Nat.le_of_ble_eq_true rfl, Nat.le_of_ble_eq_true rfl, rfl, rfl⟩ hl.1 rfl rc0 rfl dX6_lookAtDay_31 ⟨Nat.zero_le _, Nat.zero_le _⟩ (fun H locs hH => ?_)
  refine hl_aload_n hx hb dX6_lookAtDay_34 rfl (lv_at hl 2 rfl) ?_
  refine lv_iconst (v := 0) hx hb dX6_lookAtDay_35 (by decide) ?_
  obtain ⟨w8, hw8, hf⟩ := bnd hf
  replace hw8 := Option.some.inj hw8
  refine p6_7 (v := 0) hx hb hts hown hKs hH rfl ho m2_163 dX6_lookAtDay_36 (fun H locs hH => ?_)
  rw [hw8] at hH
  refine hl_aload_n hx hb dX6_lookAtDay_39 rfl (lv_at hl 2 rfl) ?_
  refine lv_iload hx hb dX6_lookAtDay_40 (lv_at hl 6 rfl) ?_
  refine hl_aload hx hb dX6_lookAtDay_42 (lv_at hl 1 rfl) ?_
  refine lv_iload_n hx hb dX6_lookAtDay_44 rfl (lv_at hl 5 rfl) ?_
  obtain ⟨q9, hq9, hf⟩ := bnd hf
  refine hcV_i hx hb hml hown hts hKs hT hb0 hH (As := [.int a_3]) (rest := [.int a_4, rv E (some o)]) (k_X9_awayOfficers l E K H.size a2 a_3 w8 ha2.2 hq9) (gV m4_147 m4_148 m4_149 m1_2 m4_150) hd_X9_awayOfficers ⟨Nat.le_of_ble_eq_true rfl, Nat.le_of_ble_eq_true rfl, rfl, rfl⟩ ha2.1 ha2.2 rfl rfl rfl hl.1 rfl (rcI (rcV rc0)) rfl dX6_lookAtDay_45 ⟨Nat.zero_le _, Nat.zero_le _⟩ (fun H locs hH => ?_)
  refine lv_ior hx hb dX6_lookAtDay_48 ?_
  obtain ⟨w10, hw10, hf⟩ := bnd hf
  replace hw10 := Option.some.inj hw10
  refine p6_5 (v := (a_4 ||| q9.1)) hx hb hts hown hKs hH rfl ho m2_161 dX6_lookAtDay_49 (fun H locs hH => ?_)
  rw [hw10] at hH
  refine hl_aload_n hx hb dX6_lookAtDay_52 rfl (lv_at hl 2 rfl) ?_
  refine hl_aload_n hx hb dX6_lookAtDay_53 rfl (lv_at hl 3 rfl) ?_
  refine lv_iload hx hb dX6_lookAtDay_54 (lv_at hl 0 rfl) ?_
  refine lv_iload_n hx hb dX6_lookAtDay_56 rfl (lv_at hl 5 rfl) ?_
  obtain ⟨q11, hq11, hf⟩ := bnd hf
  refine hcV_i hx hb hml hown hts hKs hT hb0 hH (As := [.int ((wI w 304 a5)), .int a_3]) (rest := [rv E (some o)]) (k_X10_slotsOutside l E K H.size a1 (wI w 304 a5) a_3 w10 ha1.2 hq11) (gV m4_155 m4_156 m4_157 m1_12 m4_158) hd_X10_slotsOutside ⟨Nat.le_of_ble_eq_true rfl, Nat.le_of_ble_eq_true rfl, rfl, rfl⟩ ha1.1 ha1.2 rfl rfl rfl hl.1 rfl (rcV rc0) rfl dX6_lookAtDay_57 ⟨Nat.zero_le _, Nat.zero_le _⟩ (fun H locs hH => ?_)
  obtain ⟨w12, hw12, hf⟩ := bnd hf
  replace hw12 := Option.some.inj hw12
  refine p6_6 (v := q11.1) hx hb hts hown hKs hH rfl ho m2_162 dX6_lookAtDay_60 (fun H locs hH => ?_)
  rw [hw12] at hH
  refine lv_iconst (v := 0) hx hb dX6_lookAtDay_63 (by decide) ?_
  refine lv_istore (i := 7) (lv' := [(7, .int 0), (6, .int ((wI w 304 a5))), (5, rv E (wR w 1000 a1)), (0, rv E (some o)), (1, rv E a_1), (2, .int a_2), (3, .int a_3), (4, .int a_4)]) hx hb dX6_lookAtDay_64 hl (by decide) rfl (fun ls hl => ?_)
  refine l_X6_lookAtDay_L66  C ho _ (fun v1_66 v2_66 v3_66 v4_66 v5_66 v6_66 v7_66 w13 H locs ls hH hl hf => ?_) fu a_1 a_2 a_3 a_4 (wR w 1000 a1) (wI w 304 a5) 0 w12 _ _ _ hH (lv_sub hl [4, 5, 6, 7, 2, 1, 0, 3] rfl) hf
  exact hw_vret hx hb hret hf hH hlocks dX6_lookAtDay_175

theorem dX7_clear_0 : decode cX7_clear 0 = .ok (.aload_n 0, 1) := by decide +kernel
theorem dX7_clear_1 : decode cX7_clear 1 = .ok (.iconst 0, 1) := by decide +kernel
theorem dX7_clear_2 : decode cX7_clear 2 = .ok (.putfield 15, 3) := by decide +kernel
theorem dX7_clear_5 : decode cX7_clear 5 = .ok (.aload_n 0, 1) := by decide +kernel
theorem dX7_clear_6 : decode cX7_clear 6 = .ok (.iconst 0, 1) := by decide +kernel
theorem dX7_clear_7 : decode cX7_clear 7 = .ok (.putfield 19, 3) := by decide +kernel
theorem dX7_clear_10 : decode cX7_clear 10 = .ok (.aload_n 0, 1) := by decide +kernel
theorem dX7_clear_11 : decode cX7_clear 11 = .ok (.invokevirtual 22, 3) := by decide +kernel
theorem dX7_clear_14 : decode cX7_clear 14 = .ok (.return_, 1) := by decide +kernel
theorem hd_X7_clear : yX7_clear.cls = RX7 ∧ yX7_clear.cls ≠ "java/lang/invoke/MethodHandle" ∧ yX7_clear.cls ≠ "java/lang/invoke/VarHandle" ∧ (parseMethodDescriptor yX7_clear.desc).map (fun d => d.parameters.length) = some 0 := by decide +kernel
theorem hs_X7_clear : yX7_clear.cls ≠ "java/lang/invoke/MethodHandle" ∧ yX7_clear.cls ≠ "java/lang/invoke/VarHandle" ∧ (parseMethodDescriptor yX7_clear.desc).map (fun d => d.parameters.length) = some 0 := by decide +kernel
set_option maxHeartbeats 4000000 in
set_option maxRecDepth 100000 in
theorem k_X7_clear (l : Launch) (E : Ev) (K : Kd) (z : Nat) (o : Nat) (w : Wd) (ho : K o = some (6, 0)) {w' : Wd} (hf : f_X7_clear K o w = some w') : Met l yX7_clear (Cond.code yX7_clear cX7_clear 1 (Option.none : Option Jvm.ClassFile.FieldType) :: bt) ({ frames := 1, cells := 0, slots := 0, locals := 20 } : Room) (va_Pc [rv E (some o)] (HB E K w z)) (QV E K z w') 0 0 (hA E) := by
  refine Met.ofW (cc := cX7_clear) (maxL := 1) (ret := (Option.none : Option Jvm.ClassFile.FieldType)) (by decide) rfl ?_
  intro p e s m args below meth c s₁ B hml hv
  obtain ⟨rfl, hz, hP, hKs, hT, hb0⟩ := hv
  have C : CX p l e s m _ meth c cX7_clear 1 RX7 (Option.none : Option Jvm.ClassFile.FieldType) E := ⟨B.exec, B.bytes, hml, findClass_of_methodNamed B.named, fun w h => atoms_spec (ws := Cond.code yX7_clear cX7_clear 1 (Option.none : Option Jvm.ClassFile.FieldType) :: bt) B.pre w (List.mem_cons_of_mem _ h), hKs, hT, by rw [hz]; exact hb0, B.notSynchronized, B.returns⟩
  have hH : HQ E K z w s s.heap [] := ⟨hP, va_S.rf, hz⟩
  obtain ⟨hx, hb, hml, hown, hts, hKs, hT, hb0, hlocks, hret⟩ := id C
  have hl := lv_entry [rv E (some o)] (n := 1) (by simp [lg_len_nil, lg_len_i, lg_len_j, lg_len_q, lg_len_f, lg_len_d, lg_len_r])
  rw [lg_entry_eq]
  generalize (lg_sl [rv E (some o)] ++ List.replicate (1 - (lg_sl [rv E (some o)]).length) Slot.unset).toArray = ls at hl ⊢
  replace hl : lv_has ls 1 [(0, rv E (some o))] := by simpa only [lv_args, cat_q, cat_i, cat_j, reduceIte, Nat.reduceEqDiff, Nat.reduceAdd, Nat.zero_add] using hl
  generalize s.heap = H at hH ⊢
  unfold f_X7_clear at hf
  refine hl_aload_n hx hb dX7_clear_0 rfl (lv_at hl 0 rfl) ?_
  refine lv_iconst (v := 0) hx hb dX7_clear_1 (by decide) ?_
  obtain ⟨w1, hw1, hf⟩ := bnd hf
  replace hw1 := Option.some.inj hw1
  refine p7_1 (v := 0) hx hb hts hown hKs hH rfl ho m2_72 dX7_clear_2 (fun H locs hH => ?_)
  rw [hw1] at hH
  refine hl_aload_n hx hb dX7_clear_5 rfl (lv_at hl 0 rfl) ?_
  refine lv_iconst (v := 0) hx hb dX7_clear_6 (by decide) ?_
  obtain ⟨w2, hw2, hf⟩ := bnd hf
  replace hw2 := Option.some.inj hw2
  refine p7_6 (v := 0) hx hb hts hown hKs hH rfl ho m2_89 dX7_clear_7 (fun H locs hH => ?_)
  rw [hw2] at hH
  refine hl_aload_n hx hb dX7_clear_10 rfl (lv_at hl 0 rfl) ?_
  obtain ⟨q3, hq3, hf⟩ := bnd hf
  refine hcV_v hx hb hml hown hts hKs hT hb0 hH (As := []) (rest := []) (k_X7_dropHearing l E K H.size o w2 ho hq3) (gV m2_115 m2_116 m2_117 m1_13 m2_118) hd_X7_dropHearing ⟨Nat.le_of_ble_eq_true rfl, Nat.le_of_ble_eq_true rfl, rfl, rfl⟩ rfl ho rfl rfl rfl hl.1 rfl rc0 rfl dX7_clear_11 ⟨Nat.zero_le _, Nat.zero_le _⟩ (fun H locs hH => ?_)
  exact hw_vret hx hb hret hf hH hlocks dX7_clear_14

theorem dX8_advance_0 : decode cX8_advance 0 = .ok (.aload_n 0, 1) := by decide +kernel
theorem dX8_advance_1 : decode cX8_advance 1 = .ok (.getfield 34, 3) := by decide +kernel
theorem dX8_advance_4 : decode cX8_advance 4 = .ok (.aload_n 0, 1) := by decide +kernel
theorem dX8_advance_5 : decode cX8_advance 5 = .ok (.getfield 30, 3) := by decide +kernel
theorem dX8_advance_8 : decode cX8_advance 8 = .ok (.if_icmp .ge 44, 3) := by decide +kernel
theorem dX8_advance_11 : decode cX8_advance 11 = .ok (.aload_n 0, 1) := by decide +kernel
theorem dX8_advance_12 : decode cX8_advance 12 = .ok (.getfield 9, 3) := by decide +kernel
theorem dX8_advance_15 : decode cX8_advance 15 = .ok (.aload_n 0, 1) := by decide +kernel
theorem dX8_advance_16 : decode cX8_advance 16 = .ok (.getfield 34, 3) := by decide +kernel
theorem dX8_advance_19 : decode cX8_advance 19 = .ok (.baload, 1) := by decide +kernel
theorem dX8_advance_20 : decode cX8_advance 20 = .ok (.bipush 32, 2) := by decide +kernel
theorem dX8_advance_22 : decode cX8_advance 22 = .ok (.if_icmp .eq 17, 3) := by decide +kernel
theorem dX8_advance_25 : decode cX8_advance 25 = .ok (.aload_n 0, 1) := by decide +kernel
theorem dX8_advance_26 : decode cX8_advance 26 = .ok (.getfield 9, 3) := by decide +kernel
theorem dX8_advance_29 : decode cX8_advance 29 = .ok (.aload_n 0, 1) := by decide +kernel
theorem dX8_advance_30 : decode cX8_advance 30 = .ok (.getfield 34, 3) := by decide +kernel
theorem dX8_advance_33 : decode cX8_advance 33 = .ok (.baload, 1) := by decide +kernel
theorem dX8_advance_34 : decode cX8_advance 34 = .ok (.bipush 10, 2) := by decide +kernel
theorem dX8_advance_36 : decode cX8_advance 36 = .ok (.if_icmp .ne 16, 3) := by decide +kernel
theorem dX8_advance_39 : decode cX8_advance 39 = .ok (.aload_n 0, 1) := by decide +kernel
theorem dX8_advance_40 : decode cX8_advance 40 = .ok (.dup, 1) := by decide +kernel
theorem dX8_advance_41 : decode cX8_advance 41 = .ok (.getfield 34, 3) := by decide +kernel
theorem dX8_advance_44 : decode cX8_advance 44 = .ok (.iconst 1, 1) := by decide +kernel
theorem dX8_advance_45 : decode cX8_advance 45 = .ok (.iadd, 1) := by decide +kernel
theorem dX8_advance_46 : decode cX8_advance 46 = .ok (.putfield 34, 3) := by decide +kernel
theorem dX8_advance_49 : decode cX8_advance 49 = .ok (.goto (-49), 3) := by decide +kernel
theorem dX8_advance_52 : decode cX8_advance 52 = .ok (.aload_n 0, 1) := by decide +kernel
theorem dX8_advance_53 : decode cX8_advance 53 = .ok (.aload_n 0, 1) := by decide +kernel
theorem dX8_advance_54 : decode cX8_advance 54 = .ok (.getfield 34, 3) := by decide +kernel
theorem dX8_advance_57 : decode cX8_advance 57 = .ok (.putfield 40, 3) := by decide +kernel
theorem dX8_advance_60 : decode cX8_advance 60 = .ok (.aload_n 0, 1) := by decide +kernel
theorem dX8_advance_61 : decode cX8_advance 61 = .ok (.lconst 0, 1) := by decide +kernel
theorem dX8_advance_62 : decode cX8_advance 62 = .ok (.putfield 43, 3) := by decide +kernel
theorem dX8_advance_65 : decode cX8_advance 65 = .ok (.aload_n 0, 1) := by decide +kernel
theorem dX8_advance_66 : decode cX8_advance 66 = .ok (.iconst 0, 1) := by decide +kernel
theorem dX8_advance_67 : decode cX8_advance 67 = .ok (.putfield 47, 3) := by decide +kernel
theorem dX8_advance_70 : decode cX8_advance 70 = .ok (.aload_n 0, 1) := by decide +kernel
theorem dX8_advance_71 : decode cX8_advance 71 = .ok (.getfield 34, 3) := by decide +kernel
theorem dX8_advance_74 : decode cX8_advance 74 = .ok (.aload_n 0, 1) := by decide +kernel
theorem dX8_advance_75 : decode cX8_advance 75 = .ok (.getfield 30, 3) := by decide +kernel
theorem dX8_advance_78 : decode cX8_advance 78 = .ok (.if_icmp .lt 13, 3) := by decide +kernel
theorem dX8_advance_81 : decode cX8_advance 81 = .ok (.aload_n 0, 1) := by decide +kernel
theorem dX8_advance_82 : decode cX8_advance 82 = .ok (.getstatic 15, 3) := by decide +kernel
theorem dX8_advance_85 : decode cX8_advance 85 = .ok (.putfield 21, 3) := by decide +kernel
theorem dX8_advance_88 : decode cX8_advance 88 = .ok (.goto 257, 3) := by decide +kernel
theorem dX8_advance_91 : decode cX8_advance 91 = .ok (.aload_n 0, 1) := by decide +kernel
theorem dX8_advance_92 : decode cX8_advance 92 = .ok (.getfield 9, 3) := by decide +kernel
theorem dX8_advance_95 : decode cX8_advance 95 = .ok (.aload_n 0, 1) := by decide +kernel
theorem dX8_advance_96 : decode cX8_advance 96 = .ok (.getfield 34, 3) := by decide +kernel
theorem dX8_advance_99 : decode cX8_advance 99 = .ok (.baload, 1) := by decide +kernel
theorem dX8_advance_100 : decode cX8_advance 100 = .ok (.invokestatic 50, 3) := by decide +kernel
theorem dX8_advance_103 : decode cX8_advance 103 = .ok (.ifCond .eq 98, 3) := by decide +kernel
theorem dX8_advance_106 : decode cX8_advance 106 = .ok (.aload_n 0, 1) := by decide +kernel
theorem dX8_advance_107 : decode cX8_advance 107 = .ok (.getfield 34, 3) := by decide +kernel
theorem dX8_advance_110 : decode cX8_advance 110 = .ok (.aload_n 0, 1) := by decide +kernel
theorem dX8_advance_111 : decode cX8_advance 111 = .ok (.getfield 30, 3) := by decide +kernel
theorem dX8_advance_114 : decode cX8_advance 114 = .ok (.if_icmp .ge 53, 3) := by decide +kernel
theorem dX8_advance_117 : decode cX8_advance 117 = .ok (.aload_n 0, 1) := by decide +kernel
theorem dX8_advance_118 : decode cX8_advance 118 = .ok (.getfield 9, 3) := by decide +kernel
theorem dX8_advance_121 : decode cX8_advance 121 = .ok (.aload_n 0, 1) := by decide +kernel
theorem dX8_advance_122 : decode cX8_advance 122 = .ok (.getfield 34, 3) := by decide +kernel
theorem dX8_advance_125 : decode cX8_advance 125 = .ok (.baload, 1) := by decide +kernel
theorem dX8_advance_126 : decode cX8_advance 126 = .ok (.invokestatic 50, 3) := by decide +kernel
theorem dX8_advance_129 : decode cX8_advance 129 = .ok (.ifCond .eq 38, 3) := by decide +kernel
theorem dX8_advance_132 : decode cX8_advance 132 = .ok (.aload_n 0, 1) := by decide +kernel
theorem dX8_advance_133 : decode cX8_advance 133 = .ok (.aload_n 0, 1) := by decide +kernel
theorem dX8_advance_134 : decode cX8_advance 134 = .ok (.getfield 43, 3) := by decide +kernel
theorem dX8_advance_137 : decode cX8_advance 137 = .ok (.bipush 8, 2) := by decide +kernel
theorem dX8_advance_139 : decode cX8_advance 139 = .ok (.lshl, 1) := by decide +kernel
theorem dX8_advance_140 : decode cX8_advance 140 = .ok (.aload_n 0, 1) := by decide +kernel
theorem dX8_advance_141 : decode cX8_advance 141 = .ok (.getfield 9, 3) := by decide +kernel
theorem dX8_advance_144 : decode cX8_advance 144 = .ok (.aload_n 0, 1) := by decide +kernel
theorem dX8_advance_145 : decode cX8_advance 145 = .ok (.getfield 34, 3) := by decide +kernel
theorem dX8_advance_148 : decode cX8_advance 148 = .ok (.baload, 1) := by decide +kernel
theorem dX8_advance_149 : decode cX8_advance 149 = .ok (.i2l, 1) := by decide +kernel
theorem dX8_advance_150 : decode cX8_advance 150 = .ok (.lor, 1) := by decide +kernel
theorem dX8_advance_151 : decode cX8_advance 151 = .ok (.putfield 43, 3) := by decide +kernel
theorem dX8_advance_154 : decode cX8_advance 154 = .ok (.aload_n 0, 1) := by decide +kernel
theorem dX8_advance_155 : decode cX8_advance 155 = .ok (.dup, 1) := by decide +kernel
theorem dX8_advance_156 : decode cX8_advance 156 = .ok (.getfield 34, 3) := by decide +kernel
theorem dX8_advance_159 : decode cX8_advance 159 = .ok (.iconst 1, 1) := by decide +kernel
theorem dX8_advance_160 : decode cX8_advance 160 = .ok (.iadd, 1) := by decide +kernel
theorem dX8_advance_161 : decode cX8_advance 161 = .ok (.putfield 34, 3) := by decide +kernel
theorem dX8_advance_164 : decode cX8_advance 164 = .ok (.goto (-58), 3) := by decide +kernel
theorem dX8_advance_167 : decode cX8_advance 167 = .ok (.aload_n 0, 1) := by decide +kernel
theorem dX8_advance_168 : decode cX8_advance 168 = .ok (.aload_n 0, 1) := by decide +kernel
theorem dX8_advance_169 : decode cX8_advance 169 = .ok (.getfield 34, 3) := by decide +kernel
theorem dX8_advance_172 : decode cX8_advance 172 = .ok (.aload_n 0, 1) := by decide +kernel
theorem dX8_advance_173 : decode cX8_advance 173 = .ok (.getfield 40, 3) := by decide +kernel
theorem dX8_advance_176 : decode cX8_advance 176 = .ok (.isub, 1) := by decide +kernel
theorem dX8_advance_177 : decode cX8_advance 177 = .ok (.bipush 8, 2) := by decide +kernel
theorem dX8_advance_179 : decode cX8_advance 179 = .ok (.if_icmp .le 9, 3) := by decide +kernel
theorem dX8_advance_182 : decode cX8_advance 182 = .ok (.getstatic 54, 3) := by decide +kernel
theorem dX8_advance_185 : decode cX8_advance 185 = .ok (.goto 10, 3) := by decide +kernel
theorem dX8_advance_188 : decode cX8_advance 188 = .ok (.aload_n 0, 1) := by decide +kernel
theorem dX8_advance_189 : decode cX8_advance 189 = .ok (.getfield 43, 3) := by decide +kernel
theorem dX8_advance_192 : decode cX8_advance 192 = .ok (.invokestatic 57, 3) := by decide +kernel
theorem dX8_advance_195 : decode cX8_advance 195 = .ok (.putfield 21, 3) := by decide +kernel
theorem dX8_advance_198 : decode cX8_advance 198 = .ok (.goto 147, 3) := by decide +kernel
theorem dX8_advance_201 : decode cX8_advance 201 = .ok (.aload_n 0, 1) := by decide +kernel
theorem dX8_advance_202 : decode cX8_advance 202 = .ok (.getfield 9, 3) := by decide +kernel
theorem dX8_advance_205 : decode cX8_advance 205 = .ok (.aload_n 0, 1) := by decide +kernel
theorem dX8_advance_206 : decode cX8_advance 206 = .ok (.getfield 34, 3) := by decide +kernel
theorem dX8_advance_209 : decode cX8_advance 209 = .ok (.baload, 1) := by decide +kernel
theorem dX8_advance_210 : decode cX8_advance 210 = .ok (.invokestatic 61, 3) := by decide +kernel
theorem dX8_advance_213 : decode cX8_advance 213 = .ok (.ifCond .eq 95, 3) := by decide +kernel
theorem dX8_advance_216 : decode cX8_advance 216 = .ok (.aload_n 0, 1) := by decide +kernel
theorem dX8_advance_217 : decode cX8_advance 217 = .ok (.getfield 34, 3) := by decide +kernel
theorem dX8_advance_220 : decode cX8_advance 220 = .ok (.aload_n 0, 1) := by decide +kernel
theorem dX8_advance_221 : decode cX8_advance 221 = .ok (.getfield 30, 3) := by decide +kernel
theorem dX8_advance_224 : decode cX8_advance 224 = .ok (.if_icmp .ge 55, 3) := by decide +kernel
theorem dX8_advance_227 : decode cX8_advance 227 = .ok (.aload_n 0, 1) := by decide +kernel
theorem dX8_advance_228 : decode cX8_advance 228 = .ok (.getfield 9, 3) := by decide +kernel
theorem dX8_advance_231 : decode cX8_advance 231 = .ok (.aload_n 0, 1) := by decide +kernel
theorem dX8_advance_232 : decode cX8_advance 232 = .ok (.getfield 34, 3) := by decide +kernel
theorem dX8_advance_235 : decode cX8_advance 235 = .ok (.baload, 1) := by decide +kernel
theorem dX8_advance_236 : decode cX8_advance 236 = .ok (.invokestatic 61, 3) := by decide +kernel
theorem dX8_advance_239 : decode cX8_advance 239 = .ok (.ifCond .eq 40, 3) := by decide +kernel
theorem dX8_advance_242 : decode cX8_advance 242 = .ok (.aload_n 0, 1) := by decide +kernel
theorem dX8_advance_243 : decode cX8_advance 243 = .ok (.aload_n 0, 1) := by decide +kernel
theorem dX8_advance_244 : decode cX8_advance 244 = .ok (.getfield 47, 3) := by decide +kernel
theorem dX8_advance_247 : decode cX8_advance 247 = .ok (.bipush 10, 2) := by decide +kernel
theorem dX8_advance_249 : decode cX8_advance 249 = .ok (.imul, 1) := by decide +kernel
theorem dX8_advance_250 : decode cX8_advance 250 = .ok (.aload_n 0, 1) := by decide +kernel
theorem dX8_advance_251 : decode cX8_advance 251 = .ok (.getfield 9, 3) := by decide +kernel
theorem dX8_advance_254 : decode cX8_advance 254 = .ok (.aload_n 0, 1) := by decide +kernel
theorem dX8_advance_255 : decode cX8_advance 255 = .ok (.getfield 34, 3) := by decide +kernel
theorem dX8_advance_258 : decode cX8_advance 258 = .ok (.baload, 1) := by decide +kernel
theorem dX8_advance_259 : decode cX8_advance 259 = .ok (.bipush 48, 2) := by decide +kernel
theorem dX8_advance_261 : decode cX8_advance 261 = .ok (.isub, 1) := by decide +kernel
theorem dX8_advance_262 : decode cX8_advance 262 = .ok (.iadd, 1) := by decide +kernel
theorem dX8_advance_263 : decode cX8_advance 263 = .ok (.putfield 47, 3) := by decide +kernel
theorem dX8_advance_266 : decode cX8_advance 266 = .ok (.aload_n 0, 1) := by decide +kernel
theorem dX8_advance_267 : decode cX8_advance 267 = .ok (.dup, 1) := by decide +kernel
theorem dX8_advance_268 : decode cX8_advance 268 = .ok (.getfield 34, 3) := by decide +kernel
theorem dX8_advance_271 : decode cX8_advance 271 = .ok (.iconst 1, 1) := by decide +kernel
theorem dX8_advance_272 : decode cX8_advance 272 = .ok (.iadd, 1) := by decide +kernel
theorem dX8_advance_273 : decode cX8_advance 273 = .ok (.putfield 34, 3) := by decide +kernel
theorem dX8_advance_276 : decode cX8_advance 276 = .ok (.goto (-60), 3) := by decide +kernel
theorem dX8_advance_279 : decode cX8_advance 279 = .ok (.aload_n 0, 1) := by decide +kernel
theorem dX8_advance_280 : decode cX8_advance 280 = .ok (.aload_n 0, 1) := by decide +kernel
theorem dX8_advance_281 : decode cX8_advance 281 = .ok (.getfield 34, 3) := by decide +kernel
theorem dX8_advance_284 : decode cX8_advance 284 = .ok (.aload_n 0, 1) := by decide +kernel
theorem dX8_advance_285 : decode cX8_advance 285 = .ok (.getfield 40, 3) := by decide +kernel
theorem dX8_advance_288 : decode cX8_advance 288 = .ok (.isub, 1) := by decide +kernel
theorem dX8_advance_289 : decode cX8_advance 289 = .ok (.iconst 3, 1) := by decide +kernel
theorem dX8_advance_290 : decode cX8_advance 290 = .ok (.if_icmp .le 9, 3) := by decide +kernel
theorem dX8_advance_293 : decode cX8_advance 293 = .ok (.getstatic 54, 3) := by decide +kernel
theorem dX8_advance_296 : decode cX8_advance 296 = .ok (.goto 6, 3) := by decide +kernel
theorem dX8_advance_299 : decode cX8_advance 299 = .ok (.getstatic 64, 3) := by decide +kernel
theorem dX8_advance_302 : decode cX8_advance 302 = .ok (.putfield 21, 3) := by decide +kernel
theorem dX8_advance_305 : decode cX8_advance 305 = .ok (.goto 40, 3) := by decide +kernel
theorem dX8_advance_308 : decode cX8_advance 308 = .ok (.aload_n 0, 1) := by decide +kernel
theorem dX8_advance_309 : decode cX8_advance 309 = .ok (.aload_n 0, 1) := by decide +kernel
theorem dX8_advance_310 : decode cX8_advance 310 = .ok (.getfield 9, 3) := by decide +kernel
theorem dX8_advance_313 : decode cX8_advance 313 = .ok (.aload_n 0, 1) := by decide +kernel
theorem dX8_advance_314 : decode cX8_advance 314 = .ok (.getfield 34, 3) := by decide +kernel
theorem dX8_advance_317 : decode cX8_advance 317 = .ok (.baload, 1) := by decide +kernel
theorem dX8_advance_318 : decode cX8_advance 318 = .ok (.bipush 59, 2) := by decide +kernel
theorem dX8_advance_320 : decode cX8_advance 320 = .ok (.if_icmp .ne 9, 3) := by decide +kernel
theorem dX8_advance_323 : decode cX8_advance 323 = .ok (.getstatic 67, 3) := by decide +kernel
theorem dX8_advance_326 : decode cX8_advance 326 = .ok (.goto 6, 3) := by decide +kernel
theorem dX8_advance_329 : decode cX8_advance 329 = .ok (.getstatic 54, 3) := by decide +kernel
theorem dX8_advance_332 : decode cX8_advance 332 = .ok (.putfield 21, 3) := by decide +kernel
theorem dX8_advance_335 : decode cX8_advance 335 = .ok (.aload_n 0, 1) := by decide +kernel
theorem dX8_advance_336 : decode cX8_advance 336 = .ok (.dup, 1) := by decide +kernel
theorem dX8_advance_337 : decode cX8_advance 337 = .ok (.getfield 34, 3) := by decide +kernel
theorem dX8_advance_340 : decode cX8_advance 340 = .ok (.iconst 1, 1) := by decide +kernel
theorem dX8_advance_341 : decode cX8_advance 341 = .ok (.iadd, 1) := by decide +kernel
theorem dX8_advance_342 : decode cX8_advance 342 = .ok (.putfield 34, 3) := by decide +kernel
theorem dX8_advance_345 : decode cX8_advance 345 = .ok (.return_, 1) := by decide +kernel
theorem hd_X8_advance : yX8_advance.cls = RX8 ∧ yX8_advance.cls ≠ "java/lang/invoke/MethodHandle" ∧ yX8_advance.cls ≠ "java/lang/invoke/VarHandle" ∧ (parseMethodDescriptor yX8_advance.desc).map (fun d => d.parameters.length) = some 0 := by decide +kernel
theorem hs_X8_advance : yX8_advance.cls ≠ "java/lang/invoke/MethodHandle" ∧ yX8_advance.cls ≠ "java/lang/invoke/VarHandle" ∧ (parseMethodDescriptor yX8_advance.desc).map (fun d => d.parameters.length) = some 0 := by decide +kernel
set_option maxHeartbeats 4000000 in
set_option maxRecDepth 100000 in
theorem l_X8_advance_L0 (C : CX p l e s m args meth c cX8_advance 1 RX8 (Option.none : Option Jvm.ClassFile.FieldType) E) {o : Nat} (ho : K o = some (7, 0)) {w' : Wd} (k : Wd → Option Wd) (hk : ∀ (w : Wd) (H : Heap) (locs : List Loc) (ls : Array Slot), HQ E K z w s H locs → lv_has ls 1 [(0, rv E (some o))] → k w = some w' → W p l e ({ frames := 1, cells := 0, slots := 0, locals := 22 } : Room) s m args below meth c H locs 0 0 (MQ below (QV E K z w') args s 0 0 (hA E)) (F0 m 52 ls [])) : ∀ (n : Nat) (w : Wd) (H : Heap) (locs : List Loc) (ls : Array Slot), HQ E K z w s H locs → lv_has ls 1 [(0, rv E (some o))] → f_X8_advance_L0 K o k n w = some w' → W p l e ({ frames := 1, cells := 0, slots := 0, locals := 22 } : Room) s m args below meth c H locs 0 0 (MQ below (QV E K z w') args s 0 0 (hA E)) (F0 m 0 ls []) := by
  obtain ⟨hx, hb, hml, hown, hts, hKs, hT, hb0, hlocks, hret⟩ := id C
  intro n
  induction n with
  | zero =>
    intro w H locs ls hH hl hf
    cases hf
  | succ n ih =>
    intro w H locs ls hH hl hf
    rw [f_X8_advance_L0] at hf
    refine hl_aload_n hx hb dX8_advance_0 rfl (lv_at hl 0 rfl) ?_
    refine g8_3 hx hb hts hown hKs hH rfl ho m2_5 dX8_advance_1 ?_
    refine hl_aload_n hx hb dX8_advance_4 rfl (lv_at hl 0 rfl) ?_
    refine g8_1 hx hb hts hown hKs hH rfl ho m2_2 dX8_advance_5 ?_
    refine lv_icmp_ge (tgt := 52) hx hb dX8_advance_8 (by decide) (fun c2 => ?_) (fun c2 => ?_)
    · replace hf := (if_pos c2).symm.trans hf
      exact hk _ _ _ _ hH (lv_sub hl [0] rfl) hf
    · replace hf := (if_neg c2).symm.trans hf
      refine hl_aload_n hx hb dX8_advance_11 rfl (lv_at hl 0 rfl) ?_
      refine g8_0 hx hb hts hown hKs hH rfl ho m2_1 dX8_advance_12 ?_
      refine hl_aload_n hx hb dX8_advance_15 rfl (lv_at hl 0 rfl) ?_
      refine g8_3 hx hb hts hown hKs hH rfl ho m2_5 dX8_advance_16 ?_
      obtain ⟨a3, ha3, hf⟩ := bnd hf
      replace ha3 := cha_some ha3
      obtain ⟨j4, hj4, hf⟩ := bnd hf
      refine hw_bald hx hb hKs hH ha3.1 ha3.2 hj4 dX8_advance_19 ?_
      refine lv_bipush (v := 32) hx hb dX8_advance_20 (by decide) ?_
      refine lv_icmp_eq (tgt := 39) hx hb dX8_advance_22 (by decide) (fun c5 => ?_) (fun c5 => ?_)
      · replace hf := (if_pos c5).symm.trans hf
        refine hl_aload_n hx hb dX8_advance_39 rfl (lv_at hl 0 rfl) ?_
        refine lv_dup hx hb dX8_advance_40 rv_cat ?_
        refine g8_3 hx hb hts hown hKs hH rfl ho m2_5 dX8_advance_41 ?_
        refine lv_iconst (v := 1) hx hb dX8_advance_44 (by decide) ?_
        refine lv_iadd hx hb dX8_advance_45 ?_
        obtain ⟨w6, hw6, hf⟩ := bnd hf
        replace hw6 := Option.some.inj hw6
        refine p8_3 (v := ((wI w 803 o) + 1)) hx hb hts hown hKs hH rfl ho m2_5 dX8_advance_46 (fun H locs hH => ?_)
        rw [hw6] at hH
        refine lv_goto (tgt := 0) hx hb dX8_advance_49 (by decide) ?_
        exact ih _ _ _ _ hH (lv_sub hl [0] rfl) hf
      · replace hf := (if_neg c5).symm.trans hf
        refine hl_aload_n hx hb dX8_advance_25 rfl (lv_at hl 0 rfl) ?_
        refine g8_0 hx hb hts hown hKs hH rfl ho m2_1 dX8_advance_26 ?_
        refine hl_aload_n hx hb dX8_advance_29 rfl (lv_at hl 0 rfl) ?_
        refine g8_3 hx hb hts hown hKs hH rfl ho m2_5 dX8_advance_30 ?_
        obtain ⟨j7, hj7, hf⟩ := bnd hf
        refine hw_bald hx hb hKs hH ha3.1 ha3.2 hj7 dX8_advance_33 ?_
        refine lv_bipush (v := 10) hx hb dX8_advance_34 (by decide) ?_
        refine lv_icmp_ne (tgt := 52) hx hb dX8_advance_36 (by decide) (fun c8 => ?_) (fun c8 => ?_)
        · replace hf := (if_neg c8).symm.trans hf
          exact hk _ _ _ _ hH (lv_sub hl [0] rfl) hf
        · replace hf := (if_pos c8).symm.trans hf
          refine hl_aload_n hx hb dX8_advance_39 rfl (lv_at hl 0 rfl) ?_
          refine lv_dup hx hb dX8_advance_40 rv_cat ?_
          refine g8_3 hx hb hts hown hKs hH rfl ho m2_5 dX8_advance_41 ?_
          refine lv_iconst (v := 1) hx hb dX8_advance_44 (by decide) ?_
          refine lv_iadd hx hb dX8_advance_45 ?_
          obtain ⟨w9, hw9, hf⟩ := bnd hf
          replace hw9 := Option.some.inj hw9
          refine p8_3 (v := ((wI w 803 o) + 1)) hx hb hts hown hKs hH rfl ho m2_5 dX8_advance_46 (fun H locs hH => ?_)
          rw [hw9] at hH
          refine lv_goto (tgt := 0) hx hb dX8_advance_49 (by decide) ?_
          exact ih _ _ _ _ hH (lv_sub hl [0] rfl) hf
set_option maxHeartbeats 4000000 in
set_option maxRecDepth 100000 in
theorem l_X8_advance_L216 (C : CX p l e s m args meth c cX8_advance 1 RX8 (Option.none : Option Jvm.ClassFile.FieldType) E) {o : Nat} (ho : K o = some (7, 0)) {w' : Wd} (k : Wd → Option Wd) (hk : ∀ (w : Wd) (H : Heap) (locs : List Loc) (ls : Array Slot), HQ E K z w s H locs → lv_has ls 1 [(0, rv E (some o))] → k w = some w' → W p l e ({ frames := 1, cells := 0, slots := 0, locals := 22 } : Room) s m args below meth c H locs 0 0 (MQ below (QV E K z w') args s 0 0 (hA E)) (F0 m 279 ls [])) : ∀ (n : Nat) (w : Wd) (H : Heap) (locs : List Loc) (ls : Array Slot), HQ E K z w s H locs → lv_has ls 1 [(0, rv E (some o))] → f_X8_advance_L216 K o k n w = some w' → W p l e ({ frames := 1, cells := 0, slots := 0, locals := 22 } : Room) s m args below meth c H locs 0 0 (MQ below (QV E K z w') args s 0 0 (hA E)) (F0 m 216 ls []) := by
  obtain ⟨hx, hb, hml, hown, hts, hKs, hT, hb0, hlocks, hret⟩ := id C
  intro n
  induction n with
  | zero =>
    intro w H locs ls hH hl hf
    cases hf
  | succ n ih =>
    intro w H locs ls hH hl hf
    rw [f_X8_advance_L216] at hf
    refine hl_aload_n hx hb dX8_advance_216 rfl (lv_at hl 0 rfl) ?_
    refine g8_3 hx hb hts hown hKs hH rfl ho m2_5 dX8_advance_217 ?_
    refine hl_aload_n hx hb dX8_advance_220 rfl (lv_at hl 0 rfl) ?_
    refine g8_1 hx hb hts hown hKs hH rfl ho m2_2 dX8_advance_221 ?_
    refine lv_icmp_ge (tgt := 279) hx hb dX8_advance_224 (by decide) (fun c30 => ?_) (fun c30 => ?_)
    · replace hf := (if_pos c30).symm.trans hf
      exact hk _ _ _ _ hH (lv_sub hl [0] rfl) hf
    · replace hf := (if_neg c30).symm.trans hf
      refine hl_aload_n hx hb dX8_advance_227 rfl (lv_at hl 0 rfl) ?_
      refine g8_0 hx hb hts hown hKs hH rfl ho m2_1 dX8_advance_228 ?_
      refine hl_aload_n hx hb dX8_advance_231 rfl (lv_at hl 0 rfl) ?_
      refine g8_3 hx hb hts hown hKs hH rfl ho m2_5 dX8_advance_232 ?_
      obtain ⟨a31, ha31, hf⟩ := bnd hf
      replace ha31 := cha_some ha31
      obtain ⟨j32, hj32, hf⟩ := bnd hf
      refine hw_bald hx hb hKs hH ha31.1 ha31.2 hj32 dX8_advance_235 ?_
      obtain ⟨q33, hq33, hf⟩ := bnd hf
      refine hcS_i hx hb hml hown hts hKs hT hb0 hH (As := [.int ((aI w a31.1 j32))]) (rest := []) (k_X8_isDigit l E K H.size (aI w a31.1 j32) w hq33) (gS m3_72 m3_73 m1_9 m3_74) hs_X8_isDigit ⟨Nat.le_of_ble_eq_true rfl, Nat.le_of_ble_eq_true rfl, rfl, rfl⟩ hl.1 rfl rc0 rfl dX8_advance_236 ⟨Nat.zero_le _, Nat.zero_le _⟩ (fun H locs hH => ?_)
      refine lv_if_eq (tgt := 279) hx hb dX8_advance_239 (by decide) (fun c34 => ?_) (fun c34 => ?_)
      · replace hf := (if_pos c34).symm.trans hf
        exact hk _ _ _ _ hH (lv_sub hl [0] rfl) hf
      · replace hf := (if_neg c34).symm.trans hf
        refine hl_aload_n hx hb dX8_advance_242 rfl (lv_at hl 0 rfl) ?_
        refine hl_aload_n hx hb dX8_advance_243 rfl (lv_at hl 0 rfl) ?_
        refine g8_6 hx hb hts hown hKs hH rfl ho m2_10 dX8_advance_244 ?_
        refine lv_bipush (v := 10) hx hb dX8_advance_247 (by decide) ?_
        refine lv_imul hx hb dX8_advance_249 ?_
        refine hl_aload_n hx hb dX8_advance_250 rfl (lv_at hl 0 rfl) ?_
        refine g8_0 hx hb hts hown hKs hH rfl ho m2_1 dX8_advance_251 ?_
        refine hl_aload_n hx hb dX8_advance_254 rfl (lv_at hl 0 rfl) ?_
        refine g8_3 hx hb hts hown hKs hH rfl ho m2_5 dX8_advance_255 ?_
        obtain ⟨a35, ha35, hf⟩ := bnd hf
        replace ha35 := cha_some ha35
        obtain ⟨j36, hj36, hf⟩ := bnd hf
        refine hw_bald hx hb hKs hH ha35.1 ha35.2 hj36 dX8_advance_258 ?_
        refine lv_bipush (v := 48) hx hb dX8_advance_259 (by decide) ?_
        refine lv_isub hx hb dX8_advance_261 ?_
        refine lv_iadd hx hb dX8_advance_262 ?_
        obtain ⟨w37, hw37, hf⟩ := bnd hf
        replace hw37 := Option.some.inj hw37
        refine p8_6 (v := (((wI q33.2 806 o) * 10) + ((aI q33.2 a35.1 j36) - 48))) hx hb hts hown hKs hH rfl ho m2_10 dX8_advance_263 (fun H locs hH => ?_)
        rw [hw37] at hH
        refine hl_aload_n hx hb dX8_advance_266 rfl (lv_at hl 0 rfl) ?_
        refine lv_dup hx hb dX8_advance_267 rv_cat ?_
        refine g8_3 hx hb hts hown hKs hH rfl ho m2_5 dX8_advance_268 ?_
        refine lv_iconst (v := 1) hx hb dX8_advance_271 (by decide) ?_
        refine lv_iadd hx hb dX8_advance_272 ?_
        obtain ⟨w38, hw38, hf⟩ := bnd hf
        replace hw38 := Option.some.inj hw38
        refine p8_3 (v := ((wI w37 803 o) + 1)) hx hb hts hown hKs hH rfl ho m2_5 dX8_advance_273 (fun H locs hH => ?_)
        rw [hw38] at hH
        refine lv_goto (tgt := 216) hx hb dX8_advance_276 (by decide) ?_
        exact ih _ _ _ _ hH (lv_sub hl [0] rfl) hf
set_option maxHeartbeats 4000000 in
set_option maxRecDepth 100000 in
theorem l_X8_advance_L106 (C : CX p l e s m args meth c cX8_advance 1 RX8 (Option.none : Option Jvm.ClassFile.FieldType) E) {o : Nat} (ho : K o = some (7, 0)) {w' : Wd} (k : Wd → Option Wd) (hk : ∀ (w : Wd) (H : Heap) (locs : List Loc) (ls : Array Slot), HQ E K z w s H locs → lv_has ls 1 [(0, rv E (some o))] → k w = some w' → W p l e ({ frames := 1, cells := 0, slots := 0, locals := 22 } : Room) s m args below meth c H locs 0 0 (MQ below (QV E K z w') args s 0 0 (hA E)) (F0 m 167 ls [])) : ∀ (n : Nat) (w : Wd) (H : Heap) (locs : List Loc) (ls : Array Slot), HQ E K z w s H locs → lv_has ls 1 [(0, rv E (some o))] → f_X8_advance_L106 K o k n w = some w' → W p l e ({ frames := 1, cells := 0, slots := 0, locals := 22 } : Room) s m args below meth c H locs 0 0 (MQ below (QV E K z w') args s 0 0 (hA E)) (F0 m 106 ls []) := by
  obtain ⟨hx, hb, hml, hown, hts, hKs, hT, hb0, hlocks, hret⟩ := id C
  intro n
  induction n with
  | zero =>
    intro w H locs ls hH hl hf
    cases hf
  | succ n ih =>
    intro w H locs ls hH hl hf
    rw [f_X8_advance_L106] at hf
    refine hl_aload_n hx hb dX8_advance_106 rfl (lv_at hl 0 rfl) ?_
    refine g8_3 hx hb hts hown hKs hH rfl ho m2_5 dX8_advance_107 ?_
    refine hl_aload_n hx hb dX8_advance_110 rfl (lv_at hl 0 rfl) ?_
    refine g8_1 hx hb hts hown hKs hH rfl ho m2_2 dX8_advance_111 ?_
    refine lv_icmp_ge (tgt := 167) hx hb dX8_advance_114 (by decide) (fun c43 => ?_) (fun c43 => ?_)
    · replace hf := (if_pos c43).symm.trans hf
      exact hk _ _ _ _ hH (lv_sub hl [0] rfl) hf
    · replace hf := (if_neg c43).symm.trans hf
      refine hl_aload_n hx hb dX8_advance_117 rfl (lv_at hl 0 rfl) ?_
      refine g8_0 hx hb hts hown hKs hH rfl ho m2_1 dX8_advance_118 ?_
      refine hl_aload_n hx hb dX8_advance_121 rfl (lv_at hl 0 rfl) ?_
      refine g8_3 hx hb hts hown hKs hH rfl ho m2_5 dX8_advance_122 ?_
      obtain ⟨a44, ha44, hf⟩ := bnd hf
      replace ha44 := cha_some ha44
      obtain ⟨j45, hj45, hf⟩ := bnd hf
      refine hw_bald hx hb hKs hH ha44.1 ha44.2 hj45 dX8_advance_125 ?_
      obtain ⟨q46, hq46, hf⟩ := bnd hf
      refine hcM_i hx hb hml hown hts hKs hT hb0 hH (As := [.int ((aI w a44.1 j45))]) (rest := []) (k_X12_isLetter l E K H.size (aI w a44.1 j45) w hq46) m3_60 m3_61 m1_1 m3_62 hs_X12_isLetter ⟨Nat.le_of_ble_eq_true rfl, Nat.le_of_ble_eq_true rfl, rfl, rfl⟩ hl.1 rfl rc0 rfl dX8_advance_126 ⟨Nat.zero_le _, Nat.zero_le _⟩ (fun H locs hH => ?_)
      refine lv_if_eq (tgt := 167) hx hb dX8_advance_129 (by decide) (fun c47 => ?_) (fun c47 => ?_)
      · replace hf := (if_pos c47).symm.trans hf
        exact hk _ _ _ _ hH (lv_sub hl [0] rfl) hf
      · replace hf := (if_neg c47).symm.trans hf
        refine hl_aload_n hx hb dX8_advance_132 rfl (lv_at hl 0 rfl) ?_
        refine hl_aload_n hx hb dX8_advance_133 rfl (lv_at hl 0 rfl) ?_
        refine g8_5 hx hb hts hown hKs hH rfl ho m2_8 dX8_advance_134 ?_
        refine lv_bipush (v := 8) hx hb dX8_advance_137 (by decide) ?_
        refine lv_lshl (v := (lsl (wJ q46.2 805 o) 8)) hx hb dX8_advance_139 rfl ?_
        refine hl_aload_n hx hb dX8_advance_140 rfl (lv_at hl 0 rfl) ?_
        refine g8_0 hx hb hts hown hKs hH rfl ho m2_1 dX8_advance_141 ?_
        refine hl_aload_n hx hb dX8_advance_144 rfl (lv_at hl 0 rfl) ?_
        refine g8_3 hx hb hts hown hKs hH rfl ho m2_5 dX8_advance_145 ?_
        obtain ⟨a48, ha48, hf⟩ := bnd hf
        replace ha48 := cha_some ha48
        obtain ⟨j49, hj49, hf⟩ := bnd hf
        refine hw_bald hx hb hKs hH ha48.1 ha48.2 hj49 dX8_advance_148 ?_
        refine lv_i2l (v := ((aI q46.2 a48.1 j49).toInt64)) hx hb dX8_advance_149 rfl ?_
        refine lv_lor hx hb dX8_advance_150 ?_
        obtain ⟨w50, hw50, hf⟩ := bnd hf
        replace hw50 := Option.some.inj hw50
        refine p8_5 (v := ((lsl (wJ q46.2 805 o) 8) ||| ((aI q46.2 a48.1 j49).toInt64))) hx hb hts hown hKs hH rfl ho m2_8 dX8_advance_151 (fun H locs hH => ?_)
        rw [hw50] at hH
        refine hl_aload_n hx hb dX8_advance_154 rfl (lv_at hl 0 rfl) ?_
        refine lv_dup hx hb dX8_advance_155 rv_cat ?_
        refine g8_3 hx hb hts hown hKs hH rfl ho m2_5 dX8_advance_156 ?_
        refine lv_iconst (v := 1) hx hb dX8_advance_159 (by decide) ?_
        refine lv_iadd hx hb dX8_advance_160 ?_
        obtain ⟨w51, hw51, hf⟩ := bnd hf
        replace hw51 := Option.some.inj hw51
        refine p8_3 (v := ((wI w50 803 o) + 1)) hx hb hts hown hKs hH rfl ho m2_5 dX8_advance_161 (fun H locs hH => ?_)
        rw [hw51] at hH
        refine lv_goto (tgt := 106) hx hb dX8_advance_164 (by decide) ?_
        exact ih _ _ _ _ hH (lv_sub hl [0] rfl) hf
set_option maxHeartbeats 4000000 in
set_option maxRecDepth 100000 in
theorem k_X8_advance (l : Launch) (E : Ev) (K : Kd) (z : Nat) (o : Nat) (w : Wd) (ho : K o = some (7, 0)) {w' : Wd} (hf : f_X8_advance K o w = some w') : Met l yX8_advance (Cond.code yX8_advance cX8_advance 1 (Option.none : Option Jvm.ClassFile.FieldType) :: bt) ({ frames := 1, cells := 0, slots := 0, locals := 22 } : Room) (va_Pc [rv E (some o)] (HB E K w z)) (QV E K z w') 0 0 (hA E) := by
  refine Met.ofW (cc := cX8_advance) (maxL := 1) (ret := (Option.none : Option Jvm.ClassFile.FieldType)) (by decide) rfl ?_
  intro p e s m args below meth c s₁ B hml hv
  obtain ⟨rfl, hz, hP, hKs, hT, hb0⟩ := hv
  have C : CX p l e s m _ meth c cX8_advance 1 RX8 (Option.none : Option Jvm.ClassFile.FieldType) E := ⟨B.exec, B.bytes, hml, findClass_of_methodNamed B.named, fun w h => atoms_spec (ws := Cond.code yX8_advance cX8_advance 1 (Option.none : Option Jvm.ClassFile.FieldType) :: bt) B.pre w (List.mem_cons_of_mem _ h), hKs, hT, by rw [hz]; exact hb0, B.notSynchronized, B.returns⟩
  have hH : HQ E K z w s s.heap [] := ⟨hP, va_S.rf, hz⟩
  obtain ⟨hx, hb, hml, hown, hts, hKs, hT, hb0, hlocks, hret⟩ := id C
  have hl := lv_entry [rv E (some o)] (n := 1) (by simp [lg_len_nil, lg_len_i, lg_len_j, lg_len_q, lg_len_f, lg_len_d, lg_len_r])
  rw [lg_entry_eq]
  generalize (lg_sl [rv E (some o)] ++ List.replicate (1 - (lg_sl [rv E (some o)]).length) Slot.unset).toArray = ls at hl ⊢
  replace hl : lv_has ls 1 [(0, rv E (some o))] := by simpa only [lv_args, cat_q, cat_i, cat_j, reduceIte, Nat.reduceEqDiff, Nat.reduceAdd, Nat.zero_add] using hl
  generalize s.heap = H at hH ⊢
  unfold f_X8_advance at hf
  refine l_X8_advance_L0  C ho _ (fun w1 H locs ls hH hl hf => ?_) fu  w _ _ _ hH (lv_sub hl [0] rfl) hf
  refine hl_aload_n hx hb dX8_advance_52 rfl (lv_at hl 0 rfl) ?_
  refine hl_aload_n hx hb dX8_advance_53 rfl (lv_at hl 0 rfl) ?_
  refine g8_3 hx hb hts hown hKs hH rfl ho m2_5 dX8_advance_54 ?_
  obtain ⟨w10, hw10, hf⟩ := bnd hf
  replace hw10 := Option.some.inj hw10
  refine p8_2 (v := (wI w1 803 o)) hx hb hts hown hKs hH rfl ho m2_3 dX8_advance_57 (fun H locs hH => ?_)
  rw [hw10] at hH
  refine hl_aload_n hx hb dX8_advance_60 rfl (lv_at hl 0 rfl) ?_
  refine lv_lconst (v := 0) hx hb dX8_advance_61 rfl ?_
  obtain ⟨w11, hw11, hf⟩ := bnd hf
  replace hw11 := Option.some.inj hw11
  refine p8_5 (v := 0) hx hb hts hown hKs hH rfl ho m2_8 dX8_advance_62 (fun H locs hH => ?_)
  rw [hw11] at hH
  refine hl_aload_n hx hb dX8_advance_65 rfl (lv_at hl 0 rfl) ?_
  refine lv_iconst (v := 0) hx hb dX8_advance_66 (by decide) ?_
  obtain ⟨w12, hw12, hf⟩ := bnd hf
  replace hw12 := Option.some.inj hw12
  refine p8_6 (v := 0) hx hb hts hown hKs hH rfl ho m2_10 dX8_advance_67 (fun H locs hH => ?_)
  rw [hw12] at hH
  refine hl_aload_n hx hb dX8_advance_70 rfl (lv_at hl 0 rfl) ?_
  refine g8_3 hx hb hts hown hKs hH rfl ho m2_5 dX8_advance_71 ?_
  refine hl_aload_n hx hb dX8_advance_74 rfl (lv_at hl 0 rfl) ?_
  refine g8_1 hx hb hts hown hKs hH rfl ho m2_2 dX8_advance_75 ?_
  refine lv_icmp_lt (tgt := 91) hx hb dX8_advance_78 (by decide) (fun c13 => ?_) (fun c13 => ?_)
  · replace hf := (if_pos c13).symm.trans hf
    refine hl_aload_n hx hb dX8_advance_91 rfl (lv_at hl 0 rfl) ?_
    refine g8_0 hx hb hts hown hKs hH rfl ho m2_1 dX8_advance_92 ?_
    refine hl_aload_n hx hb dX8_advance_95 rfl (lv_at hl 0 rfl) ?_
    refine g8_3 hx hb hts hown hKs hH rfl ho m2_5 dX8_advance_96 ?_
    obtain ⟨a14, ha14, hf⟩ := bnd hf
    replace ha14 := cha_some ha14
    obtain ⟨j15, hj15, hf⟩ := bnd hf
    refine hw_bald hx hb hKs hH ha14.1 ha14.2 hj15 dX8_advance_99 ?_
    obtain ⟨q16, hq16, hf⟩ := bnd hf
    refine hcM_i hx hb hml hown hts hKs hT hb0 hH (As := [.int ((aI w12 a14.1 j15))]) (rest := []) (k_X12_isLetter l E K H.size (aI w12 a14.1 j15) w12 hq16) m3_60 m3_61 m1_1 m3_62 hs_X12_isLetter ⟨Nat.le_of_ble_eq_true rfl, Nat.le_of_ble_eq_true rfl, rfl, rfl⟩ hl.1 rfl rc0 rfl dX8_advance_100 ⟨Nat.zero_le _, Nat.zero_le _⟩ (fun H locs hH => ?_)
    refine lv_if_eq (tgt := 201) hx hb dX8_advance_103 (by decide) (fun c17 => ?_) (fun c17 => ?_)
    · replace hf := (if_pos c17).symm.trans hf
      refine hl_aload_n hx hb dX8_advance_201 rfl (lv_at hl 0 rfl) ?_
      refine g8_0 hx hb hts hown hKs hH rfl ho m2_1 dX8_advance_202 ?_
      refine hl_aload_n hx hb dX8_advance_205 rfl (lv_at hl 0 rfl) ?_
      refine g8_3 hx hb hts hown hKs hH rfl ho m2_5 dX8_advance_206 ?_
      obtain ⟨a18, ha18, hf⟩ := bnd hf
      replace ha18 := cha_some ha18
      obtain ⟨j19, hj19, hf⟩ := bnd hf
      refine hw_bald hx hb hKs hH ha18.1 ha18.2 hj19 dX8_advance_209 ?_
      obtain ⟨q20, hq20, hf⟩ := bnd hf
      refine hcS_i hx hb hml hown hts hKs hT hb0 hH (As := [.int ((aI q16.2 a18.1 j19))]) (rest := []) (k_X8_isDigit l E K H.size (aI q16.2 a18.1 j19) q16.2 hq20) (gS m3_72 m3_73 m1_9 m3_74) hs_X8_isDigit ⟨Nat.le_of_ble_eq_true rfl, Nat.le_of_ble_eq_true rfl, rfl, rfl⟩ hl.1 rfl rc0 rfl dX8_advance_210 ⟨Nat.zero_le _, Nat.zero_le _⟩ (fun H locs hH => ?_)
      refine lv_if_eq (tgt := 308) hx hb dX8_advance_213 (by decide) (fun c21 => ?_) (fun c21 => ?_)
      · replace hf := (if_pos c21).symm.trans hf
        refine hl_aload_n hx hb dX8_advance_308 rfl (lv_at hl 0 rfl) ?_
        refine hl_aload_n hx hb dX8_advance_309 rfl (lv_at hl 0 rfl) ?_
        refine g8_0 hx hb hts hown hKs hH rfl ho m2_1 dX8_advance_310 ?_
        refine hl_aload_n hx hb dX8_advance_313 rfl (lv_at hl 0 rfl) ?_
        refine g8_3 hx hb hts hown hKs hH rfl ho m2_5 dX8_advance_314 ?_
        obtain ⟨a22, ha22, hf⟩ := bnd hf
        replace ha22 := cha_some ha22
        obtain ⟨j23, hj23, hf⟩ := bnd hf
        refine hw_bald hx hb hKs hH ha22.1 ha22.2 hj23 dX8_advance_317 ?_
        refine lv_bipush (v := 59) hx hb dX8_advance_318 (by decide) ?_
        refine lv_icmp_ne (tgt := 329) hx hb dX8_advance_320 (by decide) (fun c24 => ?_) (fun c24 => ?_)
        · replace hf := (if_neg c24).symm.trans hf
          refine hw_tok hx hb 20 (by decide) hts hown hT hH m3_63 dX8_advance_329 ?_
          obtain ⟨w25, hw25, hf⟩ := bnd hf
          replace hw25 := Option.some.inj hw25
          refine p8_4 (v := (some 20)) hx hb hts hown hKs hH rfl ho m2_6 dX8_advance_332 (fun H locs hH => ?_)
          rw [hw25] at hH
          refine hl_aload_n hx hb dX8_advance_335 rfl (lv_at hl 0 rfl) ?_
          refine lv_dup hx hb dX8_advance_336 rv_cat ?_
          refine g8_3 hx hb hts hown hKs hH rfl ho m2_5 dX8_advance_337 ?_
          refine lv_iconst (v := 1) hx hb dX8_advance_340 (by decide) ?_
          refine lv_iadd hx hb dX8_advance_341 ?_
          obtain ⟨w26, hw26, hf⟩ := bnd hf
          replace hw26 := Option.some.inj hw26
          refine p8_3 (v := ((wI w25 803 o) + 1)) hx hb hts hown hKs hH rfl ho m2_5 dX8_advance_342 (fun H locs hH => ?_)
          rw [hw26] at hH
          exact hw_vret hx hb hret hf hH hlocks dX8_advance_345
        · replace hf := (if_pos c24).symm.trans hf
          refine hw_tok hx hb 18 (by decide) hts hown hT hH m3_77 dX8_advance_323 ?_
          refine lv_goto (tgt := 332) hx hb dX8_advance_326 (by decide) ?_
          obtain ⟨w27, hw27, hf⟩ := bnd hf
          replace hw27 := Option.some.inj hw27
          refine p8_4 (v := (some 18)) hx hb hts hown hKs hH rfl ho m2_6 dX8_advance_332 (fun H locs hH => ?_)
          rw [hw27] at hH
          refine hl_aload_n hx hb dX8_advance_335 rfl (lv_at hl 0 rfl) ?_
          refine lv_dup hx hb dX8_advance_336 rv_cat ?_
          refine g8_3 hx hb hts hown hKs hH rfl ho m2_5 dX8_advance_337 ?_
          refine lv_iconst (v := 1) hx hb dX8_advance_340 (by decide) ?_
          refine lv_iadd hx hb dX8_advance_341 ?_
          obtain ⟨w28, hw28, hf⟩ := bnd hf
          replace hw28 := Option.some.inj hw28
          refine p8_3 (v := ((wI w27 803 o) + 1)) hx hb hts hown hKs hH rfl ho m2_5 dX8_advance_342 (fun H locs hH => ?_)
          rw [hw28] at hH
          exact hw_vret hx hb hret hf hH hlocks dX8_advance_345
      · replace hf := (if_neg c21).symm.trans hf
        refine l_X8_advance_L216  C ho _ (fun w29 H locs ls hH hl hf => ?_) fu  q20.2 _ _ _ hH (lv_sub hl [0] rfl) hf
        refine hl_aload_n hx hb dX8_advance_279 rfl (lv_at hl 0 rfl) ?_
        refine hl_aload_n hx hb dX8_advance_280 rfl (lv_at hl 0 rfl) ?_
        refine g8_3 hx hb hts hown hKs hH rfl ho m2_5 dX8_advance_281 ?_
        refine hl_aload_n hx hb dX8_advance_284 rfl (lv_at hl 0 rfl) ?_
        refine g8_2 hx hb hts hown hKs hH rfl ho m2_3 dX8_advance_285 ?_
        refine lv_isub hx hb dX8_advance_288 ?_
        refine lv_iconst (v := 3) hx hb dX8_advance_289 (by decide) ?_
        refine lv_icmp_le (tgt := 299) hx hb dX8_advance_290 (by decide) (fun c39 => ?_) (fun c39 => ?_)
        · replace hf := (if_pos c39).symm.trans hf
          refine hw_tok hx hb 17 (by decide) hts hown hT hH m3_75 dX8_advance_299 ?_
          obtain ⟨w40, hw40, hf⟩ := bnd hf
          replace hw40 := Option.some.inj hw40
          refine p8_4 (v := (some 17)) hx hb hts hown hKs hH rfl ho m2_6 dX8_advance_302 (fun H locs hH => ?_)
          rw [hw40] at hH
          refine lv_goto (tgt := 345) hx hb dX8_advance_305 (by decide) ?_
          exact hw_vret hx hb hret hf hH hlocks dX8_advance_345
        · replace hf := (if_neg c39).symm.trans hf
          refine hw_tok hx hb 20 (by decide) hts hown hT hH m3_63 dX8_advance_293 ?_
          refine lv_goto (tgt := 302) hx hb dX8_advance_296 (by decide) ?_
          obtain ⟨w41, hw41, hf⟩ := bnd hf
          replace hw41 := Option.some.inj hw41
          refine p8_4 (v := (some 20)) hx hb hts hown hKs hH rfl ho m2_6 dX8_advance_302 (fun H locs hH => ?_)
          rw [hw41] at hH
          refine lv_goto (tgt := 345) hx hb dX8_advance_305 (by decide) ?_
          exact hw_vret hx hb hret hf hH hlocks dX8_advance_345
    · replace hf := (if_neg c17).symm.trans hf
      refine l_X8_advance_L106  C ho _ (fun w42 H locs ls hH hl hf => ?_) fu  q16.2 _ _ _ hH (lv_sub hl [0] rfl) hf
      refine hl_aload_n hx hb dX8_advance_167 rfl (lv_at hl 0 rfl) ?_
      refine hl_aload_n hx hb dX8_advance_168 rfl (lv_at hl 0 rfl) ?_
      refine g8_3 hx hb hts hown hKs hH rfl ho m2_5 dX8_advance_169 ?_
      refine hl_aload_n hx hb dX8_advance_172 rfl (lv_at hl 0 rfl) ?_
      refine g8_2 hx hb hts hown hKs hH rfl ho m2_3 dX8_advance_173 ?_
      refine lv_isub hx hb dX8_advance_176 ?_
      refine lv_bipush (v := 8) hx hb dX8_advance_177 (by decide) ?_
      refine lv_icmp_le (tgt := 188) hx hb dX8_advance_179 (by decide) (fun c52 => ?_) (fun c52 => ?_)
      · replace hf := (if_pos c52).symm.trans hf
        refine hl_aload_n hx hb dX8_advance_188 rfl (lv_at hl 0 rfl) ?_
        refine g8_5 hx hb hts hown hKs hH rfl ho m2_8 dX8_advance_189 ?_
        obtain ⟨q53, hq53, hf⟩ := bnd hf
        refine hcS_t hx hb hml hown hts hKs hT hb0 hH (As := [.long (wJ w42 805 o)]) (rest := [rv E (some o)]) (k_X11_ofWord l E K H.size (wJ w42 805 o) w42 hq53) (gS m3_65 m3_66 m1_11 m3_67) hs_X11_ofWord ⟨Nat.le_of_ble_eq_true rfl, Nat.le_of_ble_eq_true rfl, rfl, rfl⟩ hl.1 rfl (rcV rc0) rfl dX8_advance_192 ⟨Nat.zero_le _, Nat.zero_le _⟩ (fun H locs hH => ?_)
        obtain ⟨w54, hw54, hf⟩ := bnd hf
        replace hw54 := Option.some.inj hw54
        refine p8_4 (v := q53.1) hx hb hts hown hKs hH rfl ho m2_6 dX8_advance_195 (fun H locs hH => ?_)
        rw [hw54] at hH
        refine lv_goto (tgt := 345) hx hb dX8_advance_198 (by decide) ?_
        exact hw_vret hx hb hret hf hH hlocks dX8_advance_345
      · replace hf := (if_neg c52).symm.trans hf
        refine hw_tok hx hb 20 (by decide) hts hown hT hH m3_63 dX8_advance_182 ?_
        refine lv_goto (tgt := 195) hx hb dX8_advance_185 (by decide) ?_
        obtain ⟨w55, hw55, hf⟩ := bnd hf
        replace hw55 := Option.some.inj hw55
        refine p8_4 (v := (some 20)) hx hb hts hown hKs hH rfl ho m2_6 dX8_advance_195 (fun H locs hH => ?_)
        rw [hw55] at hH
        refine lv_goto (tgt := 345) hx hb dX8_advance_198 (by decide) ?_
        exact hw_vret hx hb hret hf hH hlocks dX8_advance_345
  · replace hf := (if_neg c13).symm.trans hf
    refine hl_aload_n hx hb dX8_advance_81 rfl (lv_at hl 0 rfl) ?_
    refine hw_tok hx hb 19 (by decide) hts hown hT hH m1_239 dX8_advance_82 ?_
    obtain ⟨w56, hw56, hf⟩ := bnd hf
    replace hw56 := Option.some.inj hw56
    refine p8_4 (v := (some 19)) hx hb hts hown hKs hH rfl ho m2_6 dX8_advance_85 (fun H locs hH => ?_)
    rw [hw56] at hH
    refine lv_goto (tgt := 345) hx hb dX8_advance_88 (by decide) ?_
    exact hw_vret hx hb hret hf hH hlocks dX8_advance_345

theorem dX9_clear_0 : decode cX9_clear 0 = .ok (.iconst 0, 1) := by decide +kernel
theorem dX9_clear_1 : decode cX9_clear 1 = .ok (.istore_n 1, 1) := by decide +kernel
theorem dX9_clear_2 : decode cX9_clear 2 = .ok (.iload_n 1, 1) := by decide +kernel
theorem dX9_clear_3 : decode cX9_clear 3 = .ok (.iconst 4, 1) := by decide +kernel
theorem dX9_clear_4 : decode cX9_clear 4 = .ok (.if_icmp .ge 19, 3) := by decide +kernel
theorem dX9_clear_7 : decode cX9_clear 7 = .ok (.aload_n 0, 1) := by decide +kernel
theorem dX9_clear_8 : decode cX9_clear 8 = .ok (.getfield 11, 3) := by decide +kernel
theorem dX9_clear_11 : decode cX9_clear 11 = .ok (.iload_n 1, 1) := by decide +kernel
theorem dX9_clear_12 : decode cX9_clear 12 = .ok (.aaload, 1) := by decide +kernel
theorem dX9_clear_13 : decode cX9_clear 13 = .ok (.iconst 0, 1) := by decide +kernel
theorem dX9_clear_14 : decode cX9_clear 14 = .ok (.putfield 65, 3) := by decide +kernel
theorem dX9_clear_17 : decode cX9_clear 17 = .ok (.iinc 1 1, 3) := by decide +kernel
theorem dX9_clear_20 : decode cX9_clear 20 = .ok (.goto (-18), 3) := by decide +kernel
theorem dX9_clear_23 : decode cX9_clear 23 = .ok (.iconst 0, 1) := by decide +kernel
theorem dX9_clear_24 : decode cX9_clear 24 = .ok (.istore_n 1, 1) := by decide +kernel
theorem dX9_clear_25 : decode cX9_clear 25 = .ok (.iload_n 1, 1) := by decide +kernel
theorem dX9_clear_26 : decode cX9_clear 26 = .ok (.bipush 12, 2) := by decide +kernel
theorem dX9_clear_28 : decode cX9_clear 28 = .ok (.if_icmp .ge 18, 3) := by decide +kernel
theorem dX9_clear_31 : decode cX9_clear 31 = .ok (.aload_n 0, 1) := by decide +kernel
theorem dX9_clear_32 : decode cX9_clear 32 = .ok (.getfield 44, 3) := by decide +kernel
theorem dX9_clear_35 : decode cX9_clear 35 = .ok (.iload_n 1, 1) := by decide +kernel
theorem dX9_clear_36 : decode cX9_clear 36 = .ok (.aaload, 1) := by decide +kernel
theorem dX9_clear_37 : decode cX9_clear 37 = .ok (.invokevirtual 69, 3) := by decide +kernel
theorem dX9_clear_40 : decode cX9_clear 40 = .ok (.iinc 1 1, 3) := by decide +kernel
theorem dX9_clear_43 : decode cX9_clear 43 = .ok (.goto (-18), 3) := by decide +kernel
theorem dX9_clear_46 : decode cX9_clear 46 = .ok (.aload_n 0, 1) := by decide +kernel
theorem dX9_clear_47 : decode cX9_clear 47 = .ok (.getfield 21, 3) := by decide +kernel
theorem dX9_clear_50 : decode cX9_clear 50 = .ok (.iconst 0, 1) := by decide +kernel
theorem dX9_clear_51 : decode cX9_clear 51 = .ok (.invokestatic 70, 3) := by decide +kernel
theorem dX9_clear_54 : decode cX9_clear 54 = .ok (.aload_n 0, 1) := by decide +kernel
theorem dX9_clear_55 : decode cX9_clear 55 = .ok (.getfield 51, 3) := by decide +kernel
theorem dX9_clear_58 : decode cX9_clear 58 = .ok (.invokevirtual 76, 3) := by decide +kernel
theorem dX9_clear_61 : decode cX9_clear 61 = .ok (.aload_n 0, 1) := by decide +kernel
theorem dX9_clear_62 : decode cX9_clear 62 = .ok (.getfield 55, 3) := by decide +kernel
theorem dX9_clear_65 : decode cX9_clear 65 = .ok (.iconst 0, 1) := by decide +kernel
theorem dX9_clear_66 : decode cX9_clear 66 = .ok (.bipush 10, 2) := by decide +kernel
theorem dX9_clear_68 : decode cX9_clear 68 = .ok (.iastore, 1) := by decide +kernel
theorem dX9_clear_69 : decode cX9_clear 69 = .ok (.aload_n 0, 1) := by decide +kernel
theorem dX9_clear_70 : decode cX9_clear 70 = .ok (.getfield 55, 3) := by decide +kernel
theorem dX9_clear_73 : decode cX9_clear 73 = .ok (.iconst 1, 1) := by decide +kernel
theorem dX9_clear_74 : decode cX9_clear 74 = .ok (.iconst 5, 1) := by decide +kernel
theorem dX9_clear_75 : decode cX9_clear 75 = .ok (.iastore, 1) := by decide +kernel
theorem dX9_clear_76 : decode cX9_clear 76 = .ok (.aload_n 0, 1) := by decide +kernel
theorem dX9_clear_77 : decode cX9_clear 77 = .ok (.getfield 55, 3) := by decide +kernel
theorem dX9_clear_80 : decode cX9_clear 80 = .ok (.iconst 2, 1) := by decide +kernel
theorem dX9_clear_81 : decode cX9_clear 81 = .ok (.iconst 0, 1) := by decide +kernel
theorem dX9_clear_82 : decode cX9_clear 82 = .ok (.iastore, 1) := by decide +kernel
theorem dX9_clear_83 : decode cX9_clear 83 = .ok (.aload_n 0, 1) := by decide +kernel
theorem dX9_clear_84 : decode cX9_clear 84 = .ok (.getfield 55, 3) := by decide +kernel
theorem dX9_clear_87 : decode cX9_clear 87 = .ok (.iconst 3, 1) := by decide +kernel
theorem dX9_clear_88 : decode cX9_clear 88 = .ok (.iconst 0, 1) := by decide +kernel
theorem dX9_clear_89 : decode cX9_clear 89 = .ok (.iastore, 1) := by decide +kernel
theorem dX9_clear_90 : decode cX9_clear 90 = .ok (.aload_n 0, 1) := by decide +kernel
theorem dX9_clear_91 : decode cX9_clear 91 = .ok (.iconst 0, 1) := by decide +kernel
theorem dX9_clear_92 : decode cX9_clear 92 = .ok (.putfield 77, 3) := by decide +kernel
theorem dX9_clear_95 : decode cX9_clear 95 = .ok (.aload_n 0, 1) := by decide +kernel
theorem dX9_clear_96 : decode cX9_clear 96 = .ok (.bipush 15, 2) := by decide +kernel
theorem dX9_clear_98 : decode cX9_clear 98 = .ok (.putfield 80, 3) := by decide +kernel
theorem dX9_clear_101 : decode cX9_clear 101 = .ok (.aload_n 0, 1) := by decide +kernel
theorem dX9_clear_102 : decode cX9_clear 102 = .ok (.iconst 0, 1) := by decide +kernel
theorem dX9_clear_103 : decode cX9_clear 103 = .ok (.putfield 83, 3) := by decide +kernel
theorem dX9_clear_106 : decode cX9_clear 106 = .ok (.return_, 1) := by decide +kernel
theorem hd_X9_clear : yX9_clear.cls = RX9 ∧ yX9_clear.cls ≠ "java/lang/invoke/MethodHandle" ∧ yX9_clear.cls ≠ "java/lang/invoke/VarHandle" ∧ (parseMethodDescriptor yX9_clear.desc).map (fun d => d.parameters.length) = some 0 := by decide +kernel
theorem hs_X9_clear : yX9_clear.cls ≠ "java/lang/invoke/MethodHandle" ∧ yX9_clear.cls ≠ "java/lang/invoke/VarHandle" ∧ (parseMethodDescriptor yX9_clear.desc).map (fun d => d.parameters.length) = some 0 := by decide +kernel
set_option maxHeartbeats 4000000 in
set_option maxRecDepth 100000 in
theorem l_X9_clear_L2 (C : CX p l e s m args meth c cX9_clear 2 RX9 (Option.none : Option Jvm.ClassFile.FieldType) E) {o : Nat} (ho : K o = some (8, 0)) {w' : Wd} (k : Int32 → Wd → Option Wd) (hk : ∀ (v1_2 : Int32) (w : Wd) (H : Heap) (locs : List Loc) (ls : Array Slot), HQ E K z w s H locs → lv_has ls 2 [(1, .int v1_2), (0, rv E (some o))] → k v1_2 w = some w' → W p l e ({ frames := 2, cells := 0, slots := 0, locals := 43 } : Room) s m args below meth c H locs 0 0 (MQ below (QV E K z w') args s 0 0 (hA E)) (F0 m 23 ls [])) : ∀ (n : Nat) (v1_2 : Int32) (w : Wd) (H : Heap) (locs : List Loc) (ls : Array Slot), HQ E K z w s H locs → lv_has ls 2 [(1, .int v1_2), (0, rv E (some o))] → f_X9_clear_L2 K o k n v1_2 w = some w' → W p l e ({ frames := 2, cells := 0, slots := 0, locals := 43 } : Room) s m args below meth c H locs 0 0 (MQ below (QV E K z w') args s 0 0 (hA E)) (F0 m 2 ls []) := by
  obtain ⟨hx, hb, hml, hown, hts, hKs, hT, hb0, hlocks, hret⟩ := id C
  intro n
  induction n with
  | zero =>
    intro v1_2 w H locs ls hH hl hf
    cases hf
  | succ n ih =>
    intro v1_2 w H locs ls hH hl hf
    rw [f_X9_clear_L2] at hf
    refine lv_iload_n hx hb dX9_clear_2 rfl (lv_at hl 0 rfl) ?_
    refine lv_iconst (v := 4) hx hb dX9_clear_3 (by decide) ?_
    refine lv_icmp_ge (tgt := 23) hx hb dX9_clear_4 (by decide) (fun c2 => ?_) (fun c2 => ?_)
    · replace hf := (if_pos c2).symm.trans hf
      exact hk v1_2 _ _ _ _ hH (lv_sub hl [0, 1] rfl) hf
    · replace hf := (if_neg c2).symm.trans hf
      refine hl_aload_n hx hb dX9_clear_7 rfl (lv_at hl 1 rfl) ?_
      refine g9_0 hx hb hts hown hKs hH rfl ho m1_150 dX9_clear_8 ?_
      refine lv_iload_n hx hb dX9_clear_11 rfl (lv_at hl 0 rfl) ?_
      obtain ⟨a3, ha3, hf⟩ := bnd hf
      replace ha3 := cha_some ha3
      obtain ⟨j4, hj4, hf⟩ := bnd hf
      refine hw_aald26 hx hb hKs hH ha3.1 ha3.2 hj4 dX9_clear_12 ?_
      refine lv_iconst (v := 0) hx hb dX9_clear_13 (by decide) ?_
      obtain ⟨a5, ha5, hf⟩ := bnd hf
      replace ha5 := chk_some ha5
      obtain ⟨w6, hw6, hf⟩ := bnd hf
      replace hw6 := Option.some.inj hw6
      refine pn4_1 (v := 0) hx hb hts hown hKs hH ha5.1 ha5.2 m1_75 dX9_clear_14 (fun H locs hH => ?_)
      rw [hw6] at hH
      refine lv_iinc (v := (v1_2 + 1)) (lv' := [(1, .int ((v1_2 + 1))), (0, rv E (some o))]) hx hb dX9_clear_17 hl (k := 0) rfl rfl (by decide) rfl (fun ls hl => ?_)
      refine lv_goto (tgt := 2) hx hb dX9_clear_20 (by decide) ?_
      exact ih (v1_2 + 1) _ _ _ _ hH (lv_sub hl [0, 1] rfl) hf
set_option maxHeartbeats 4000000 in
set_option maxRecDepth 100000 in
theorem l_X9_clear_L25 (C : CX p l e s m args meth c cX9_clear 2 RX9 (Option.none : Option Jvm.ClassFile.FieldType) E) {o : Nat} (ho : K o = some (8, 0)) {w' : Wd} (k : Int32 → Wd → Option Wd) (hk : ∀ (v1_25 : Int32) (w : Wd) (H : Heap) (locs : List Loc) (ls : Array Slot), HQ E K z w s H locs → lv_has ls 2 [(1, .int v1_25), (0, rv E (some o))] → k v1_25 w = some w' → W p l e ({ frames := 2, cells := 0, slots := 0, locals := 43 } : Room) s m args below meth c H locs 0 0 (MQ below (QV E K z w') args s 0 0 (hA E)) (F0 m 46 ls [])) : ∀ (n : Nat) (v1_25 : Int32) (w : Wd) (H : Heap) (locs : List Loc) (ls : Array Slot), HQ E K z w s H locs → lv_has ls 2 [(1, .int v1_25), (0, rv E (some o))] → f_X9_clear_L25 K o k n v1_25 w = some w' → W p l e ({ frames := 2, cells := 0, slots := 0, locals := 43 } : Room) s m args below meth c H locs 0 0 (MQ below (QV E K z w') args s 0 0 (hA E)) (F0 m 25 ls []) := by
  obtain ⟨hx, hb, hml, hown, hts, hKs, hT, hb0, hlocks, hret⟩ := id C
  intro n
  induction n with
  | zero =>
    intro v1_25 w H locs ls hH hl hf
    cases hf
  | succ n ih =>
    intro v1_25 w H locs ls hH hl hf
    rw [f_X9_clear_L25] at hf
    refine lv_iload_n hx hb dX9_clear_25 rfl (lv_at hl 0 rfl) ?_
    refine lv_bipush (v := 12) hx hb dX9_clear_26 (by decide) ?_
    refine lv_icmp_ge (tgt := 46) hx hb dX9_clear_28 (by decide) (fun c8 => ?_) (fun c8 => ?_)
    · replace hf := (if_pos c8).symm.trans hf
      exact hk v1_25 _ _ _ _ hH (lv_sub hl [0, 1] rfl) hf
    · replace hf := (if_neg c8).symm.trans hf
      refine hl_aload_n hx hb dX9_clear_31 rfl (lv_at hl 1 rfl) ?_
      refine g9_9 hx hb hts hown hKs hH rfl ho m1_175 dX9_clear_32 ?_
      refine lv_iload_n hx hb dX9_clear_35 rfl (lv_at hl 0 rfl) ?_
      obtain ⟨a9, ha9, hf⟩ := bnd hf
      replace ha9 := cha_some ha9
      obtain ⟨j10, hj10, hf⟩ := bnd hf
      refine hw_aald25 hx hb hKs hH ha9.1 ha9.2 hj10 dX9_clear_36 ?_
      obtain ⟨a11, ha11, hf⟩ := bnd hf
      replace ha11 := chk_some ha11
      obtain ⟨q12, hq12, hf⟩ := bnd hf
      refine hcV_v hx hb hml hown hts hKs hT hb0 hH (As := []) (rest := []) (k_X3_clear l E K H.size a11 w ha11.2 hq12) (gV m1_138 m1_139 m1_140 m1_6 m1_141) hd_X3_clear ⟨Nat.le_of_ble_eq_true rfl, Nat.le_of_ble_eq_true rfl, rfl, rfl⟩ ha11.1 ha11.2 rfl rfl rfl hl.1 rfl rc0 rfl dX9_clear_37 ⟨Nat.zero_le _, Nat.zero_le _⟩ (fun H locs hH => ?_)
      refine lv_iinc (v := (v1_25 + 1)) (lv' := [(1, .int ((v1_25 + 1))), (0, rv E (some o))]) hx hb dX9_clear_40 hl (k := 0) rfl rfl (by decide) rfl (fun ls hl => ?_)
      refine lv_goto (tgt := 25) hx hb dX9_clear_43 (by decide) ?_
      exact ih (v1_25 + 1) _ _ _ _ hH (lv_sub hl [0, 1] rfl) hf
set_option maxHeartbeats 4000000 in
set_option maxRecDepth 100000 in
theorem k_X9_clear (l : Launch) (E : Ev) (K : Kd) (z : Nat) (o : Nat) (w : Wd) (ho : K o = some (8, 0)) {w' : Wd} (hf : f_X9_clear K o w = some w') : Met l yX9_clear (Cond.code yX9_clear cX9_clear 2 (Option.none : Option Jvm.ClassFile.FieldType) :: bt) ({ frames := 2, cells := 0, slots := 0, locals := 43 } : Room) (va_Pc [rv E (some o)] (HB E K w z)) (QV E K z w') 0 0 (hA E) := by
  refine Met.ofW (cc := cX9_clear) (maxL := 2) (ret := (Option.none : Option Jvm.ClassFile.FieldType)) (by decide) rfl ?_
  intro p e s m args below meth c s₁ B hml hv
  obtain ⟨rfl, hz, hP, hKs, hT, hb0⟩ := hv
  have C : CX p l e s m _ meth c cX9_clear 2 RX9 (Option.none : Option Jvm.ClassFile.FieldType) E := ⟨B.exec, B.bytes, hml, findClass_of_methodNamed B.named, fun w h => atoms_spec (ws := Cond.code yX9_clear cX9_clear 2 (Option.none : Option Jvm.ClassFile.FieldType) :: bt) B.pre w (List.mem_cons_of_mem _ h), hKs, hT, by rw [hz]; exact hb0, B.notSynchronized, B.returns⟩
  have hH : HQ E K z w s s.heap [] := ⟨hP, va_S.rf, hz⟩
  obtain ⟨hx, hb, hml, hown, hts, hKs, hT, hb0, hlocks, hret⟩ := id C
  have hl := lv_entry [rv E (some o)] (n := 2) (by simp [lg_len_nil, lg_len_i, lg_len_j, lg_len_q, lg_len_f, lg_len_d, lg_len_r])
  rw [lg_entry_eq]
  generalize (lg_sl [rv E (some o)] ++ List.replicate (2 - (lg_sl [rv E (some o)]).length) Slot.unset).toArray = ls at hl ⊢
  replace hl : lv_has ls 2 [(0, rv E (some o))] := by simpa only [lv_args, cat_q, cat_i, cat_j, reduceIte, Nat.reduceEqDiff, Nat.reduceAdd, Nat.zero_add] using hl
  generalize s.heap = H at hH ⊢
  unfold f_X9_clear at hf
  refine lv_iconst (v := 0) hx hb dX9_clear_0 (by decide) ?_
  refine lv_istore_n (i := 1) (lv' := [(1, .int 0), (0, rv E (some o))]) hx hb dX9_clear_1 rfl hl (by decide) rfl (fun ls hl => ?_)
  refine l_X9_clear_L2  C ho _ (fun v1_2 w1 H locs ls hH hl hf => ?_) fu 0 w _ _ _ hH (lv_sub hl [0, 1] rfl) hf
  refine lv_iconst (v := 0) hx hb dX9_clear_23 (by decide) ?_
  refine lv_istore_n (i := 1) (lv' := [(1, .int 0), (0, rv E (some o))]) hx hb dX9_clear_24 rfl hl (by decide) rfl (fun ls hl => ?_)
  refine l_X9_clear_L25  C ho _ (fun v1_25 w7 H locs ls hH hl hf => ?_) fu 0 w1 _ _ _ hH (lv_sub hl [0, 1] rfl) hf
  refine hl_aload_n hx hb dX9_clear_46 rfl (lv_at hl 1 rfl) ?_
  refine g9_2 hx hb hts hown hKs hH rfl ho m1_157 dX9_clear_47 ?_
  refine lv_iconst (v := 0) hx hb dX9_clear_50 (by decide) ?_
  obtain ⟨q13, hq13, hf⟩ := bnd hf
  refine hcS_v hx hb hml hown hts hKs hT hb0 hH (As := [rv E (wR w7 902 o), .int 0]) (rest := []) (k_J7_fill_53178 l E K H.size (wR w7 902 o) 0 w7 hq13) (gS m1_142 m1_143 m1_7 m1_144) hs_J7_fill_53178 ⟨Nat.le_of_ble_eq_true rfl, Nat.le_of_ble_eq_true rfl, rfl, rfl⟩ hl.1 rfl rc0 rfl dX9_clear_51 ⟨Nat.zero_le _, Nat.zero_le _⟩ (fun H locs hH => ?_)
  refine hl_aload_n hx hb dX9_clear_54 rfl (lv_at hl 1 rfl) ?_
  refine g9_10 hx hb hts hown hKs hH rfl ho m1_181 dX9_clear_55 ?_
  obtain ⟨a14, ha14, hf⟩ := bnd hf
  replace ha14 := chk_some ha14
  obtain ⟨q15, hq15, hf⟩ := bnd hf
  refine hcV_v hx hb hml hown hts hKs hT hb0 hH (As := []) (rest := []) (k_X2_clear l E K H.size a14 q13 ha14.2 hq15) (gV m1_145 m1_146 m1_147 m1_3 m1_148) hd_X2_clear ⟨Nat.le_of_ble_eq_true rfl, Nat.le_of_ble_eq_true rfl, rfl, rfl⟩ ha14.1 ha14.2 rfl rfl rfl hl.1 rfl rc0 rfl dX9_clear_58 ⟨Nat.zero_le _, Nat.zero_le _⟩ (fun H locs hH => ?_)
  refine hl_aload_n hx hb dX9_clear_61 rfl (lv_at hl 1 rfl) ?_
  refine g9_11 hx hb hts hown hKs hH rfl ho m1_184 dX9_clear_62 ?_
  refine lv_iconst (v := 0) hx hb dX9_clear_65 (by decide) ?_
  refine lv_bipush (v := 10) hx hb dX9_clear_66 (by decide) ?_
  obtain ⟨a16, ha16, hf⟩ := bnd hf
  replace ha16 := cha_some ha16
  obtain ⟨j17, hj17, hf⟩ := bnd hf
  obtain ⟨w18, hw18, hf⟩ := bnd hf
  replace hw18 := Option.some.inj hw18
  refine hw_iast (x := 10) hx hb hKs hH ha16.1 ha16.2 hj17 dX9_clear_68 (fun H locs hH => ?_)
  rw [hw18] at hH
  refine hl_aload_n hx hb dX9_clear_69 rfl (lv_at hl 1 rfl) ?_
  refine g9_11 hx hb hts hown hKs hH rfl ho m1_184 dX9_clear_70 ?_
  refine lv_iconst (v := 1) hx hb dX9_clear_73 (by decide) ?_
  refine lv_iconst (v := 5) hx hb dX9_clear_74 (by decide) ?_
  obtain ⟨a19, ha19, hf⟩ := bnd hf
  replace ha19 := cha_some ha19
  obtain ⟨j20, hj20, hf⟩ := bnd hf
  obtain ⟨w21, hw21, hf⟩ := bnd hf
  replace hw21 := Option.some.inj hw21
  refine hw_iast (x := 5) hx hb hKs hH ha19.1 ha19.2 hj20 dX9_clear_75 (fun H locs hH => ?_)
  rw [hw21] at hH
  refine hl_aload_n hx hb dX9_clear_76 rfl (lv_at hl 1 rfl) ?_
  refine g9_11 hx hb hts hown hKs hH rfl ho m1_184 dX9_clear_77 ?_
  refine lv_iconst (v := 2) hx hb dX9_clear_80 (by decide) ?_
  refine lv_iconst (v := 0) hx hb dX9_clear_81 (by decide) ?_
  obtain ⟨a22, ha22, hf⟩ := bnd hf
  replace ha22 := cha_some ha22
  obtain ⟨j23, hj23, hf⟩ := bnd hf
  obtain ⟨w24, hw24, hf⟩ := bnd hf
  replace hw24 := Option.some.inj hw24
  refine hw_iast (x := 0) hx hb hKs hH ha22.1 ha22.2 hj23 dX9_clear_82 (fun H locs hH => ?_)
  rw [hw24] at hH
  refine hl_aload_n hx hb dX9_clear_83 rfl (lv_at hl 1 rfl) ?_
  refine g9_11 hx hb hts hown hKs hH rfl ho m1_184 dX9_clear_84 ?_
  refine lv_iconst (v := 3) hx hb dX9_clear_87 (by decide) ?_
  refine lv_iconst (v := 0) hx hb dX9_clear_88 (by decide) ?_
  obtain ⟨a25, ha25, hf⟩ := bnd hf
  replace ha25 := cha_some ha25
  obtain ⟨j26, hj26, hf⟩ := bnd hf
  obtain ⟨w27, hw27, hf⟩ := bnd hf
  replace hw27 := Option.some.inj hw27
  refine hw_iast (x := 0) hx hb hKs hH ha25.1 ha25.2 hj26 dX9_clear_89 (fun H locs hH => ?_)
  rw [hw27] at hH
  refine hl_aload_n hx hb dX9_clear_90 rfl (lv_at hl 1 rfl) ?_
  refine lv_iconst (v := 0) hx hb dX9_clear_91 (by decide) ?_
  obtain ⟨w28, hw28, hf⟩ := bnd hf
  replace hw28 := Option.some.inj hw28
  refine p9_12 (v := 0) hx hb hts hown hKs hH rfl ho m1_188 dX9_clear_92 (fun H locs hH => ?_)
  rw [hw28] at hH
  refine hl_aload_n hx hb dX9_clear_95 rfl (lv_at hl 1 rfl) ?_
  refine lv_bipush (v := 15) hx hb dX9_clear_96 (by decide) ?_
  obtain ⟨w29, hw29, hf⟩ := bnd hf
  replace hw29 := Option.some.inj hw29
  refine p9_13 (v := 15) hx hb hts hown hKs hH rfl ho m1_190 dX9_clear_98 (fun H locs hH => ?_)
  rw [hw29] at hH
  refine hl_aload_n hx hb dX9_clear_101 rfl (lv_at hl 1 rfl) ?_
  refine lv_iconst (v := 0) hx hb dX9_clear_102 (by decide) ?_
  obtain ⟨w30, hw30, hf⟩ := bnd hf
  replace hw30 := Option.some.inj hw30
  refine p9_14 (v := false) hx hb hts hown hKs hH rfl ho m1_194 dX9_clear_103 (fun H locs hH => ?_)
  rw [hw30] at hH
  exact hw_vret hx hb hret hf hH hlocks dX9_clear_106

theorem dX9_countConflicts_0 : decode cX9_countConflicts 0 = .ok (.iconst 0, 1) := by decide +kernel
theorem dX9_countConflicts_1 : decode cX9_countConflicts 1 = .ok (.istore_n 1, 1) := by decide +kernel
theorem dX9_countConflicts_2 : decode cX9_countConflicts 2 = .ok (.iconst 0, 1) := by decide +kernel
theorem dX9_countConflicts_3 : decode cX9_countConflicts 3 = .ok (.istore_n 2, 1) := by decide +kernel
theorem dX9_countConflicts_4 : decode cX9_countConflicts 4 = .ok (.iload_n 2, 1) := by decide +kernel
theorem dX9_countConflicts_5 : decode cX9_countConflicts 5 = .ok (.aload_n 0, 1) := by decide +kernel
theorem dX9_countConflicts_6 : decode cX9_countConflicts 6 = .ok (.iconst 3, 1) := by decide +kernel
theorem dX9_countConflicts_7 : decode cX9_countConflicts 7 = .ok (.invokevirtual 87, 3) := by decide +kernel
theorem dX9_countConflicts_10 : decode cX9_countConflicts 10 = .ok (.if_icmp .ge 24, 3) := by decide +kernel
theorem dX9_countConflicts_13 : decode cX9_countConflicts 13 = .ok (.iload_n 1, 1) := by decide +kernel
theorem dX9_countConflicts_14 : decode cX9_countConflicts 14 = .ok (.aload_n 0, 1) := by decide +kernel
theorem dX9_countConflicts_15 : decode cX9_countConflicts 15 = .ok (.getfield 44, 3) := by decide +kernel
theorem dX9_countConflicts_18 : decode cX9_countConflicts 18 = .ok (.iload_n 2, 1) := by decide +kernel
theorem dX9_countConflicts_19 : decode cX9_countConflicts 19 = .ok (.aaload, 1) := by decide +kernel
theorem dX9_countConflicts_20 : decode cX9_countConflicts 20 = .ok (.getfield 94, 3) := by decide +kernel
theorem dX9_countConflicts_23 : decode cX9_countConflicts 23 = .ok (.invokestatic 97, 3) := by decide +kernel
theorem dX9_countConflicts_26 : decode cX9_countConflicts 26 = .ok (.iadd, 1) := by decide +kernel
theorem dX9_countConflicts_27 : decode cX9_countConflicts 27 = .ok (.istore_n 1, 1) := by decide +kernel
theorem dX9_countConflicts_28 : decode cX9_countConflicts 28 = .ok (.iinc 2 1, 3) := by decide +kernel
theorem dX9_countConflicts_31 : decode cX9_countConflicts 31 = .ok (.goto (-27), 3) := by decide +kernel
theorem dX9_countConflicts_34 : decode cX9_countConflicts 34 = .ok (.iload_n 1, 1) := by decide +kernel
theorem dX9_countConflicts_35 : decode cX9_countConflicts 35 = .ok (.iconst 2, 1) := by decide +kernel
theorem dX9_countConflicts_36 : decode cX9_countConflicts 36 = .ok (.idiv, 1) := by decide +kernel
theorem dX9_countConflicts_37 : decode cX9_countConflicts 37 = .ok (.ireturn, 1) := by decide +kernel
theorem hd_X9_countConflicts : yX9_countConflicts.cls = RX9 ∧ yX9_countConflicts.cls ≠ "java/lang/invoke/MethodHandle" ∧ yX9_countConflicts.cls ≠ "java/lang/invoke/VarHandle" ∧ (parseMethodDescriptor yX9_countConflicts.desc).map (fun d => d.parameters.length) = some 0 := by decide +kernel
theorem hs_X9_countConflicts : yX9_countConflicts.cls ≠ "java/lang/invoke/MethodHandle" ∧ yX9_countConflicts.cls ≠ "java/lang/invoke/VarHandle" ∧ (parseMethodDescriptor yX9_countConflicts.desc).map (fun d => d.parameters.length) = some 0 := by decide +kernel
set_option maxHeartbeats 4000000 in
set_option maxRecDepth 100000 in
theorem l_X9_countConflicts_L4 (C : CX p l e s m args meth c cX9_countConflicts 3 RX9 (Option.some Jvm.ClassFile.FieldType.int) E) {o : Nat} (ho : K o = some (8, 0)) {r : Int32} {w' : Wd} (k : Int32 → Int32 → Wd → Option (Int32 × Wd)) (hk : ∀ (v1_4 : Int32) (v2_4 : Int32) (w : Wd) (H : Heap) (locs : List Loc) (ls : Array Slot), HQ E K z w s H locs → lv_has ls 3 [(1, .int v1_4), (2, .int v2_4), (0, rv E (some o))] → k v1_4 v2_4 w = some (r, w') → W p l e ({ frames := 1, cells := 0, slots := 0, locals := 21 } : Room) s m args below meth c H locs 0 0 (MQ below (QI E K z w' r) args s 0 0 (hA E)) (F0 m 34 ls [])) : ∀ (n : Nat) (v1_4 : Int32) (v2_4 : Int32) (w : Wd) (H : Heap) (locs : List Loc) (ls : Array Slot), HQ E K z w s H locs → lv_has ls 3 [(1, .int v1_4), (2, .int v2_4), (0, rv E (some o))] → f_X9_countConflicts_L4 K o k n v1_4 v2_4 w = some (r, w') → W p l e ({ frames := 1, cells := 0, slots := 0, locals := 21 } : Room) s m args below meth c H locs 0 0 (MQ below (QI E K z w' r) args s 0 0 (hA E)) (F0 m 4 ls []) := by
  obtain ⟨hx, hb, hml, hown, hts, hKs, hT, hb0, hlocks, hret⟩ := id C
  intro n
  induction n with
  | zero =>
    intro v1_4 v2_4 w H locs ls hH hl hf
    cases hf
  | succ n ih =>
    intro v1_4 v2_4 w H locs ls hH hl hf
    rw [f_X9_countConflicts_L4] at hf
    refine lv_iload_n hx hb dX9_countConflicts_4 rfl (lv_at hl 1 rfl) ?_
    refine hl_aload_n hx hb dX9_countConflicts_5 rfl (lv_at hl 2 rfl) ?_
    refine lv_iconst (v := 3) hx hb dX9_countConflicts_6 (by decide) ?_
    obtain ⟨q2, hq2, hf⟩ := bnd hf
    refine hcV_i hx hb hml hown hts hKs hT hb0 hH (As := [.int 3]) (rest := [.int v2_4]) (k_X9_size l E K H.size o 3 w ho hq2) (gV m4_17 m3_151 m3_152 m1_2 m3_153) hd_X9_size ⟨Nat.le_of_ble_eq_true rfl, Nat.le_of_ble_eq_true rfl, rfl, rfl⟩ rfl ho rfl rfl rfl hl.1 rfl (rcI rc0) rfl dX9_countConflicts_7 ⟨Nat.zero_le _, Nat.zero_le _⟩ (fun H locs hH => ?_)
    refine lv_icmp_ge (tgt := 34) hx hb dX9_countConflicts_10 (by decide) (fun c3 => ?_) (fun c3 => ?_)
    · replace hf := (if_pos c3).symm.trans hf
      exact hk v1_4 v2_4 _ _ _ _ hH (lv_sub hl [0, 1, 2] rfl) hf
    · replace hf := (if_neg c3).symm.trans hf
      refine lv_iload_n hx hb dX9_countConflicts_13 rfl (lv_at hl 0 rfl) ?_
      refine hl_aload_n hx hb dX9_countConflicts_14 rfl (lv_at hl 2 rfl) ?_
      refine g9_9 hx hb hts hown hKs hH rfl ho m1_175 dX9_countConflicts_15 ?_
      refine lv_iload_n hx hb dX9_countConflicts_18 rfl (lv_at hl 1 rfl) ?_
      obtain ⟨a4, ha4, hf⟩ := bnd hf
      replace ha4 := cha_some ha4
      obtain ⟨j5, hj5, hf⟩ := bnd hf
      refine hw_aald25 hx hb hKs hH ha4.1 ha4.2 hj5 dX9_countConflicts_19 ?_
      obtain ⟨a6, ha6, hf⟩ := bnd hf
      replace ha6 := chk_some ha6
      refine gn3_5 hx hb hts hown hKs hH ha6.1 ha6.2 m1_112 dX9_countConflicts_20 ?_
      obtain ⟨q7, hq7, hf⟩ := bnd hf
      refine hcS_i hx hb hml hown hts hKs hT hb0 hH (As := [.int ((wI q2.2 305 a6))]) (rest := [.int v1_4]) (k_J6_bitCount_0f7a4 l E K H.size (wI q2.2 305 a6) q2.2 hq7) (gS m4_18 m4_8 m1_23 m4_9) hs_J6_bitCount_0f7a4 ⟨Nat.le_of_ble_eq_true rfl, Nat.le_of_ble_eq_true rfl, rfl, rfl⟩ hl.1 rfl (rcI rc0) rfl dX9_countConflicts_23 ⟨Nat.zero_le _, Nat.zero_le _⟩ (fun H locs hH => ?_)
      refine lv_iadd hx hb dX9_countConflicts_26 ?_
      refine lv_istore_n (i := 1) (lv' := [(1, .int ((v1_4 + q7.1))), (2, .int v2_4), (0, rv E (some o))]) hx hb dX9_countConflicts_27 rfl hl (by decide) rfl (fun ls hl => ?_)
      refine lv_iinc (v := (v2_4 + 1)) (lv' := [(2, .int ((v2_4 + 1))), (1, .int ((v1_4 + q7.1))), (0, rv E (some o))]) hx hb dX9_countConflicts_28 hl (k := 1) rfl rfl (by decide) rfl (fun ls hl => ?_)
      refine lv_goto (tgt := 4) hx hb dX9_countConflicts_31 (by decide) ?_
      exact ih (v1_4 + q7.1) (v2_4 + 1) _ _ _ _ hH (lv_sub hl [1, 0, 2] rfl) hf
set_option maxHeartbeats 4000000 in
set_option maxRecDepth 100000 in
theorem k_X9_countConflicts (l : Launch) (E : Ev) (K : Kd) (z : Nat) (o : Nat) (w : Wd) (ho : K o = some (8, 0)) {r : Int32} {w' : Wd} (hf : f_X9_countConflicts K o w = some (r, w')) : Met l yX9_countConflicts (Cond.code yX9_countConflicts cX9_countConflicts 3 (Option.some Jvm.ClassFile.FieldType.int) :: bt) ({ frames := 1, cells := 0, slots := 0, locals := 21 } : Room) (va_Pc [rv E (some o)] (HB E K w z)) (QI E K z w' r) 0 0 (hA E) := by
  refine Met.ofW (cc := cX9_countConflicts) (maxL := 3) (ret := (Option.some Jvm.ClassFile.FieldType.int)) (by decide) rfl ?_
  intro p e s m args below meth c s₁ B hml hv
  obtain ⟨rfl, hz, hP, hKs, hT, hb0⟩ := hv
  have C : CX p l e s m _ meth c cX9_countConflicts 3 RX9 (Option.some Jvm.ClassFile.FieldType.int) E := ⟨B.exec, B.bytes, hml, findClass_of_methodNamed B.named, fun w h => atoms_spec (ws := Cond.code yX9_countConflicts cX9_countConflicts 3 (Option.some Jvm.ClassFile.FieldType.int) :: bt) B.pre w (List.mem_cons_of_mem _ h), hKs, hT, by rw [hz]; exact hb0, B.notSynchronized, B.returns⟩
  have hH : HQ E K z w s s.heap [] := ⟨hP, va_S.rf, hz⟩
  obtain ⟨hx, hb, hml, hown, hts, hKs, hT, hb0, hlocks, hret⟩ := id C
  have hl := lv_entry [rv E (some o)] (n := 3) (by simp [lg_len_nil, lg_len_i, lg_len_j, lg_len_q, lg_len_f, lg_len_d, lg_len_r])
  rw [lg_entry_eq]
  generalize (lg_sl [rv E (some o)] ++ List.replicate (3 - (lg_sl [rv E (some o)]).length) Slot.unset).toArray = ls at hl ⊢
  replace hl : lv_has ls 3 [(0, rv E (some o))] := by simpa only [lv_args, cat_q, cat_i, cat_j, reduceIte, Nat.reduceEqDiff, Nat.reduceAdd, Nat.zero_add] using hl
  generalize s.heap = H at hH ⊢
  unfold f_X9_countConflicts at hf
  refine lv_iconst (v := 0) hx hb dX9_countConflicts_0 (by decide) ?_
  refine lv_istore_n (i := 1) (lv' := [(1, .int 0), (0, rv E (some o))]) hx hb dX9_countConflicts_1 rfl hl (by decide) rfl (fun ls hl => ?_)
  refine lv_iconst (v := 0) hx hb dX9_countConflicts_2 (by decide) ?_
  refine lv_istore_n (i := 2) (lv' := [(2, .int 0), (1, .int 0), (0, rv E (some o))]) hx hb dX9_countConflicts_3 rfl hl (by decide) rfl (fun ls hl => ?_)
  refine l_X9_countConflicts_L4  C ho _ (fun v1_4 v2_4 w1 H locs ls hH hl hf => ?_) fu 0 0 w _ _ _ hH (lv_sub hl [1, 0, 2] rfl) hf
  refine lv_iload_n hx hb dX9_countConflicts_34 rfl (lv_at hl 0 rfl) ?_
  refine lv_iconst (v := 2) hx hb dX9_countConflicts_35 (by decide) ?_
  refine lv_idiv hx hb dX9_countConflicts_36 (by decide) ?_
  exact hw_iret hx hb hret hf hH hlocks dX9_countConflicts_37
end
