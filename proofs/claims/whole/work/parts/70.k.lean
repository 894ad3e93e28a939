section
variable {p : Program} {l : Launch} {e : Env} {s : State} {m : MethodId} {args : Array Value} {below : List Frame} {meth : Method} {c : Code} {E : Ev} {K : Kd} {z : Nat}

theorem dJ6_bitCount_0f7a4_0 : decode cJ6_bitCount_0f7a4 0 = .ok (.iload_n 0, 1) := by decide +kernel
theorem dJ6_bitCount_0f7a4_1 : decode cJ6_bitCount_0f7a4 1 = .ok (.iload_n 0, 1) := by decide +kernel
theorem dJ6_bitCount_0f7a4_2 : decode cJ6_bitCount_0f7a4 2 = .ok (.iconst 1, 1) := by decide +kernel
theorem dJ6_bitCount_0f7a4_3 : decode cJ6_bitCount_0f7a4 3 = .ok (.iushr, 1) := by decide +kernel
theorem dJ6_bitCount_0f7a4_4 : decode cJ6_bitCount_0f7a4 4 = .ok (.ldc_w 265, 3) := by decide +kernel
theorem dJ6_bitCount_0f7a4_7 : decode cJ6_bitCount_0f7a4 7 = .ok (.iand, 1) := by decide +kernel
theorem dJ6_bitCount_0f7a4_8 : decode cJ6_bitCount_0f7a4 8 = .ok (.isub, 1) := by decide +kernel
theorem dJ6_bitCount_0f7a4_9 : decode cJ6_bitCount_0f7a4 9 = .ok (.istore_n 0, 1) := by decide +kernel
theorem dJ6_bitCount_0f7a4_10 : decode cJ6_bitCount_0f7a4 10 = .ok (.iload_n 0, 1) := by decide +kernel
theorem dJ6_bitCount_0f7a4_11 : decode cJ6_bitCount_0f7a4 11 = .ok (.ldc_w 266, 3) := by decide +kernel
theorem dJ6_bitCount_0f7a4_14 : decode cJ6_bitCount_0f7a4 14 = .ok (.iand, 1) := by decide +kernel
theorem dJ6_bitCount_0f7a4_15 : decode cJ6_bitCount_0f7a4 15 = .ok (.iload_n 0, 1) := by decide +kernel
theorem dJ6_bitCount_0f7a4_16 : decode cJ6_bitCount_0f7a4 16 = .ok (.iconst 2, 1) := by decide +kernel
theorem dJ6_bitCount_0f7a4_17 : decode cJ6_bitCount_0f7a4 17 = .ok (.iushr, 1) := by decide +kernel
theorem dJ6_bitCount_0f7a4_18 : decode cJ6_bitCount_0f7a4 18 = .ok (.ldc_w 266, 3) := by decide +kernel
theorem dJ6_bitCount_0f7a4_21 : decode cJ6_bitCount_0f7a4 21 = .ok (.iand, 1) := by decide +kernel
theorem dJ6_bitCount_0f7a4_22 : decode cJ6_bitCount_0f7a4 22 = .ok (.iadd, 1) := by decide +kernel
theorem dJ6_bitCount_0f7a4_23 : decode cJ6_bitCount_0f7a4 23 = .ok (.istore_n 0, 1) := by decide +kernel
theorem dJ6_bitCount_0f7a4_24 : decode cJ6_bitCount_0f7a4 24 = .ok (.iload_n 0, 1) := by decide +kernel
theorem dJ6_bitCount_0f7a4_25 : decode cJ6_bitCount_0f7a4 25 = .ok (.iload_n 0, 1) := by decide +kernel
theorem dJ6_bitCount_0f7a4_26 : decode cJ6_bitCount_0f7a4 26 = .ok (.iconst 4, 1) := by decide +kernel
theorem dJ6_bitCount_0f7a4_27 : decode cJ6_bitCount_0f7a4 27 = .ok (.iushr, 1) := by decide +kernel
theorem dJ6_bitCount_0f7a4_28 : decode cJ6_bitCount_0f7a4 28 = .ok (.iadd, 1) := by decide +kernel
theorem dJ6_bitCount_0f7a4_29 : decode cJ6_bitCount_0f7a4 29 = .ok (.ldc_w 267, 3) := by decide +kernel
theorem dJ6_bitCount_0f7a4_32 : decode cJ6_bitCount_0f7a4 32 = .ok (.iand, 1) := by decide +kernel
theorem dJ6_bitCount_0f7a4_33 : decode cJ6_bitCount_0f7a4 33 = .ok (.istore_n 0, 1) := by decide +kernel
theorem dJ6_bitCount_0f7a4_34 : decode cJ6_bitCount_0f7a4 34 = .ok (.iload_n 0, 1) := by decide +kernel
theorem dJ6_bitCount_0f7a4_35 : decode cJ6_bitCount_0f7a4 35 = .ok (.iload_n 0, 1) := by decide +kernel
theorem dJ6_bitCount_0f7a4_36 : decode cJ6_bitCount_0f7a4 36 = .ok (.bipush 8, 2) := by decide +kernel
theorem dJ6_bitCount_0f7a4_38 : decode cJ6_bitCount_0f7a4 38 = .ok (.iushr, 1) := by decide +kernel
theorem dJ6_bitCount_0f7a4_39 : decode cJ6_bitCount_0f7a4 39 = .ok (.iadd, 1) := by decide +kernel
theorem dJ6_bitCount_0f7a4_40 : decode cJ6_bitCount_0f7a4 40 = .ok (.istore_n 0, 1) := by decide +kernel
theorem dJ6_bitCount_0f7a4_41 : decode cJ6_bitCount_0f7a4 41 = .ok (.iload_n 0, 1) := by decide +kernel
theorem dJ6_bitCount_0f7a4_42 : decode cJ6_bitCount_0f7a4 42 = .ok (.iload_n 0, 1) := by decide +kernel
theorem dJ6_bitCount_0f7a4_43 : decode cJ6_bitCount_0f7a4 43 = .ok (.bipush 16, 2) := by decide +kernel
theorem dJ6_bitCount_0f7a4_45 : decode cJ6_bitCount_0f7a4 45 = .ok (.iushr, 1) := by decide +kernel
theorem dJ6_bitCount_0f7a4_46 : decode cJ6_bitCount_0f7a4 46 = .ok (.iadd, 1) := by decide +kernel
theorem dJ6_bitCount_0f7a4_47 : decode cJ6_bitCount_0f7a4 47 = .ok (.istore_n 0, 1) := by decide +kernel
theorem dJ6_bitCount_0f7a4_48 : decode cJ6_bitCount_0f7a4 48 = .ok (.iload_n 0, 1) := by decide +kernel
theorem dJ6_bitCount_0f7a4_49 : decode cJ6_bitCount_0f7a4 49 = .ok (.bipush 63, 2) := by decide +kernel
theorem dJ6_bitCount_0f7a4_51 : decode cJ6_bitCount_0f7a4 51 = .ok (.iand, 1) := by decide +kernel
theorem dJ6_bitCount_0f7a4_52 : decode cJ6_bitCount_0f7a4 52 = .ok (.ireturn, 1) := by decide +kernel
theorem hs_J6_bitCount_0f7a4 : yJ6_bitCount_0f7a4.cls ≠ "java/lang/invoke/MethodHandle" ∧ yJ6_bitCount_0f7a4.cls ≠ "java/lang/invoke/VarHandle" ∧ (parseMethodDescriptor yJ6_bitCount_0f7a4.desc).map (fun d => d.parameters.length) = some 1 := by decide +kernel
set_option maxHeartbeats 4000000 in
set_option maxRecDepth 100000 in
theorem k_J6_bitCount_0f7a4 (l : Launch) (E : Ev) (K : Kd) (z : Nat) (a_0 : Int32) (w : Wd) {r : Int32} {w' : Wd} (hf : f_J6_bitCount_0f7a4 K a_0 w = some (r, w')) : Met l yJ6_bitCount_0f7a4 (Cond.code yJ6_bitCount_0f7a4 cJ6_bitCount_0f7a4 1 (Option.some Jvm.ClassFile.FieldType.int) :: bt) ({ frames := 0, cells := 0, slots := 0, locals := 0 } : Room) (va_Pc [.int a_0] (HB E K w z)) (QI E K z w' r) 0 0 (hA E) := by
  refine Met.ofW (cc := cJ6_bitCount_0f7a4) (maxL := 1) (ret := (Option.some Jvm.ClassFile.FieldType.int)) (by decide) rfl ?_
  intro p e s m args below meth c s₁ B hml hv
  obtain ⟨rfl, hz, hP, hKs, hT, hb0⟩ := hv
  have C : CX p l e s m _ meth c cJ6_bitCount_0f7a4 1 RJ6 (Option.some Jvm.ClassFile.FieldType.int) E := ⟨B.exec, B.bytes, hml, findClass_of_methodNamed B.named, fun w h => atoms_spec (ws := Cond.code yJ6_bitCount_0f7a4 cJ6_bitCount_0f7a4 1 (Option.some Jvm.ClassFile.FieldType.int) :: bt) B.pre w (List.mem_cons_of_mem _ h), hKs, hT, by rw [hz]; exact hb0, B.notSynchronized, B.returns⟩
  have hH : HQ E K z w s s.heap [] := ⟨hP, va_S.rf, hz⟩
  obtain ⟨hx, hb, hml, hown, hts, hKs, hT, hb0, hlocks, hret⟩ := id C
  have hl := lv_entry [.int a_0] (n := 1) (by simp [lg_len_nil, lg_len_i, lg_len_j, lg_len_q, lg_len_f, lg_len_d, lg_len_r])
  rw [lg_entry_eq]
  generalize (lg_sl [.int a_0] ++ List.replicate (1 - (lg_sl [.int a_0]).length) Slot.unset).toArray = ls at hl ⊢
  replace hl : lv_has ls 1 [(0, .int a_0)] := by simpa only [lv_args, cat_q, cat_i, cat_j, reduceIte, Nat.reduceEqDiff, Nat.reduceAdd, Nat.zero_add] using hl
  generalize s.heap = H at hH ⊢
  unfold f_J6_bitCount_0f7a4 at hf
  refine lv_iload_n hx hb dJ6_bitCount_0f7a4_0 rfl (lv_at hl 0 rfl) ?_
  refine lv_iload_n hx hb dJ6_bitCount_0f7a4_1 rfl (lv_at hl 0 rfl) ?_
  refine lv_iconst (v := 1) hx hb dJ6_bitCount_0f7a4_2 (by decide) ?_
  refine lv_iushr (v := (ushr a_0 1)) hx hb dJ6_bitCount_0f7a4_3 rfl ?_
  refine lv_ldcw (v := 1431655765) hx hb hown (hts _ m4_10) dJ6_bitCount_0f7a4_4 ?_
  refine lv_iand hx hb dJ6_bitCount_0f7a4_7 ?_
  refine lv_isub hx hb dJ6_bitCount_0f7a4_8 ?_
  refine lv_istore_n (i := 0) (lv' := [(0, .int ((a_0 - ((ushr a_0 1) &&& 1431655765))))]) hx hb dJ6_bitCount_0f7a4_9 rfl hl (by decide) rfl (fun ls hl => ?_)
  refine lv_iload_n hx hb dJ6_bitCount_0f7a4_10 rfl (lv_at hl 0 rfl) ?_
  refine lv_ldcw (v := 858993459) hx hb hown (hts _ m4_11) dJ6_bitCount_0f7a4_11 ?_
  refine lv_iand hx hb dJ6_bitCount_0f7a4_14 ?_
  refine lv_iload_n hx hb dJ6_bitCount_0f7a4_15 rfl (lv_at hl 0 rfl) ?_
  refine lv_iconst (v := 2) hx hb dJ6_bitCount_0f7a4_16 (by decide) ?_
  refine lv_iushr (v := (ushr (a_0 - ((ushr a_0 1) &&& 1431655765)) 2)) hx hb dJ6_bitCount_0f7a4_17 rfl ?_
  refine lv_ldcw (v := 858993459) hx hb hown (hts _ m4_11) dJ6_bitCount_0f7a4_18 ?_
  refine lv_iand hx hb dJ6_bitCount_0f7a4_21 ?_
  refine lv_iadd hx hb dJ6_bitCount_0f7a4_22 ?_
  refine lv_istore_n (i := 0) (lv' := [(0, .int ((((a_0 - ((ushr a_0 1) &&& 1431655765)) &&& 858993459) + ((ushr (a_0 - ((ushr a_0 1) &&& 1431655765)) 2) &&& 858993459))))]) hx hb dJ6_bitCount_0f7a4_23 rfl hl (by decide) rfl (fun ls hl => ?_)
  refine lv_iload_n hx hb dJ6_bitCount_0f7a4_24 rfl (lv_at hl 0 rfl) ?_
  refine lv_iload_n hx hb dJ6_bitCount_0f7a4_25 rfl (lv_at hl 0 rfl) ?_
  refine lv_iconst (v := 4) hx hb dJ6_bitCount_0f7a4_26 (by decide) ?_
  refine lv_iushr (v := (ushr (((a_0 - ((ushr a_0 1) &&& 1431655765)) &&& 858993459) + ((ushr (a_0 - ((ushr a_0 1) &&& 1431655765)) 2) &&& 858993459)) 4)) hx hb dJ6_bitCount_0f7a4_27 rfl ?_
  refine lv_iadd hx hb dJ6_bitCount_0f7a4_28 ?_
  refine lv_ldcw (v := 252645135) hx hb hown (hts _ m4_12) dJ6_bitCount_0f7a4_29 ?_
  refine lv_iand hx hb dJ6_bitCount_0f7a4_32 ?_
  refine lv_istore_n (i := 0) (lv' := [(0, .int ((((((a_0 - ((ushr a_0 1) &&& 1431655765)) &&& 858993459) + ((ushr (a_0 - ((ushr a_0 1) &&& 1431655765)) 2) &&& 858993459)) + (ushr (((a_0 - ((ushr a_0 1) &&& 1431655765)) &&& 858993459) + ((ushr (a_0 - ((ushr a_0 1) &&& 1431655765)) 2) &&& 858993459)) 4)) &&& 252645135)))]) hx hb dJ6_bitCount_0f7a4_33 rfl hl (by decide) rfl (fun ls hl => ?_)
  refine lv_iload_n hx hb dJ6_bitCount_0f7a4_34 rfl (lv_at hl 0 rfl) ?_
  refine lv_iload_n hx hb dJ6_bitCount_0f7a4_35 rfl (lv_at hl 0 rfl) ?_
  refine lv_bipush (v := 8) hx hb dJ6_bitCount_0f7a4_36 (by decide) ?_
  refine lv_iushr (v := (ushr (((((a_0 - ((ushr a_0 1) &&& 1431655765)) &&& 858993459) + ((ushr (a_0 - ((ushr a_0 1) &&& 1431655765)) 2) &&& 858993459)) + (ushr (((a_0 - ((ushr a_0 1) &&& 1431655765)) &&& 858993459) + ((ushr (a_0 - ((ushr a_0 1) &&& 1431655765)) 2) &&& 858993459)) 4)) &&& 252645135) 8)) hx hb dJ6_bitCount_0f7a4_38 rfl ?_
  refine lv_iadd hx hb dJ6_bitCount_0f7a4_39 ?_
  refine lv_istore_n (i := 0) (lv' := [(0, .int (((((((a_0 - ((ushr a_0 1) &&& 1431655765)) &&& 858993459) + ((ushr (a_0 - ((ushr a_0 1) &&& 1431655765)) 2) &&& 858993459)) + (ushr (((a_0 - ((ushr a_0 1) &&& 1431655765)) &&& 858993459) + ((ushr (a_0 - ((ushr a_0 1) &&& 1431655765)) 2) &&& 858993459)) 4)) &&& 252645135) + (ushr (((((a_0 - ((ushr a_0 1) &&& 1431655765)) &&& 858993459) + ((ushr (a_0 - ((ushr a_0 1) &&& 1431655765)) 2) &&& 858993459)) + (ushr (((a_0 - ((ushr a_0 1) &&& 1431655765)) &&& 858993459) + ((ushr (a_0 - ((ushr a_0 1) &&& 1431655765)) 2) &&& 858993459)) 4)) &&& 252645135) 8))))]) hx hb dJ6_bitCount_0f7a4_40 rfl hl (by decide) rfl (fun ls hl => ?_)
  refine lv_iload_n hx hb dJ6_bitCount_0f7a4_41 rfl (lv_at hl 0 rfl) ?_
  refine lv_iload_n hx hb dJ6_bitCount_0f7a4_42 rfl (lv_at hl 0 rfl) ?_
  refine lv_bipush (v := 16) hx hb dJ6_bitCount_0f7a4_43 (by decide) ?_
  refine lv_iushr (v := (ushr ((((((a_0 - ((ushr a_0 1) &&& 1431655765)) &&& 858993459) + ((ushr (a_0 - ((ushr a_0 1) &&& 1431655765)) 2) &&& 858993459)) + (ushr (((a_0 - ((ushr a_0 1) &&& 1431655765)) &&& 858993459) + ((ushr (a_0 - ((ushr a_0 1) &&& 1431655765)) 2) &&& 858993459)) 4)) &&& 252645135) + (ushr (((((a_0 - ((ushr a_0 1) &&& 1431655765)) &&& 858993459) + ((ushr (a_0 - ((ushr a_0 1) &&& 1431655765)) 2) &&& 858993459)) + (ushr (((a_0 - ((ushr a_0 1) &&& 1431655765)) &&& 858993459) + ((ushr (a_0 - ((ushr a_0 1) &&& 1431655765)) 2) &&& 858993459)) 4)) &&& 252645135) 8)) 16)) hx hb dJ6_bitCount_0f7a4_45 rfl ?_
  refine lv_iadd hx hb dJ6_bitCount_0f7a4_46 ?_
  refine lv_istore_n (i := 0) (lv' := [(0, .int ((((((((a_0 - ((ushr a_0 1) &&& 1431655765)) &&& 858993459) + ((ushr (a_0 - ((ushr a_0 1) &&& 1431655765)) 2) &&& 858993459)) + (ushr (((a_0 - ((ushr a_0 1) &&& 1431655765)) &&& 858993459) + ((ushr (a_0 - ((ushr a_0 1) &&& 1431655765)) 2) &&& 858993459)) 4)) &&& 252645135) + (ushr (((((a_0 - ((ushr a_0 1) &&& 1431655765)) &&& 858993459) + ((ushr (a_0 - ((ushr a_0 1) &&& 1431655765)) 2) &&& 858993459)) + (ushr (((a_0 - ((ushr a_0 1) &&& 1431655765)) &&& 858993459) + ((ushr (a_0 - ((ushr a_0 1) &&& 1431655765)) 2) &&& 858993459)) 4)) &&& 252645135) 8)) + (ushr ((((((a_0 - ((ushr a_0 1) &&& 1431655765)) &&& 858993459) + ((ushr (a_0 - ((ushr a_0 1) &&& 1431655765)) 2) &&& 858993459)) + (ushr (((a_0 - ((ushr a_0 1) &&& 1431655765)) &&& 858993459) + ((ushr (a_0 - ((ushr a_0 1) &&& 1431655765)) 2) &&& 858993459)) 4)) &&& 252645135) + (ushr (((((a_0 - ((ushr a_0 1) &&& 1431655765)) &&& 858993459) + ((ushr (a_0 - ((ushr a_0 1) &&& 1431655765)) 2) &&& 858993459)) + (ushr (((a_0 - ((ushr a_0 1) &&& 1431655765)) &&& 858993459) + ((ushr (a_0 - ((ushr a_0 1) &&& 1431655765)) 2) &&& 858993459)) 4)) &&& 252645135) 8)) 16))))]) hx hb dJ6_bitCount_0f7a4_47 rfl hl (by decide) rfl (fun ls hl => ?_)
  refine lv_iload_n hx hb dJ6_bitCount_0f7a4_48 rfl (lv_at hl 0 rfl) ?_
  refine lv_bipush (v := 63) hx hb dJ6_bitCount_0f7a4_49 (by decide) ?_
  refine lv_iand hx hb dJ6_bitCount_0f7a4_51 ?_
  exact hw_iret hx hb hret hf hH hlocks dJ6_bitCount_0f7a4_52

theorem dJ7_fill_53178_0 : decode cJ7_fill_53178 0 = .ok (.iconst 0, 1) := by decide +kernel
theorem dJ7_fill_53178_1 : decode cJ7_fill_53178 1 = .ok (.istore_n 2, 1) := by decide +kernel
theorem dJ7_fill_53178_2 : decode cJ7_fill_53178 2 = .ok (.aload_n 0, 1) := by decide +kernel
theorem dJ7_fill_53178_3 : decode cJ7_fill_53178 3 = .ok (.arraylength, 1) := by decide +kernel
theorem dJ7_fill_53178_4 : decode cJ7_fill_53178 4 = .ok (.istore_n 3, 1) := by decide +kernel
theorem dJ7_fill_53178_5 : decode cJ7_fill_53178 5 = .ok (.iload_n 2, 1) := by decide +kernel
theorem dJ7_fill_53178_6 : decode cJ7_fill_53178 6 = .ok (.iload_n 3, 1) := by decide +kernel
theorem dJ7_fill_53178_7 : decode cJ7_fill_53178 7 = .ok (.if_icmp .ge 13, 3) := by decide +kernel
theorem dJ7_fill_53178_10 : decode cJ7_fill_53178 10 = .ok (.aload_n 0, 1) := by decide +kernel
theorem dJ7_fill_53178_11 : decode cJ7_fill_53178 11 = .ok (.iload_n 2, 1) := by decide +kernel
theorem dJ7_fill_53178_12 : decode cJ7_fill_53178 12 = .ok (.iload_n 1, 1) := by decide +kernel
theorem dJ7_fill_53178_13 : decode cJ7_fill_53178 13 = .ok (.iastore, 1) := by decide +kernel
theorem dJ7_fill_53178_14 : decode cJ7_fill_53178 14 = .ok (.iinc 2 1, 3) := by decide +kernel
theorem dJ7_fill_53178_17 : decode cJ7_fill_53178 17 = .ok (.goto (-12), 3) := by decide +kernel
theorem dJ7_fill_53178_20 : decode cJ7_fill_53178 20 = .ok (.return_, 1) := by decide +kernel
theorem hs_J7_fill_53178 : yJ7_fill_53178.cls ≠ "java/lang/invoke/MethodHandle" ∧ yJ7_fill_53178.cls ≠ "java/lang/invoke/VarHandle" ∧ (parseMethodDescriptor yJ7_fill_53178.desc).map (fun d => d.parameters.length) = some 2 := by decide +kernel
set_option maxHeartbeats 4000000 in
set_option maxRecDepth 100000 in
theorem l_J7_fill_53178_L5 (C : CX p l e s m args meth c cJ7_fill_53178 4 RJ7 (Option.none : Option Jvm.ClassFile.FieldType) E) {w' : Wd} (k : Option Nat → Int32 → Int32 → Int32 → Wd → Option Wd) (hk : ∀ (v0_5 : Option Nat) (v1_5 : Int32) (v2_5 : Int32) (v3_5 : Int32) (w : Wd) (H : Heap) (locs : List Loc) (ls : Array Slot), HQ E K z w s H locs → lv_has ls 4 [(0, rv E v0_5), (1, .int v1_5), (2, .int v2_5), (3, .int v3_5)] → k v0_5 v1_5 v2_5 v3_5 w = some w' → W p l e ({ frames := 0, cells := 0, slots := 0, locals := 0 } : Room) s m args below meth c H locs 0 0 (MQ below (QV E K z w') args s 0 0 (hA E)) (F0 m 20 ls [])) : ∀ (n : Nat) (v0_5 : Option Nat) (v1_5 : Int32) (v2_5 : Int32) (v3_5 : Int32) (w : Wd) (H : Heap) (locs : List Loc) (ls : Array Slot), HQ E K z w s H locs → lv_has ls 4 [(0, rv E v0_5), (1, .int v1_5), (2, .int v2_5), (3, .int v3_5)] → f_J7_fill_53178_L5 K k n v0_5 v1_5 v2_5 v3_5 w = some w' → W p l e ({ frames := 0, cells := 0, slots := 0, locals := 0 } : Room) s m args below meth c H locs 0 0 (MQ below (QV E K z w') args s 0 0 (hA E)) (F0 m 5 ls []) := by
  obtain ⟨hx, hb, hml, hown, hts, hKs, hT, hb0, hlocks, hret⟩ := id C
  intro n
  induction n with
  | zero =>
    intro v0_5 v1_5 v2_5 v3_5 w H locs ls hH hl hf
    cases hf
  | succ n ih =>
    intro v0_5 v1_5 v2_5 v3_5 w H locs ls hH hl hf
    rw [f_J7_fill_53178_L5] at hf
    refine lv_iload_n hx hb dJ7_fill_53178_5 rfl (lv_at hl 2 rfl) ?_
    refine lv_iload_n hx hb dJ7_fill_53178_6 rfl (lv_at hl 3 rfl) ?_
    refine lv_icmp_ge (tgt := 20) hx hb dJ7_fill_53178_7 (by decide) (fun c3 => ?_) (fun c3 => ?_)
    · replace hf := (if_pos c3).symm.trans hf
      exact hk v0_5 v1_5 v2_5 v3_5 _ _ _ _ hH (lv_sub hl [0, 1, 2, 3] rfl) hf
    · replace hf := (if_neg c3).symm.trans hf
      refine hl_aload_n hx hb dJ7_fill_53178_10 rfl (lv_at hl 0 rfl) ?_
      refine lv_iload_n hx hb dJ7_fill_53178_11 rfl (lv_at hl 2 rfl) ?_
      refine lv_iload_n hx hb dJ7_fill_53178_12 rfl (lv_at hl 1 rfl) ?_
      obtain ⟨a4, ha4, hf⟩ := bnd hf
      replace ha4 := cha_some ha4
      obtain ⟨j5, hj5, hf⟩ := bnd hf
      obtain ⟨w6, hw6, hf⟩ := bnd hf
      replace hw6 := Option.some.inj hw6
      refine hw_iast (x := v1_5) hx hb hKs hH ha4.1 ha4.2 hj5 dJ7_fill_53178_13 (fun H locs hH => ?_)
      rw [hw6] at hH
      refine lv_iinc (v := (v2_5 + 1)) (lv' := [(2, .int ((v2_5 + 1))), (0, rv E v0_5), (1, .int v1_5), (3, .int v3_5)]) hx hb dJ7_fill_53178_14 hl (k := 2) rfl rfl (by decide) rfl (fun ls hl => ?_)
      refine lv_goto (tgt := 5) hx hb dJ7_fill_53178_17 (by decide) ?_
      exact ih v0_5 v1_5 (v2_5 + 1) v3_5 _ _ _ _ hH (lv_sub hl [1, 2, 0, 3] rfl) hf
set_option maxHeartbeats 4000000 in
set_option maxRecDepth 100000 in
theorem k_J7_fill_53178 (l : Launch) (E : Ev) (K : Kd) (z : Nat) (a_0 : Option Nat) (a_1 : Int32) (w : Wd) {w' : Wd} (hf : f_J7_fill_53178 K a_0 a_1 w = some w') : Met l yJ7_fill_53178 (Cond.code yJ7_fill_53178 cJ7_fill_53178 4 (Option.none : Option Jvm.ClassFile.FieldType) :: bt) ({ frames := 0, cells := 0, slots := 0, locals := 0 } : Room) (va_Pc [rv E a_0, .int a_1] (HB E K w z)) (QV E K z w') 0 0 (hA E) := by
  refine Met.ofW (cc := cJ7_fill_53178) (maxL := 4) (ret := (Option.none : Option Jvm.ClassFile.FieldType)) (by decide) rfl ?_
  intro p e s m args below meth c s₁ B hml hv
  obtain ⟨rfl, hz, hP, hKs, hT, hb0⟩ := hv
  have C : CX p l e s m _ meth c cJ7_fill_53178 4 RJ7 (Option.none : Option Jvm.ClassFile.FieldType) E := ⟨B.exec, B.bytes, hml, findClass_of_methodNamed B.named, fun w h => atoms_spec (ws := Cond.code yJ7_fill_53178 cJ7_fill_53178 4 (Option.none : Option Jvm.ClassFile.FieldType) :: bt) B.pre w (List.mem_cons_of_mem _ h), hKs, hT, by rw [hz]; exact hb0, B.notSynchronized, B.returns⟩
  have hH : HQ E K z w s s.heap [] := ⟨hP, va_S.rf, hz⟩
  obtain ⟨hx, hb, hml, hown, hts, hKs, hT, hb0, hlocks, hret⟩ := id C
  have hl := lv_entry [rv E a_0, .int a_1] (n := 4) (by simp [lg_len_nil, lg_len_i, lg_len_j, lg_len_q, lg_len_f, lg_len_d, lg_len_r])
  rw [lg_entry_eq]
  generalize (lg_sl [rv E a_0, .int a_1] ++ List.replicate (4 - (lg_sl [rv E a_0, .int a_1]).length) Slot.unset).toArray = ls at hl ⊢
  replace hl : lv_has ls 4 [(0, rv E a_0), (1, .int a_1)] := by simpa only [lv_args, cat_q, cat_i, cat_j, reduceIte, Nat.reduceEqDiff, Nat.reduceAdd, Nat.zero_add] using hl
  generalize s.heap = H at hH ⊢
  unfold f_J7_fill_53178 at hf
  refine lv_iconst (v := 0) hx hb dJ7_fill_53178_0 (by decide) ?_
  refine lv_istore_n (i := 2) (lv' := [(2, .int 0), (0, rv E a_0), (1, .int a_1)]) hx hb dJ7_fill_53178_1 rfl hl (by decide) rfl (fun ls hl => ?_)
  refine hl_aload_n hx hb dJ7_fill_53178_2 rfl (lv_at hl 1 rfl) ?_
  obtain ⟨a1, ha1, hf⟩ := bnd hf
  replace ha1 := cha_some ha1
  refine hw_alen20 hx hb hKs hH ha1.1 ha1.2 dJ7_fill_53178_3 ?_
  refine lv_istore_n (i := 3) (lv' := [(3, .int ((nI a1.2))), (2, .int 0), (0, rv E a_0), (1, .int a_1)]) hx hb dJ7_fill_53178_4 rfl hl (by decide) rfl (fun ls hl => ?_)
  refine l_J7_fill_53178_L5  C _ (fun v0_5 v1_5 v2_5 v3_5 w2 H locs ls hH hl hf => ?_) fu a_0 a_1 0 (nI a1.2) w _ _ _ hH (lv_sub hl [2, 3, 1, 0] rfl) hf
  exact hw_vret hx hb hret hf hH hlocks dJ7_fill_53178_20

theorem dX12_feed_0 : decode cX12_feed 0 = .ok (.aload_n 0, 1) := by decide +kernel
theorem dX12_feed_1 : decode cX12_feed 1 = .ok (.getfield 70, 3) := by decide +kernel
theorem dX12_feed_4 : decode cX12_feed 4 = .ok (.bipush 20, 2) := by decide +kernel
theorem dX12_feed_6 : decode cX12_feed 6 = .ok (.iadd, 1) := by decide +kernel
theorem dX12_feed_7 : decode cX12_feed 7 = .ok (.sipush 900, 3) := by decide +kernel
theorem dX12_feed_10 : decode cX12_feed 10 = .ok (.if_icmp .le 5, 3) := by decide +kernel
theorem dX12_feed_13 : decode cX12_feed 13 = .ok (.iconst (-1), 1) := by decide +kernel
theorem dX12_feed_14 : decode cX12_feed 14 = .ok (.ireturn, 1) := by decide +kernel
theorem dX12_feed_15 : decode cX12_feed 15 = .ok (.aload_n 0, 1) := by decide +kernel
theorem dX12_feed_16 : decode cX12_feed 16 = .ok (.iload_n 1, 1) := by decide +kernel
theorem dX12_feed_17 : decode cX12_feed 17 = .ok (.invokevirtual 73, 3) := by decide +kernel
theorem dX12_feed_20 : decode cX12_feed 20 = .ok (.aload_n 0, 1) := by decide +kernel
theorem dX12_feed_21 : decode cX12_feed 21 = .ok (.iload_n 2, 1) := by decide +kernel
theorem dX12_feed_22 : decode cX12_feed 22 = .ok (.invokevirtual 73, 3) := by decide +kernel
theorem dX12_feed_25 : decode cX12_feed 25 = .ok (.aload_n 0, 1) := by decide +kernel
theorem dX12_feed_26 : decode cX12_feed 26 = .ok (.iload_n 3, 1) := by decide +kernel
theorem dX12_feed_27 : decode cX12_feed 27 = .ok (.invokevirtual 73, 3) := by decide +kernel
theorem dX12_feed_30 : decode cX12_feed 30 = .ok (.aload_n 0, 1) := by decide +kernel
theorem dX12_feed_31 : decode cX12_feed 31 = .ok (.iload 4, 2) := by decide +kernel
theorem dX12_feed_33 : decode cX12_feed 33 = .ok (.invokevirtual 73, 3) := by decide +kernel
theorem dX12_feed_36 : decode cX12_feed 36 = .ok (.aload_n 0, 1) := by decide +kernel
theorem dX12_feed_37 : decode cX12_feed 37 = .ok (.iload 5, 2) := by decide +kernel
theorem dX12_feed_39 : decode cX12_feed 39 = .ok (.invokevirtual 73, 3) := by decide +kernel
theorem dX12_feed_42 : decode cX12_feed 42 = .ok (.aload_n 0, 1) := by decide +kernel
theorem dX12_feed_43 : decode cX12_feed 43 = .ok (.getfield 70, 3) := by decide +kernel
theorem dX12_feed_46 : decode cX12_feed 46 = .ok (.ireturn, 1) := by decide +kernel
theorem hd_X12_feed : yX12_feed.cls = RX12 ∧ yX12_feed.cls ≠ "java/lang/invoke/MethodHandle" ∧ yX12_feed.cls ≠ "java/lang/invoke/VarHandle" ∧ (parseMethodDescriptor yX12_feed.desc).map (fun d => d.parameters.length) = some 5 := by decide +kernel
theorem hs_X12_feed : yX12_feed.cls ≠ "java/lang/invoke/MethodHandle" ∧ yX12_feed.cls ≠ "java/lang/invoke/VarHandle" ∧ (parseMethodDescriptor yX12_feed.desc).map (fun d => d.parameters.length) = some 5 := by decide +kernel
set_option maxHeartbeats 4000000 in
set_option maxRecDepth 100000 in
theorem k_X12_feed (l : Launch) (E : Ev) (K : Kd) (z : Nat) (o : Nat) (a_1 : Int32) (a_2 : Int32) (a_3 : Int32) (a_4 : Int32) (a_5 : Int32) (w : Wd) (ho : K o = some (10, 0)) {r : Int32} {w' : Wd} (hf : f_X12_feed K o a_1 a_2 a_3 a_4 a_5 w = some (r, w')) : Met l yX12_feed (Cond.code yX12_feed cX12_feed 6 (Option.some Jvm.ClassFile.FieldType.int) :: bt) ({ frames := 1, cells := 0, slots := 0, locals := 22 } : Room) (va_Pc [rv E (some o), .int a_1, .int a_2, .int a_3, .int a_4, .int a_5] (HB E K w z)) (QI E K z w' r) 0 0 (hA E) := by
  refine Met.ofW (cc := cX12_feed) (maxL := 6) (ret := (Option.some Jvm.ClassFile.FieldType.int)) (by decide) rfl ?_
  intro p e s m args below meth c s₁ B hml hv
  obtain ⟨rfl, hz, hP, hKs, hT, hb0⟩ := hv
  have C : CX p l e s m _ meth c cX12_feed 6 RX12 (Option.some Jvm.ClassFile.FieldType.int) E := ⟨B.exec, B.bytes, hml, findClass_of_methodNamed B.named, fun w h => atoms_spec (ws := Cond.code yX12_feed cX12_feed 6 (Option.some Jvm.ClassFile.FieldType.int) :: bt) B.pre w (List.mem_cons_of_mem _ h), hKs, hT, by rw [hz]; exact hb0, B.notSynchronized, B.returns⟩
  have hH : HQ E K z w s s.heap [] := ⟨hP, va_S.rf, hz⟩
  obtain ⟨hx, hb, hml, hown, hts, hKs, hT, hb0, hlocks, hret⟩ := id C
  have hl := lv_entry [rv E (some o), .int a_1, .int a_2, .int a_3, .int a_4, .int a_5] (n := 6) (by simp [lg_len_nil, lg_len_i, lg_len_j, lg_len_q, lg_len_f, lg_len_d, lg_len_r])
  rw [lg_entry_eq]
  generalize (lg_sl [rv E (some o), .int a_1, .int a_2, .int a_3, .int a_4, .int a_5] ++ List.replicate (6 - (lg_sl [rv E (some o), .int a_1, .int a_2, .int a_3, .int a_4, .int a_5]).length) Slot.unset).toArray = ls at hl ⊢
  replace hl : lv_has ls 6 [(0, rv E (some o)), (1, .int a_1), (2, .int a_2), (3, .int a_3), (4, .int a_4), (5, .int a_5)] := by simpa only [lv_args, cat_q, cat_i, cat_j, reduceIte, Nat.reduceEqDiff, Nat.reduceAdd, Nat.zero_add] using hl
  generalize s.heap = H at hH ⊢
  unfold f_X12_feed at hf
  refine hl_aload_n hx hb dX12_feed_0 rfl (lv_at hl 0 rfl) ?_
  refine g12_1 hx hb hts hown hKs hH rfl ho m2_220 dX12_feed_1 ?_
  refine lv_bipush (v := 20) hx hb dX12_feed_4 (by decide) ?_
  refine lv_iadd hx hb dX12_feed_6 ?_
  refine lv_sipush (v := 900) hx hb dX12_feed_7 (by decide) ?_
  refine lv_icmp_le (tgt := 15) hx hb dX12_feed_10 (by decide) (fun c1 => ?_) (fun c1 => ?_)
  · replace hf := (if_pos c1).symm.trans hf
    refine hl_aload_n hx hb dX12_feed_15 rfl (lv_at hl 0 rfl) ?_
    refine lv_iload_n hx hb dX12_feed_16 rfl (lv_at hl 1 rfl) ?_
    obtain ⟨q2, hq2, hf⟩ := bnd hf
    refine hcV_v hx hb hml hown hts hKs hT hb0 hH (As := [.int a_1]) (rest := []) (k_X12_append l E K H.size o a_1 w ho hq2) (gV m3_32 m3_34 ms_0 m1_1 m3_35) hd_X12_append ⟨Nat.le_of_ble_eq_true rfl, Nat.le_of_ble_eq_true rfl, rfl, rfl⟩ rfl ho rfl rfl rfl hl.1 rfl rc0 rfl dX12_feed_17 ⟨Nat.zero_le _, Nat.zero_le _⟩ (fun H locs hH => ?_)
    refine hl_aload_n hx hb dX12_feed_20 rfl (lv_at hl 0 rfl) ?_
    refine lv_iload_n hx hb dX12_feed_21 rfl (lv_at hl 2 rfl) ?_
    obtain ⟨q3, hq3, hf⟩ := bnd hf
    refine hcV_v hx hb hml hown hts hKs hT hb0 hH (As := [.int a_2]) (rest := []) (k_X12_append l E K H.size o a_2 q2 ho hq3) (gV m3_32 m3_34 ms_0 m1_1 m3_35) hd_X12_append ⟨Nat.le_of_ble_eq_true rfl, Nat.le_of_ble_eq_true rfl, rfl, rfl⟩ rfl ho rfl rfl rfl hl.1 rfl rc0 rfl dX12_feed_22 ⟨Nat.zero_le _, Nat.zero_le _⟩ (fun H locs hH => ?_)
    refine hl_aload_n hx hb dX12_feed_25 rfl (lv_at hl 0 rfl) ?_
    refine lv_iload_n hx hb dX12_feed_26 rfl (lv_at hl 3 rfl) ?_
    obtain ⟨q4, hq4, hf⟩ := bnd hf
    refine hcV_v hx hb hml hown hts hKs hT hb0 hH (As := [.int a_3]) (rest := []) (k_X12_append l E K H.size o a_3 q3 ho hq4) (gV m3_32 m3_34 ms_0 m1_1 m3_35) hd_X12_append ⟨Nat.le_of_ble_eq_true rfl, Nat.le_of_ble_eq_true rfl, rfl, rfl⟩ rfl ho rfl rfl rfl hl.1 rfl rc0 rfl dX12_feed_27 ⟨Nat.zero_le _, Nat.zero_le _⟩ (fun H locs hH => ?_)
    refine hl_aload_n hx hb dX12_feed_30 rfl (lv_at hl 0 rfl) ?_
    refine lv_iload hx hb dX12_feed_31 (lv_at hl 4 rfl) ?_
    obtain ⟨q5, hq5, hf⟩ := bnd hf
    refine hcV_v hx hb hml hown hts hKs hT hb0 hH (As := [.int a_4]) (rest := []) (k_X12_append l E K H.size o a_4 q4 ho hq5) (gV m3_32 m3_34 ms_0 m1_1 m3_35) hd_X12_append ⟨Nat.le_of_ble_eq_true rfl, Nat.le_of_ble_eq_true rfl, rfl, rfl⟩ rfl ho rfl rfl rfl hl.1 rfl rc0 rfl dX12_feed_33 ⟨Nat.zero_le _, Nat.zero_le _⟩ (fun H locs hH => ?_)
    refine hl_aload_n hx hb dX12_feed_36 rfl (lv_at hl 0 rfl) ?_
    refine lv_iload hx hb dX12_feed_37 (lv_at hl 5 rfl) ?_
    obtain ⟨q6, hq6, hf⟩ := bnd hf
    refine hcV_v hx hb hml hown hts hKs hT hb0 hH (As := [.int a_5]) (rest := []) (k_X12_append l E K H.size o a_5 q5 ho hq6) (gV m3_32 m3_34 ms_0 m1_1 m3_35) hd_X12_append ⟨Nat.le_of_ble_eq_true rfl, Nat.le_of_ble_eq_true rfl, rfl, rfl⟩ rfl ho rfl rfl rfl hl.1 rfl rc0 rfl dX12_feed_39 ⟨Nat.zero_le _, Nat.zero_le _⟩ (fun H locs hH => ?_)
    refine hl_aload_n hx hb dX12_feed_42 rfl (lv_at hl 0 rfl) ?_
    refine g12_1 hx hb hts hown hKs hH rfl ho m2_220 dX12_feed_43 ?_
    exact hw_iret hx hb hret hf hH hlocks dX12_feed_46
  · replace hf := (if_neg c1).symm.trans hf
    refine lv_iconst (v := (-1)) hx hb dX12_feed_13 (by decide) ?_
    exact hw_iret hx hb hret hf hH hlocks dX12_feed_14

theorem dX12_bufferedName_0 : decode cX12_bufferedName 0 = .ok (.lconst 0, 1) := by decide +kernel
theorem dX12_bufferedName_1 : decode cX12_bufferedName 1 = .ok (.lstore_n 1, 1) := by decide +kernel
theorem dX12_bufferedName_2 : decode cX12_bufferedName 2 = .ok (.aload_n 0, 1) := by decide +kernel
theorem dX12_bufferedName_3 : decode cX12_bufferedName 3 = .ok (.getfield 70, 3) := by decide +kernel
theorem dX12_bufferedName_6 : decode cX12_bufferedName 6 = .ok (.bipush 8, 2) := by decide +kernel
theorem dX12_bufferedName_8 : decode cX12_bufferedName 8 = .ok (.if_icmp .le 5, 3) := by decide +kernel
theorem dX12_bufferedName_11 : decode cX12_bufferedName 11 = .ok (.lconst 0, 1) := by decide +kernel
theorem dX12_bufferedName_12 : decode cX12_bufferedName 12 = .ok (.lreturn, 1) := by decide +kernel
theorem dX12_bufferedName_13 : decode cX12_bufferedName 13 = .ok (.iconst 0, 1) := by decide +kernel
theorem dX12_bufferedName_14 : decode cX12_bufferedName 14 = .ok (.istore_n 3, 1) := by decide +kernel
theorem dX12_bufferedName_15 : decode cX12_bufferedName 15 = .ok (.iload_n 3, 1) := by decide +kernel
theorem dX12_bufferedName_16 : decode cX12_bufferedName 16 = .ok (.aload_n 0, 1) := by decide +kernel
theorem dX12_bufferedName_17 : decode cX12_bufferedName 17 = .ok (.getfield 70, 3) := by decide +kernel
theorem dX12_bufferedName_20 : decode cX12_bufferedName 20 = .ok (.if_icmp .ge 36, 3) := by decide +kernel
theorem dX12_bufferedName_23 : decode cX12_bufferedName 23 = .ok (.aload_n 0, 1) := by decide +kernel
theorem dX12_bufferedName_24 : decode cX12_bufferedName 24 = .ok (.getfield 12, 3) := by decide +kernel
theorem dX12_bufferedName_27 : decode cX12_bufferedName 27 = .ok (.iload_n 3, 1) := by decide +kernel
theorem dX12_bufferedName_28 : decode cX12_bufferedName 28 = .ok (.baload, 1) := by decide +kernel
theorem dX12_bufferedName_29 : decode cX12_bufferedName 29 = .ok (.invokestatic 150, 3) := by decide +kernel
theorem dX12_bufferedName_32 : decode cX12_bufferedName 32 = .ok (.ifCond .ne 5, 3) := by decide +kernel
theorem dX12_bufferedName_35 : decode cX12_bufferedName 35 = .ok (.lconst 0, 1) := by decide +kernel
theorem dX12_bufferedName_36 : decode cX12_bufferedName 36 = .ok (.lreturn, 1) := by decide +kernel
theorem dX12_bufferedName_37 : decode cX12_bufferedName 37 = .ok (.lload_n 1, 1) := by decide +kernel
theorem dX12_bufferedName_38 : decode cX12_bufferedName 38 = .ok (.bipush 8, 2) := by decide +kernel
theorem dX12_bufferedName_40 : decode cX12_bufferedName 40 = .ok (.lshl, 1) := by decide +kernel
theorem dX12_bufferedName_41 : decode cX12_bufferedName 41 = .ok (.aload_n 0, 1) := by decide +kernel
theorem dX12_bufferedName_42 : decode cX12_bufferedName 42 = .ok (.getfield 12, 3) := by decide +kernel
theorem dX12_bufferedName_45 : decode cX12_bufferedName 45 = .ok (.iload_n 3, 1) := by decide +kernel
theorem dX12_bufferedName_46 : decode cX12_bufferedName 46 = .ok (.baload, 1) := by decide +kernel
theorem dX12_bufferedName_47 : decode cX12_bufferedName 47 = .ok (.i2l, 1) := by decide +kernel
theorem dX12_bufferedName_48 : decode cX12_bufferedName 48 = .ok (.lor, 1) := by decide +kernel
theorem dX12_bufferedName_49 : decode cX12_bufferedName 49 = .ok (.lstore_n 1, 1) := by decide +kernel
theorem dX12_bufferedName_50 : decode cX12_bufferedName 50 = .ok (.iinc 3 1, 3) := by decide +kernel
theorem dX12_bufferedName_53 : decode cX12_bufferedName 53 = .ok (.goto (-38), 3) := by decide +kernel
theorem dX12_bufferedName_56 : decode cX12_bufferedName 56 = .ok (.lload_n 1, 1) := by decide +kernel
theorem dX12_bufferedName_57 : decode cX12_bufferedName 57 = .ok (.lreturn, 1) := by decide +kernel
theorem hd_X12_bufferedName : yX12_bufferedName.cls = RX12 ∧ yX12_bufferedName.cls ≠ "java/lang/invoke/MethodHandle" ∧ yX12_bufferedName.cls ≠ "java/lang/invoke/VarHandle" ∧ (parseMethodDescriptor yX12_bufferedName.desc).map (fun d => d.parameters.length) = some 0 := by decide +kernel
theorem hs_X12_bufferedName : yX12_bufferedName.cls ≠ "java/lang/invoke/MethodHandle" ∧ yX12_bufferedName.cls ≠ "java/lang/invoke/VarHandle" ∧ (parseMethodDescriptor yX12_bufferedName.desc).map (fun d => d.parameters.length) = some 0 := by decide +kernel
set_option maxHeartbeats 4000000 in
set_option maxRecDepth 100000 in
theorem l_X12_bufferedName_L15 (C : CX p l e s m args meth c cX12_bufferedName 4 RX12 (Option.some Jvm.ClassFile.FieldType.long) E) {o : Nat} (ho : K o = some (10, 0)) {r : Int64} {w' : Wd} (k : Int64 → Int32 → Wd → Option (Int64 × Wd)) (hk : ∀ (v1_15 : Int64) (v3_15 : Int32) (w : Wd) (H : Heap) (locs : List Loc) (ls : Array Slot), HQ E K z w s H locs → lv_has ls 4 [(1, .long v1_15), (3, .int v3_15), (0, rv E (some o))] → k v1_15 v3_15 w = some (r, w') → W p l e ({ frames := 1, cells := 0, slots := 0, locals := 20 } : Room) s m args below meth c H locs 0 0 (MQ below (QL E K z w' r) args s 0 0 (hA E)) (F0 m 56 ls [])) : ∀ (n : Nat) (v1_15 : Int64) (v3_15 : Int32) (w : Wd) (H : Heap) (locs : List Loc) (ls : Array Slot), HQ E K z w s H locs → lv_has ls 4 [(1, .long v1_15), (3, .int v3_15), (0, rv E (some o))] → f_X12_bufferedName_L15 K o k n v1_15 v3_15 w = some (r, w') → W p l e ({ frames := 1, cells := 0, slots := 0, locals := 20 } : Room) s m args below meth c H locs 0 0 (MQ below (QL E K z w' r) args s 0 0 (hA E)) (F0 m 15 ls []) := by
  obtain ⟨hx, hb, hml, hown, hts, hKs, hT, hb0, hlocks, hret⟩ := id C
  intro n
  induction n with
  | zero =>
    intro v1_15 v3_15 w H locs ls hH hl hf
    cases hf
  | succ n ih =>
    intro v1_15 v3_15 w H locs ls hH hl hf
    rw [f_X12_bufferedName_L15] at hf
    refine lv_iload_n hx hb dX12_bufferedName_15 rfl (lv_at hl 1 rfl) ?_
    refine hl_aload_n hx hb dX12_bufferedName_16 rfl (lv_at hl 2 rfl) ?_
    refine g12_1 hx hb hts hown hKs hH rfl ho m2_220 dX12_bufferedName_17 ?_
    refine lv_icmp_ge (tgt := 56) hx hb dX12_bufferedName_20 (by decide) (fun c3 => ?_) (fun c3 => ?_)
    · replace hf := (if_pos c3).symm.trans hf
      exact hk v1_15 v3_15 _ _ _ _ hH (lv_sub hl [0, 1, 2] rfl) hf
    · replace hf := (if_neg c3).symm.trans hf
      refine hl_aload_n hx hb dX12_bufferedName_23 rfl (lv_at hl 2 rfl) ?_
      refine g12_0 hx hb hts hown hKs hH rfl ho m2_219 dX12_bufferedName_24 ?_
      refine lv_iload_n hx hb dX12_bufferedName_27 rfl (lv_at hl 1 rfl) ?_
      obtain ⟨a4, ha4, hf⟩ := bnd hf
      replace ha4 := cha_some ha4
      obtain ⟨j5, hj5, hf⟩ := bnd hf
      refine hw_bald hx hb hKs hH ha4.1 ha4.2 hj5 dX12_bufferedName_28 ?_
      obtain ⟨q6, hq6, hf⟩ := bnd hf
      refine hcS_i hx hb hml hown hts hKs hT hb0 hH (As := [.int ((aI w a4.1 j5))]) (rest := []) (k_X12_isLetter l E K H.size (aI w a4.1 j5) w hq6) (gS m5_45 m3_61 m1_1 m3_62) hs_X12_isLetter ⟨Nat.le_of_ble_eq_true rfl, Nat.le_of_ble_eq_true rfl, rfl, rfl⟩ hl.1 rfl rc0 rfl dX12_bufferedName_29 ⟨Nat.zero_le _, Nat.zero_le _⟩ (fun H locs hH => ?_)
      refine lv_if_ne (tgt := 37) hx hb dX12_bufferedName_32 (by decide) (fun c7 => ?_) (fun c7 => ?_)
      · replace hf := (if_neg c7).symm.trans hf
        refine lv_lload_n hx hb dX12_bufferedName_37 rfl (lv_at hl 0 rfl) ?_
        refine lv_bipush (v := 8) hx hb dX12_bufferedName_38 (by decide) ?_
        refine lv_lshl (v := (lsl v1_15 8)) hx hb dX12_bufferedName_40 rfl ?_
        refine hl_aload_n hx hb dX12_bufferedName_41 rfl (lv_at hl 2 rfl) ?_
        refine g12_0 hx hb hts hown hKs hH rfl ho m2_219 dX12_bufferedName_42 ?_
        refine lv_iload_n hx hb dX12_bufferedName_45 rfl (lv_at hl 1 rfl) ?_
        obtain ⟨a8, ha8, hf⟩ := bnd hf
        replace ha8 := cha_some ha8
        obtain ⟨j9, hj9, hf⟩ := bnd hf
        refine hw_bald hx hb hKs hH ha8.1 ha8.2 hj9 dX12_bufferedName_46 ?_
        refine lv_i2l (v := ((aI q6.2 a8.1 j9).toInt64)) hx hb dX12_bufferedName_47 rfl ?_
        refine lv_lor hx hb dX12_bufferedName_48 ?_
        refine lv_lstore_n (i := 1) (lv' := [(1, .long ((lsl v1_15 8) ||| ((aI q6.2 a8.1 j9).toInt64))), (3, .int v3_15), (0, rv E (some o))]) hx hb dX12_bufferedName_49 rfl hl (by decide) rfl (fun ls hl => ?_)
        refine lv_iinc (v := (v3_15 + 1)) (lv' := [(3, .int ((v3_15 + 1))), (1, .long ((lsl v1_15 8) ||| ((aI q6.2 a8.1 j9).toInt64))), (0, rv E (some o))]) hx hb dX12_bufferedName_50 hl (k := 1) rfl rfl (by decide) rfl (fun ls hl => ?_)
        refine lv_goto (tgt := 15) hx hb dX12_bufferedName_53 (by decide) ?_
        exact ih ((lsl v1_15 8) ||| ((aI q6.2 a8.1 j9).toInt64)) (v3_15 + 1) _ _ _ _ hH (lv_sub hl [1, 0, 2] rfl) hf
      · replace hf := (if_pos c7).symm.trans hf
        refine lv_lconst (v := 0) hx hb dX12_bufferedName_35 rfl ?_
        exact hw_lret hx hb hret hf hH hlocks dX12_bufferedName_36
set_option maxHeartbeats 4000000 in
set_option maxRecDepth 100000 in
theorem k_X12_bufferedName (l : Launch) (E : Ev) (K : Kd) (z : Nat) (o : Nat) (w : Wd) (ho : K o = some (10, 0)) {r : Int64} {w' : Wd} (hf : f_X12_bufferedName K o w = some (r, w')) : Met l yX12_bufferedName (Cond.code yX12_bufferedName cX12_bufferedName 4 (Option.some Jvm.ClassFile.FieldType.long) :: bt) ({ frames := 1, cells := 0, slots := 0, locals := 20 } : Room) (va_Pc [rv E (some o)] (HB E K w z)) (QL E K z w' r) 0 0 (hA E) := by
  refine Met.ofW (cc := cX12_bufferedName) (maxL := 4) (ret := (Option.some Jvm.ClassFile.FieldType.long)) (by decide) rfl ?_
  intro p e s m args below meth c s₁ B hml hv
  obtain ⟨rfl, hz, hP, hKs, hT, hb0⟩ := hv
  have C : CX p l e s m _ meth c cX12_bufferedName 4 RX12 (Option.some Jvm.ClassFile.FieldType.long) E := ⟨B.exec, B.bytes, hml, findClass_of_methodNamed B.named, fun w h => atoms_spec (ws := Cond.code yX12_bufferedName cX12_bufferedName 4 (Option.some Jvm.ClassFile.FieldType.long) :: bt) B.pre w (List.mem_cons_of_mem _ h), hKs, hT, by rw [hz]; exact hb0, B.notSynchronized, B.returns⟩
  have hH : HQ E K z w s s.heap [] := ⟨hP, va_S.rf, hz⟩
  obtain ⟨hx, hb, hml, hown, hts, hKs, hT, hb0, hlocks, hret⟩ := id C
  have hl := lv_entry [rv E (some o)] (n := 4) (by simp [lg_len_nil, lg_len_i, lg_len_j, lg_len_q, lg_len_f, lg_len_d, lg_len_r])
  rw [lg_entry_eq]
  generalize (lg_sl [rv E (some o)] ++ List.replicate (4 - (lg_sl [rv E (some o)]).length) Slot.unset).toArray = ls at hl ⊢
  replace hl : lv_has ls 4 [(0, rv E (some o))] := by simpa only [lv_args, cat_q, cat_i, cat_j, reduceIte, Nat.reduceEqDiff, Nat.reduceAdd, Nat.zero_add] using hl
  generalize s.heap = H at hH ⊢
  unfold f_X12_bufferedName at hf
  refine lv_lconst (v := 0) hx hb dX12_bufferedName_0 rfl ?_
  refine lv_lstore_n (i := 1) (lv' := [(1, .long 0), (0, rv E (some o))]) hx hb dX12_bufferedName_1 rfl hl (by decide) rfl (fun ls hl => ?_)
  refine hl_aload_n hx hb dX12_bufferedName_2 rfl (lv_at hl 1 rfl) ?_
  refine g12_1 hx hb hts hown hKs hH rfl ho m2_220 dX12_bufferedName_3 ?_
  refine lv_bipush (v := 8) hx hb dX12_bufferedName_6 (by decide) ?_
  refine lv_icmp_le (tgt := 13) hx hb dX12_bufferedName_8 (by decide) (fun c1 => ?_) (fun c1 => ?_)
  · replace hf := (if_pos c1).symm.trans hf
    refine lv_iconst (v := 0) hx hb dX12_bufferedName_13 (by decide) ?_
    refine lv_istore_n (i := 3) (lv' := [(3, .int 0), (1, .long 0), (0, rv E (some o))]) hx hb dX12_bufferedName_14 rfl hl (by decide) rfl (fun ls hl => ?_)
    refine l_X12_bufferedName_L15  C ho _ (fun v1_15 v3_15 w2 H locs ls hH hl hf => ?_) fu 0 0 w _ _ _ hH (lv_sub hl [1, 0, 2] rfl) hf
    refine lv_lload_n hx hb dX12_bufferedName_56 rfl (lv_at hl 0 rfl) ?_
    exact hw_lret hx hb hret hf hH hlocks dX12_bufferedName_57
  · replace hf := (if_neg c1).symm.trans hf
    refine lv_lconst (v := 0) hx hb dX12_bufferedName_11 rfl ?_
    exact hw_lret hx hb hret hf hH hlocks dX12_bufferedName_12

theorem dX12_isWorkingDay_0 : decode cX12_isWorkingDay 0 = .ok (.aload_n 0, 1) := by decide +kernel
theorem dX12_isWorkingDay_1 : decode cX12_isWorkingDay 1 = .ok (.iload_n 1, 1) := by decide +kernel
theorem dX12_isWorkingDay_2 : decode cX12_isWorkingDay 2 = .ok (.invokevirtual 154, 3) := by decide +kernel
theorem dX12_isWorkingDay_5 : decode cX12_isWorkingDay 5 = .ok (.aload_n 0, 1) := by decide +kernel
theorem dX12_isWorkingDay_6 : decode cX12_isWorkingDay 6 = .ok (.getfield 35, 3) := by decide +kernel
theorem dX12_isWorkingDay_9 : decode cX12_isWorkingDay 9 = .ok (.iload_n 1, 1) := by decide +kernel
theorem dX12_isWorkingDay_10 : decode cX12_isWorkingDay 10 = .ok (.invokevirtual 157, 3) := by decide +kernel
theorem dX12_isWorkingDay_13 : decode cX12_isWorkingDay 13 = .ok (.ireturn, 1) := by decide +kernel
theorem hd_X12_isWorkingDay : yX12_isWorkingDay.cls = RX12 ∧ yX12_isWorkingDay.cls ≠ "java/lang/invoke/MethodHandle" ∧ yX12_isWorkingDay.cls ≠ "java/lang/invoke/VarHandle" ∧ (parseMethodDescriptor yX12_isWorkingDay.desc).map (fun d => d.parameters.length) = some 1 := by decide +kernel
theorem hs_X12_isWorkingDay : yX12_isWorkingDay.cls ≠ "java/lang/invoke/MethodHandle" ∧ yX12_isWorkingDay.cls ≠ "java/lang/invoke/VarHandle" ∧ (parseMethodDescriptor yX12_isWorkingDay.desc).map (fun d => d.parameters.length) = some 1 := by decide +kernel
set_option maxHeartbeats 4000000 in
set_option maxRecDepth 100000 in
theorem k_X12_isWorkingDay (l : Launch) (hls : l.stackTraces = false) (E : Ev) (K : Kd) (z : Nat) (o : Nat) (a_1 : Int32) (w : Wd) (ho : K o = some (10, 0)) {r : Bool ⊕ Nat} {w' : Wd} (hf : f_X12_isWorkingDay K o a_1 w = some (r, w')) : vx_Met l yX12_isWorkingDay (Cond.code yX12_isWorkingDay cX12_isWorkingDay 2 (Option.some Jvm.ClassFile.FieldType.boolean) :: bt) ({ frames := 7, cells := 1, slots := 6, locals := 111 } : Room) (va_Pc [rv E (some o), .int a_1] (HB E K w z)) (XZ E K z w' r) (XX E K w' r) 1 6 (hA E) := by
  refine vx_ofW (cc := cX12_isWorkingDay) (maxL := 2) (ret := (Option.some Jvm.ClassFile.FieldType.boolean)) (by decide) rfl ?_
  intro p e s m args below meth c s₁ B hml hout hv
  obtain ⟨rfl, hz, hP, hKs, hT, hb0⟩ := hv
  have C : CX p l e s m _ meth c cX12_isWorkingDay 2 RX12 (Option.some Jvm.ClassFile.FieldType.boolean) E := ⟨B.exec, B.bytes, hml, findClass_of_methodNamed B.named, fun w h => atoms_spec (ws := Cond.code yX12_isWorkingDay cX12_isWorkingDay 2 (Option.some Jvm.ClassFile.FieldType.boolean) :: bt) B.pre w (List.mem_cons_of_mem _ h), hKs, hT, by rw [hz]; exact hb0, B.notSynchronized, B.returns⟩
  have hH : HQ E K z w s s.heap [] := ⟨hP, va_S.rf, hz⟩
  obtain ⟨hx, hb, hml, hown, hts, hKs, hT, hb0, hlocks, hret⟩ := id C
  have hl := lv_entry [rv E (some o), .int a_1] (n := 2) (by simp [lg_len_nil, lg_len_i, lg_len_j, lg_len_q, lg_len_f, lg_len_d, lg_len_r])
  rw [lg_entry_eq]
  generalize (lg_sl [rv E (some o), .int a_1] ++ List.replicate (2 - (lg_sl [rv E (some o), .int a_1]).length) Slot.unset).toArray = ls at hl ⊢
  replace hl : lv_has ls 2 [(0, rv E (some o)), (1, .int a_1)] := by simpa only [lv_args, cat_q, cat_i, cat_j, reduceIte, Nat.reduceEqDiff, Nat.reduceAdd, Nat.zero_add] using hl
  generalize s.heap = H at hH ⊢
  unfold f_X12_isWorkingDay at hf
  refine hl_aload_n hx hb dX12_isWorkingDay_0 rfl (lv_at hl 0 rfl) ?_
  refine lv_iload_n hx hb dX12_isWorkingDay_1 rfl (lv_at hl 1 rfl) ?_
  obtain ⟨q1, hq1, hf⟩ := bnd hf
  refine hxV_v hx hb hml hown hts hKs hT hb0 hH (As := [.int a_1]) (rest := []) (k_X12_requireDay l hls E K H.size o a_1 w ho hq1) (gV m5_54 m5_56 ms_33 m1_1 m5_57) hd_X12_requireDay ⟨Nat.le_of_ble_eq_true rfl, Nat.le_of_ble_eq_true rfl, rfl, rfl⟩ rfl ho rfl rfl rfl hl.1 rfl rc0 rfl dX12_isWorkingDay_2 ⟨Nat.le_of_ble_eq_true rfl, Nat.le_of_ble_eq_true rfl⟩ ⟨Nat.le_of_ble_eq_true rfl, Nat.le_of_ble_eq_true rfl⟩ hout hlocks (fun x hx9 => (fun h9 => ⟨(congrArg Prod.fst h9).symm, (congrArg Prod.snd h9).symm⟩) (Option.some.inj ((xk_inr hx9).symm.trans hf))) (fun v2 hv2 H locs hH => ?_)
  replace hf := (xk_inl hv2).symm.trans hf
  refine hl_aload_n hx hb dX12_isWorkingDay_5 rfl (lv_at hl 0 rfl) ?_
  refine g12_5 hx hb hts hown hKs hH rfl ho m2_224 dX12_isWorkingDay_6 ?_
  refine lv_iload_n hx hb dX12_isWorkingDay_9 rfl (lv_at hl 1 rfl) ?_
  obtain ⟨a3, ha3, hf⟩ := bnd hf
  replace ha3 := chk_some ha3
  obtain ⟨q4, hq4, hf⟩ := bnd hf
  refine hcV_i hx hb hml hown hts hKs hT hb0 hH (As := [.int a_1]) (rest := []) (k_X10_works l E K H.size a3 a_1 q1.2 ha3.2 hq4) (gV m5_58 m4_70 m4_71 m1_12 m4_72) hd_X10_works ⟨Nat.le_of_ble_eq_true rfl, Nat.le_of_ble_eq_true rfl, rfl, rfl⟩ ha3.1 ha3.2 rfl rfl rfl hl.1 rfl rc0 rfl dX12_isWorkingDay_10 ⟨Nat.le_of_ble_eq_true rfl, Nat.le_of_ble_eq_true rfl⟩ (fun H locs hH => ?_)
  exact hx_zret hx hb (Nat.le_of_ble_eq_true rfl) (Nat.le_of_ble_eq_true rfl) hret rfl hf hH hlocks dX12_isWorkingDay_13

theorem dX12_workingDays_0 : decode cX12_workingDays 0 = .ok (.aload_n 0, 1) := by decide +kernel
theorem dX12_workingDays_1 : decode cX12_workingDays 1 = .ok (.iload_n 1, 1) := by decide +kernel
theorem dX12_workingDays_2 : decode cX12_workingDays 2 = .ok (.iload_n 2, 1) := by decide +kernel
theorem dX12_workingDays_3 : decode cX12_workingDays 3 = .ok (.invokevirtual 161, 3) := by decide +kernel
theorem dX12_workingDays_6 : decode cX12_workingDays 6 = .ok (.aload_n 0, 1) := by decide +kernel
theorem dX12_workingDays_7 : decode cX12_workingDays 7 = .ok (.getfield 35, 3) := by decide +kernel
theorem dX12_workingDays_10 : decode cX12_workingDays 10 = .ok (.iload_n 1, 1) := by decide +kernel
theorem dX12_workingDays_11 : decode cX12_workingDays 11 = .ok (.iload_n 2, 1) := by decide +kernel
theorem dX12_workingDays_12 : decode cX12_workingDays 12 = .ok (.invokevirtual 165, 3) := by decide +kernel
theorem dX12_workingDays_15 : decode cX12_workingDays 15 = .ok (.ireturn, 1) := by decide +kernel
theorem hd_X12_workingDays : yX12_workingDays.cls = RX12 ∧ yX12_workingDays.cls ≠ "java/lang/invoke/MethodHandle" ∧ yX12_workingDays.cls ≠ "java/lang/invoke/VarHandle" ∧ (parseMethodDescriptor yX12_workingDays.desc).map (fun d => d.parameters.length) = some 2 := by decide +kernel
theorem hs_X12_workingDays : yX12_workingDays.cls ≠ "java/lang/invoke/MethodHandle" ∧ yX12_workingDays.cls ≠ "java/lang/invoke/VarHandle" ∧ (parseMethodDescriptor yX12_workingDays.desc).map (fun d => d.parameters.length) = some 2 := by decide +kernel
set_option maxHeartbeats 4000000 in
set_option maxRecDepth 100000 in
theorem k_X12_workingDays (l : Launch) (hls : l.stackTraces = false) (E : Ev) (K : Kd) (z : Nat) (o : Nat) (a_1 : Int32) (a_2 : Int32) (w : Wd) (ho : K o = some (10, 0)) {r : Int32 ⊕ Nat} {w' : Wd} (hf : f_X12_workingDays K o a_1 a_2 w = some (r, w')) : vx_Met l yX12_workingDays (Cond.code yX12_workingDays cX12_workingDays 3 (Option.some Jvm.ClassFile.FieldType.int) :: bt) ({ frames := 7, cells := 1, slots := 6, locals := 112 } : Room) (va_Pc [rv E (some o), .int a_1, .int a_2] (HB E K w z)) (XI E K z w' r) (XX E K w' r) 1 6 (hA E) := by
  refine vx_ofW (cc := cX12_workingDays) (maxL := 3) (ret := (Option.some Jvm.ClassFile.FieldType.int)) (by decide) rfl ?_
  intro p e s m args below meth c s₁ B hml hout hv
  obtain ⟨rfl, hz, hP, hKs, hT, hb0⟩ := hv
  have C : CX p l e s m _ meth c cX12_workingDays 3 RX12 (Option.some Jvm.ClassFile.FieldType.int) E := ⟨B.exec, B.bytes, hml, findClass_of_methodNamed B.named, fun w h => atoms_spec (ws := Cond.code yX12_workingDays cX12_workingDays 3 (Option.some Jvm.ClassFile.FieldType.int) :: bt) B.pre w (List.mem_cons_of_mem _ h), hKs, hT, by rw [hz]; exact hb0, B.notSynchronized, B.returns⟩
  have hH : HQ E K z w s s.heap [] := ⟨hP, va_S.rf, hz⟩
  obtain ⟨hx, hb, hml, hown, hts, hKs, hT, hb0, hlocks, hret⟩ := id C
  have hl := lv_entry [rv E (some o), .int a_1, .int a_2] (n := 3) (by simp [lg_len_nil, lg_len_i, lg_len_j, lg_len_q, lg_len_f, lg_len_d, lg_len_r])
  rw [lg_entry_eq]
  generalize (lg_sl [rv E (some o), .int a_1, .int a_2] ++ List.replicate (3 - (lg_sl [rv E (some o), .int a_1, .int a_2]).length) Slot.unset).toArray = ls at hl ⊢
  replace hl : lv_has ls 3 [(0, rv E (some o)), (1, .int a_1), (2, .int a_2)] := by simpa only [lv_args, cat_q, cat_i, cat_j, reduceIte, Nat.reduceEqDiff, Nat.reduceAdd, Nat.zero_add] using hl
  generalize s.heap = H at hH ⊢
  unfold f_X12_workingDays at hf
  refine hl_aload_n hx hb dX12_workingDays_0 rfl (lv_at hl 0 rfl) ?_
  refine lv_iload_n hx hb dX12_workingDays_1 rfl (lv_at hl 1 rfl) ?_
  refine lv_iload_n hx hb dX12_workingDays_2 rfl (lv_at hl 2 rfl) ?_
  obtain ⟨q1, hq1, hf⟩ := bnd hf
  refine hxV_v hx hb hml hown hts hKs hT hb0 hH (As := [.int a_1, .int a_2]) (rest := []) (k_X12_requireSpan l hls E K H.size o a_1 a_2 w ho hq1) (gV m5_66 m5_68 ms_34 m1_1 m5_69) hd_X12_requireSpan ⟨Nat.le_of_ble_eq_true rfl, Nat.le_of_ble_eq_true rfl, rfl, rfl⟩ rfl ho rfl rfl rfl hl.1 rfl rc0 rfl dX12_workingDays_3 ⟨Nat.le_of_ble_eq_true rfl, Nat.le_of_ble_eq_true rfl⟩ ⟨Nat.le_of_ble_eq_true rfl, Nat.le_of_ble_eq_true rfl⟩ hout hlocks (fun x hx9 => (fun h9 => ⟨(congrArg Prod.fst h9).symm, (congrArg Prod.snd h9).symm⟩) (Option.some.inj ((xk_inr hx9).symm.trans hf))) (fun v2 hv2 H locs hH => ?_)
  replace hf := (xk_inl hv2).symm.trans hf
  refine hl_aload_n hx hb dX12_workingDays_6 rfl (lv_at hl 0 rfl) ?_
  refine g12_5 hx hb hts hown hKs hH rfl ho m2_224 dX12_workingDays_7 ?_
  refine lv_iload_n hx hb dX12_workingDays_10 rfl (lv_at hl 1 rfl) ?_
  refine lv_iload_n hx hb dX12_workingDays_11 rfl (lv_at hl 2 rfl) ?_
  obtain ⟨a3, ha3, hf⟩ := bnd hf
  replace ha3 := chk_some ha3
  obtain ⟨q4, hq4, hf⟩ := bnd hf
  refine hcV_i hx hb hml hown hts hKs hT hb0 hH (As := [.int a_1, .int a_2]) (rest := []) (k_X10_countWorking l E K H.size a3 a_1 a_2 q1.2 ha3.2 hq4) (gV m5_70 m4_75 m4_76 m1_12 m4_77) hd_X10_countWorking ⟨Nat.le_of_ble_eq_true rfl, Nat.le_of_ble_eq_true rfl, rfl, rfl⟩ ha3.1 ha3.2 rfl rfl rfl hl.1 rfl rc0 rfl dX12_workingDays_12 ⟨Nat.le_of_ble_eq_true rfl, Nat.le_of_ble_eq_true rfl⟩ (fun H locs hH => ?_)
  exact hx_iret hx hb (Nat.le_of_ble_eq_true rfl) (Nat.le_of_ble_eq_true rfl) hret hf hH hlocks dX12_workingDays_15

theorem dX12_lengthening_0 : decode cX12_lengthening 0 = .ok (.aload_n 0, 1) := by decide +kernel
theorem dX12_lengthening_1 : decode cX12_lengthening 1 = .ok (.iload_n 1, 1) := by decide +kernel
theorem dX12_lengthening_2 : decode cX12_lengthening 2 = .ok (.invokevirtual 169, 3) := by decide +kernel
theorem dX12_lengthening_5 : decode cX12_lengthening 5 = .ok (.aload_n 0, 1) := by decide +kernel
theorem dX12_lengthening_6 : decode cX12_lengthening 6 = .ok (.getfield 35, 3) := by decide +kernel
theorem dX12_lengthening_9 : decode cX12_lengthening 9 = .ok (.getfield 87, 3) := by decide +kernel
theorem dX12_lengthening_12 : decode cX12_lengthening 12 = .ok (.getfield 172, 3) := by decide +kernel
theorem dX12_lengthening_15 : decode cX12_lengthening 15 = .ok (.iload_n 1, 1) := by decide +kernel
theorem dX12_lengthening_16 : decode cX12_lengthening 16 = .ok (.iaload, 1) := by decide +kernel
theorem dX12_lengthening_17 : decode cX12_lengthening 17 = .ok (.ireturn, 1) := by decide +kernel
theorem hd_X12_lengthening : yX12_lengthening.cls = RX12 ∧ yX12_lengthening.cls ≠ "java/lang/invoke/MethodHandle" ∧ yX12_lengthening.cls ≠ "java/lang/invoke/VarHandle" ∧ (parseMethodDescriptor yX12_lengthening.desc).map (fun d => d.parameters.length) = some 1 := by decide +kernel
theorem hs_X12_lengthening : yX12_lengthening.cls ≠ "java/lang/invoke/MethodHandle" ∧ yX12_lengthening.cls ≠ "java/lang/invoke/VarHandle" ∧ (parseMethodDescriptor yX12_lengthening.desc).map (fun d => d.parameters.length) = some 1 := by decide +kernel
set_option maxHeartbeats 4000000 in
set_option maxRecDepth 100000 in
theorem k_X12_lengthening (l : Launch) (hls : l.stackTraces = false) (E : Ev) (K : Kd) (z : Nat) (o : Nat) (a_1 : Int32) (w : Wd) (ho : K o = some (10, 0)) {r : Int32 ⊕ Nat} {w' : Wd} (hf : f_X12_lengthening K o a_1 w = some (r, w')) : vx_Met l yX12_lengthening (Cond.code yX12_lengthening cX12_lengthening 2 (Option.some Jvm.ClassFile.FieldType.int) :: bt) ({ frames := 7, cells := 1, slots := 6, locals := 111 } : Room) (va_Pc [rv E (some o), .int a_1] (HB E K w z)) (XI E K z w' r) (XX E K w' r) 1 6 (hA E) := by
  refine vx_ofW (cc := cX12_lengthening) (maxL := 2) (ret := (Option.some Jvm.ClassFile.FieldType.int)) (by decide) rfl ?_
  intro p e s m args below meth c s₁ B hml hout hv
  obtain ⟨rfl, hz, hP, hKs, hT, hb0⟩ := hv
  have C : CX p l e s m _ meth c cX12_lengthening 2 RX12 (Option.some Jvm.ClassFile.FieldType.int) E := ⟨B.exec, B.bytes, hml, findClass_of_methodNamed B.named, fun w h => atoms_spec (ws := Cond.code yX12_lengthening cX12_lengthening 2 (Option.some Jvm.ClassFile.FieldType.int) :: bt) B.pre w (List.mem_cons_of_mem _ h), hKs, hT, by rw [hz]; exact hb0, B.notSynchronized, B.returns⟩
  have hH : HQ E K z w s s.heap [] := ⟨hP, va_S.rf, hz⟩
  obtain ⟨hx, hb, hml, hown, hts, hKs, hT, hb0, hlocks, hret⟩ := id C
  have hl := lv_entry [rv E (some o), .int a_1] (n := 2) (by simp [lg_len_nil, lg_len_i, lg_len_j, lg_len_q, lg_len_f, lg_len_d, lg_len_r])
  rw [lg_entry_eq]
  generalize (lg_sl [rv E (some o), .int a_1] ++ List.replicate (2 - (lg_sl [rv E (some o), .int a_1]).length) Slot.unset).toArray = ls at hl ⊢
  replace hl : lv_has ls 2 [(0, rv E (some o)), (1, .int a_1)] := by simpa only [lv_args, cat_q, cat_i, cat_j, reduceIte, Nat.reduceEqDiff, Nat.reduceAdd, Nat.zero_add] using hl
  generalize s.heap = H at hH ⊢
  unfold f_X12_lengthening at hf
  refine hl_aload_n hx hb dX12_lengthening_0 rfl (lv_at hl 0 rfl) ?_
  refine lv_iload_n hx hb dX12_lengthening_1 rfl (lv_at hl 1 rfl) ?_
  obtain ⟨q1, hq1, hf⟩ := bnd hf
  refine hxV_v hx hb hml hown hts hKs hT hb0 hH (As := [.int a_1]) (rest := []) (k_X12_requireReason l hls E K H.size o a_1 w ho hq1) (gV m5_78 m5_80 ms_35 m1_1 m5_81) hd_X12_requireReason ⟨Nat.le_of_ble_eq_true rfl, Nat.le_of_ble_eq_true rfl, rfl, rfl⟩ rfl ho rfl rfl rfl hl.1 rfl rc0 rfl dX12_lengthening_2 ⟨Nat.le_of_ble_eq_true rfl, Nat.le_of_ble_eq_true rfl⟩ ⟨Nat.le_of_ble_eq_true rfl, Nat.le_of_ble_eq_true rfl⟩ hout hlocks (fun x hx9 => (fun h9 => ⟨(congrArg Prod.fst h9).symm, (congrArg Prod.snd h9).symm⟩) (Option.some.inj ((xk_inr hx9).symm.trans hf))) (fun v2 hv2 H locs hH => ?_)
  replace hf := (xk_inl hv2).symm.trans hf
  refine hl_aload_n hx hb dX12_lengthening_5 rfl (lv_at hl 0 rfl) ?_
  refine g12_5 hx hb hts hown hKs hH rfl ho m2_224 dX12_lengthening_6 ?_
  obtain ⟨a3, ha3, hf⟩ := bnd hf
  replace ha3 := chk_some ha3
  refine gn10_0 hx hb hts hown hKs hH ha3.1 ha3.2 m2_122 dX12_lengthening_9 ?_
  obtain ⟨a4, ha4, hf⟩ := bnd hf
  replace ha4 := chk_some ha4
  refine gn9_11 hx hb hts hown hKs hH ha4.1 ha4.2 m1_185 dX12_lengthening_12 ?_
  refine lv_iload_n hx hb dX12_lengthening_15 rfl (lv_at hl 1 rfl) ?_
  obtain ⟨a5, ha5, hf⟩ := bnd hf
  replace ha5 := cha_some ha5
  obtain ⟨j6, hj6, hf⟩ := bnd hf
  refine hw_iald hx hb hKs hH ha5.1 ha5.2 hj6 dX12_lengthening_16 ?_
  exact hx_iret hx hb (Nat.le_of_ble_eq_true rfl) (Nat.le_of_ble_eq_true rfl) hret hf hH hlocks dX12_lengthening_17

theorem dX12_meanSlack_0 : decode cX12_meanSlack 0 = .ok (.iconst 0, 1) := by decide +kernel
theorem dX12_meanSlack_1 : decode cX12_meanSlack 1 = .ok (.istore_n 1, 1) := by decide +kernel
theorem dX12_meanSlack_2 : decode cX12_meanSlack 2 = .ok (.iconst 0, 1) := by decide +kernel
theorem dX12_meanSlack_3 : decode cX12_meanSlack 3 = .ok (.istore_n 2, 1) := by decide +kernel
theorem dX12_meanSlack_4 : decode cX12_meanSlack 4 = .ok (.iconst 0, 1) := by decide +kernel
theorem dX12_meanSlack_5 : decode cX12_meanSlack 5 = .ok (.istore_n 3, 1) := by decide +kernel
theorem dX12_meanSlack_6 : decode cX12_meanSlack 6 = .ok (.iload_n 3, 1) := by decide +kernel
theorem dX12_meanSlack_7 : decode cX12_meanSlack 7 = .ok (.aload_n 0, 1) := by decide +kernel
theorem dX12_meanSlack_8 : decode cX12_meanSlack 8 = .ok (.getfield 35, 3) := by decide +kernel
theorem dX12_meanSlack_11 : decode cX12_meanSlack 11 = .ok (.getfield 87, 3) := by decide +kernel
theorem dX12_meanSlack_14 : decode cX12_meanSlack 14 = .ok (.iconst 3, 1) := by decide +kernel
theorem dX12_meanSlack_15 : decode cX12_meanSlack 15 = .ok (.invokevirtual 105, 3) := by decide +kernel
theorem dX12_meanSlack_18 : decode cX12_meanSlack 18 = .ok (.if_icmp .ge 38, 3) := by decide +kernel
theorem dX12_meanSlack_21 : decode cX12_meanSlack 21 = .ok (.aload_n 0, 1) := by decide +kernel
theorem dX12_meanSlack_22 : decode cX12_meanSlack 22 = .ok (.getfield 35, 3) := by decide +kernel
theorem dX12_meanSlack_25 : decode cX12_meanSlack 25 = .ok (.getfield 213, 3) := by decide +kernel
theorem dX12_meanSlack_28 : decode cX12_meanSlack 28 = .ok (.iload_n 3, 1) := by decide +kernel
theorem dX12_meanSlack_29 : decode cX12_meanSlack 29 = .ok (.aaload, 1) := by decide +kernel
theorem dX12_meanSlack_30 : decode cX12_meanSlack 30 = .ok (.getfield 236, 3) := by decide +kernel
theorem dX12_meanSlack_33 : decode cX12_meanSlack 33 = .ok (.ifCond .ne 17, 3) := by decide +kernel
theorem dX12_meanSlack_36 : decode cX12_meanSlack 36 = .ok (.iload_n 1, 1) := by decide +kernel
theorem dX12_meanSlack_37 : decode cX12_meanSlack 37 = .ok (.aload_n 0, 1) := by decide +kernel
theorem dX12_meanSlack_38 : decode cX12_meanSlack 38 = .ok (.getfield 35, 3) := by decide +kernel
theorem dX12_meanSlack_41 : decode cX12_meanSlack 41 = .ok (.iload_n 3, 1) := by decide +kernel
theorem dX12_meanSlack_42 : decode cX12_meanSlack 42 = .ok (.invokevirtual 306, 3) := by decide +kernel
theorem dX12_meanSlack_45 : decode cX12_meanSlack 45 = .ok (.iadd, 1) := by decide +kernel
theorem dX12_meanSlack_46 : decode cX12_meanSlack 46 = .ok (.istore_n 1, 1) := by decide +kernel
theorem dX12_meanSlack_47 : decode cX12_meanSlack 47 = .ok (.iinc 2 1, 3) := by decide +kernel
theorem dX12_meanSlack_50 : decode cX12_meanSlack 50 = .ok (.iinc 3 1, 3) := by decide +kernel
theorem dX12_meanSlack_53 : decode cX12_meanSlack 53 = .ok (.goto (-47), 3) := by decide +kernel
theorem dX12_meanSlack_56 : decode cX12_meanSlack 56 = .ok (.iload_n 2, 1) := by decide +kernel
theorem dX12_meanSlack_57 : decode cX12_meanSlack 57 = .ok (.ifCond .ne 7, 3) := by decide +kernel
theorem dX12_meanSlack_60 : decode cX12_meanSlack 60 = .ok (.dconst 0, 1) := by decide +kernel
theorem dX12_meanSlack_61 : decode cX12_meanSlack 61 = .ok (.goto 8, 3) := by decide +kernel
theorem dX12_meanSlack_64 : decode cX12_meanSlack 64 = .ok (.iload_n 1, 1) := by decide +kernel
theorem dX12_meanSlack_65 : decode cX12_meanSlack 65 = .ok (.i2d, 1) := by decide +kernel
theorem dX12_meanSlack_66 : decode cX12_meanSlack 66 = .ok (.iload_n 2, 1) := by decide +kernel
theorem dX12_meanSlack_67 : decode cX12_meanSlack 67 = .ok (.i2d, 1) := by decide +kernel
theorem dX12_meanSlack_68 : decode cX12_meanSlack 68 = .ok (.ddiv, 1) := by decide +kernel
theorem dX12_meanSlack_69 : decode cX12_meanSlack 69 = .ok (.dreturn, 1) := by decide +kernel
theorem hd_X12_meanSlack : yX12_meanSlack.cls = RX12 ∧ yX12_meanSlack.cls ≠ "java/lang/invoke/MethodHandle" ∧ yX12_meanSlack.cls ≠ "java/lang/invoke/VarHandle" ∧ (parseMethodDescriptor yX12_meanSlack.desc).map (fun d => d.parameters.length) = some 0 := by decide +kernel
theorem hs_X12_meanSlack : yX12_meanSlack.cls ≠ "java/lang/invoke/MethodHandle" ∧ yX12_meanSlack.cls ≠ "java/lang/invoke/VarHandle" ∧ (parseMethodDescriptor yX12_meanSlack.desc).map (fun d => d.parameters.length) = some 0 := by decide +kernel
set_option maxHeartbeats 4000000 in
set_option maxRecDepth 100000 in
theorem l_X12_meanSlack_L6 (C : CX p l e s m args meth c cX12_meanSlack 4 RX12 (Option.some Jvm.ClassFile.FieldType.double) E) {o : Nat} (ho : K o = some (10, 0)) {r : UInt64} {w' : Wd} (k : Int32 → Int32 → Int32 → Wd → Option (UInt64 × Wd)) (hk : ∀ (v1_6 : Int32) (v2_6 : Int32) (v3_6 : Int32) (w : Wd) (H : Heap) (locs : List Loc) (ls : Array Slot), HQ E K z w s H locs → lv_has ls 4 [(1, .int v1_6), (2, .int v2_6), (3, .int v3_6), (0, rv E (some o))] → k v1_6 v2_6 v3_6 w = some (r, w') → W p l e ({ frames := 4, cells := 0, slots := 0, locals := 87 } : Room) s m args below meth c H locs 0 0 (MQ below (QD E K z w' r) args s 0 0 (hA E)) (F0 m 56 ls [])) : ∀ (n : Nat) (v1_6 : Int32) (v2_6 : Int32) (v3_6 : Int32) (w : Wd) (H : Heap) (locs : List Loc) (ls : Array Slot), HQ E K z w s H locs → lv_has ls 4 [(1, .int v1_6), (2, .int v2_6), (3, .int v3_6), (0, rv E (some o))] → f_X12_meanSlack_L6 K o k n v1_6 v2_6 v3_6 w = some (r, w') → W p l e ({ frames := 4, cells := 0, slots := 0, locals := 87 } : Room) s m args below meth c H locs 0 0 (MQ below (QD E K z w' r) args s 0 0 (hA E)) (F0 m 6 ls []) := by
  obtain ⟨hx, hb, hml, hown, hts, hKs, hT, hb0, hlocks, hret⟩ := id C
  intro n
  induction n with
  | zero =>
    intro v1_6 v2_6 v3_6 w H locs ls hH hl hf
    cases hf
  | succ n ih =>
    intro v1_6 v2_6 v3_6 w H locs ls hH hl hf
    rw [f_X12_meanSlack_L6] at hf
    refine lv_iload_n hx hb dX12_meanSlack_6 rfl (lv_at hl 2 rfl) ?_
    refine hl_aload_n hx hb dX12_meanSlack_7 rfl (lv_at hl 3 rfl) ?_
    refine g12_5 hx hb hts hown hKs hH rfl ho m2_224 dX12_meanSlack_8 ?_
    obtain ⟨a2, ha2, hf⟩ := bnd hf
    replace ha2 := chk_some ha2
    refine gn10_0 hx hb hts hown hKs hH ha2.1 ha2.2 m2_122 dX12_meanSlack_11 ?_
    refine lv_iconst (v := 3) hx hb dX12_meanSlack_14 (by decide) ?_
    obtain ⟨a3, ha3, hf⟩ := bnd hf
    replace ha3 := chk_some ha3
    obtain ⟨q4, hq4, hf⟩ := bnd hf
    refine hcV_i hx hb hml hown hts hKs hT hb0 hH (As := [.int 3]) (rest := [.int v3_6]) (k_X9_size l E K H.size a3 3 w ha3.2 hq4) (gV m3_229 m3_151 m3_152 m1_2 m3_153) hd_X9_size ⟨Nat.le_of_ble_eq_true rfl, Nat.le_of_ble_eq_true rfl, rfl, rfl⟩ ha3.1 ha3.2 rfl rfl rfl hl.1 rfl (rcI rc0) rfl dX12_meanSlack_15 ⟨Nat.zero_le _, Nat.zero_le _⟩ (fun H locs hH => ?_)
    refine lv_icmp_ge (tgt := 56) hx hb dX12_meanSlack_18 (by decide) (fun c5 => ?_) (fun c5 => ?_)
    · replace hf := (if_pos c5).symm.trans hf
      exact hk v1_6 v2_6 v3_6 _ _ _ _ hH (lv_sub hl [0, 1, 2, 3] rfl) hf
    · replace hf := (if_neg c5).symm.trans hf
      refine hl_aload_n hx hb dX12_meanSlack_21 rfl (lv_at hl 3 rfl) ?_
      refine g12_5 hx hb hts hown hKs hH rfl ho m2_224 dX12_meanSlack_22 ?_
      obtain ⟨a6, ha6, hf⟩ := bnd hf
      replace ha6 := chk_some ha6
      refine gn10_5 hx hb hts hown hKs hH ha6.1 ha6.2 m2_135 dX12_meanSlack_25 ?_
      refine lv_iload_n hx hb dX12_meanSlack_28 rfl (lv_at hl 2 rfl) ?_
      obtain ⟨a7, ha7, hf⟩ := bnd hf
      replace ha7 := cha_some ha7
      obtain ⟨j8, hj8, hf⟩ := bnd hf
      refine hw_aald27 hx hb hKs hH ha7.1 ha7.2 hj8 dX12_meanSlack_29 ?_
      obtain ⟨a9, ha9, hf⟩ := bnd hf
      replace ha9 := chk_some ha9
      refine gn7_0 hx hb hts hown hKs hH ha9.1 ha9.2 m2_71 dX12_meanSlack_30 ?_
      refine lv_if_ne (tgt := 50) hx hb dX12_meanSlack_33 (by decide) (fun c10 => ?_) (fun c10 => ?_)
      · replace hf := (if_neg c10).symm.trans hf
        refine lv_iinc (v := (v3_6 + 1)) (lv' := [(3, .int ((v3_6 + 1))), (1, .int v1_6), (2, .int v2_6), (0, rv E (some o))]) hx hb dX12_meanSlack_50 hl (k := 2) rfl rfl (by decide) rfl (fun ls hl => ?_)
        refine lv_goto (tgt := 6) hx hb dX12_meanSlack_53 (by decide) ?_
        exact ih v1_6 v2_6 (v3_6 + 1) _ _ _ _ hH (lv_sub hl [1, 2, 0, 3] rfl) hf
      · replace hf := (if_pos c10).symm.trans hf
        refine lv_iload_n hx hb dX12_meanSlack_36 rfl (lv_at hl 0 rfl) ?_
        refine hl_aload_n hx hb dX12_meanSlack_37 rfl (lv_at hl 3 rfl) ?_
        refine g12_5 hx hb hts hown hKs hH rfl ho m2_224 dX12_meanSlack_38 ?_
        refine lv_iload_n hx hb dX12_meanSlack_41 rfl (lv_at hl 2 rfl) ?_
        obtain ⟨q11, hq11, hf⟩ := bnd hf
        refine hcV_i hx hb hml hown hts hKs hT hb0 hH (As := [.int v3_6]) (rest := [.int v1_6]) (k_X10_slackOf l E K H.size a6 v3_6 q4.2 ha6.2 hq11) (gV m4_61 m4_62 m4_63 m1_12 m4_64) hd_X10_slackOf ⟨Nat.le_of_ble_eq_true rfl, Nat.le_of_ble_eq_true rfl, rfl, rfl⟩ ha6.1 ha6.2 rfl rfl rfl hl.1 rfl (rcI rc0) rfl dX12_meanSlack_42 ⟨Nat.zero_le _, Nat.zero_le _⟩ (fun H locs hH => ?_)
        refine lv_iadd hx hb dX12_meanSlack_45 ?_
        refine lv_istore_n (i := 1) (lv' := [(1, .int ((v1_6 + q11.1))), (2, .int v2_6), (3, .int v3_6), (0, rv E (some o))]) hx hb dX12_meanSlack_46 rfl hl (by decide) rfl (fun ls hl => ?_)
        refine lv_iinc (v := (v2_6 + 1)) (lv' := [(2, .int ((v2_6 + 1))), (1, .int ((v1_6 + q11.1))), (3, .int v3_6), (0, rv E (some o))]) hx hb dX12_meanSlack_47 hl (k := 1) rfl rfl (by decide) rfl (fun ls hl => ?_)
        refine lv_iinc (v := (v3_6 + 1)) (lv' := [(3, .int ((v3_6 + 1))), (2, .int ((v2_6 + 1))), (1, .int ((v1_6 + q11.1))), (0, rv E (some o))]) hx hb dX12_meanSlack_50 hl (k := 2) rfl rfl (by decide) rfl (fun ls hl => ?_)
        refine lv_goto (tgt := 6) hx hb dX12_meanSlack_53 (by decide) ?_
        exact ih (v1_6 + q11.1) (v2_6 + 1) (v3_6 + 1) _ _ _ _ hH (lv_sub hl [2, 1, 0, 3] rfl) hf
set_option maxHeartbeats 4000000 in
set_option maxRecDepth 100000 in
theorem k_X12_meanSlack (l : Launch) (E : Ev) (K : Kd) (z : Nat) (o : Nat) (w : Wd) (ho : K o = some (10, 0)) {r : UInt64} {w' : Wd} (hf : f_X12_meanSlack K o w = some (r, w')) : Met l yX12_meanSlack (Cond.code yX12_meanSlack cX12_meanSlack 4 (Option.some Jvm.ClassFile.FieldType.double) :: bt) ({ frames := 4, cells := 0, slots := 0, locals := 87 } : Room) (va_Pc [rv E (some o)] (HB E K w z)) (QD E K z w' r) 0 0 (hA E) := by
  refine Met.ofW (cc := cX12_meanSlack) (maxL := 4) (ret := (Option.some Jvm.ClassFile.FieldType.double)) (by decide) rfl ?_
  intro p e s m args below meth c s₁ B hml hv
  obtain ⟨rfl, hz, hP, hKs, hT, hb0⟩ := hv
  have C : CX p l e s m _ meth c cX12_meanSlack 4 RX12 (Option.some Jvm.ClassFile.FieldType.double) E := ⟨B.exec, B.bytes, hml, findClass_of_methodNamed B.named, fun w h => atoms_spec (ws := Cond.code yX12_meanSlack cX12_meanSlack 4 (Option.some Jvm.ClassFile.FieldType.double) :: bt) B.pre w (List.mem_cons_of_mem _ h), hKs, hT, by rw [hz]; exact hb0, B.notSynchronized, B.returns⟩
  have hH : HQ E K z w s s.heap [] := ⟨hP, va_S.rf, hz⟩
  obtain ⟨hx, hb, hml, hown, hts, hKs, hT, hb0, hlocks, hret⟩ := id C
  have hl := lv_entry [rv E (some o)] (n := 4) (by simp [lg_len_nil, lg_len_i, lg_len_j, lg_len_q, lg_len_f, lg_len_d, lg_len_r])
  rw [lg_entry_eq]
  generalize (lg_sl [rv E (some o)] ++ List.replicate (4 - (lg_sl [rv E (some o)]).length) Slot.unset).toArray = ls at hl ⊢
  replace hl : lv_has ls 4 [(0, rv E (some o))] := by simpa only [lv_args, cat_q, cat_i, cat_j, reduceIte, Nat.reduceEqDiff, Nat.reduceAdd, Nat.zero_add] using hl
  generalize s.heap = H at hH ⊢
  unfold f_X12_meanSlack at hf
  refine lv_iconst (v := 0) hx hb dX12_meanSlack_0 (by decide) ?_
  refine lv_istore_n (i := 1) (lv' := [(1, .int 0), (0, rv E (some o))]) hx hb dX12_meanSlack_1 rfl hl (by decide) rfl (fun ls hl => ?_)
  refine lv_iconst (v := 0) hx hb dX12_meanSlack_2 (by decide) ?_
  refine lv_istore_n (i := 2) (lv' := [(2, .int 0), (1, .int 0), (0, rv E (some o))]) hx hb dX12_meanSlack_3 rfl hl (by decide) rfl (fun ls hl => ?_)
  refine lv_iconst (v := 0) hx hb dX12_meanSlack_4 (by decide) ?_
  refine lv_istore_n (i := 3) (lv' := [(3, .int 0), (2, .int 0), (1, .int 0), (0, rv E (some o))]) hx hb dX12_meanSlack_5 rfl hl (by decide) rfl (fun ls hl => ?_)
  refine l_X12_meanSlack_L6  C ho _ (fun v1_6 v2_6 v3_6 w1 H locs ls hH hl hf => ?_) fu 0 0 0 w _ _ _ hH (lv_sub hl [2, 1, 0, 3] rfl) hf
  refine lv_iload_n hx hb dX12_meanSlack_56 rfl (lv_at hl 1 rfl) ?_
  refine lv_if_ne (tgt := 64) hx hb dX12_meanSlack_57 (by decide) (fun c12 => ?_) (fun c12 => ?_)
  · replace hf := (if_neg c12).symm.trans hf
    refine lv_iload_n hx hb dX12_meanSlack_64 rfl (lv_at hl 0 rfl) ?_
    refine lv_i2d hx hb dX12_meanSlack_65 ?_
    refine lv_iload_n hx hb dX12_meanSlack_66 rfl (lv_at hl 1 rfl) ?_
    refine lv_i2d hx hb dX12_meanSlack_67 ?_
    obtain ⟨_, hg13, hf⟩ := bnd hf
    refine lv_ddiv hx hb dX12_meanSlack_68 (n64_ok (grd_some hg13)) ?_
    exact hw_dret hx hb hret hf hH hlocks dX12_meanSlack_69
  · replace hf := (if_pos c12).symm.trans hf
    refine lv_dconst0 hx hb dX12_meanSlack_60 ?_
    refine lv_goto (tgt := 69) hx hb dX12_meanSlack_61 (by decide) ?_
    exact hw_dret hx hb hret hf hH hlocks dX12_meanSlack_69

theorem dX12_undo_0 : decode cX12_undo 0 = .ok (.aload_n 0, 1) := by decide +kernel
theorem dX12_undo_1 : decode cX12_undo 1 = .ok (.getfield 102, 3) := by decide +kernel
theorem dX12_undo_4 : decode cX12_undo 4 = .ok (.ifCond .le 15, 3) := by decide +kernel
theorem dX12_undo_7 : decode cX12_undo 7 = .ok (.aload_n 0, 1) := by decide +kernel
theorem dX12_undo_8 : decode cX12_undo 8 = .ok (.getfield 102, 3) := by decide +kernel
theorem dX12_undo_11 : decode cX12_undo 11 = .ok (.aload_n 0, 1) := by decide +kernel
theorem dX12_undo_12 : decode cX12_undo 12 = .ok (.getfield 45, 3) := by decide +kernel
theorem dX12_undo_15 : decode cX12_undo 15 = .ok (.arraylength, 1) := by decide +kernel
theorem dX12_undo_16 : decode cX12_undo 16 = .ok (.if_icmp .le 11, 3) := by decide +kernel
theorem dX12_undo_19 : decode cX12_undo 19 = .ok (.new 331, 3) := by decide +kernel
theorem dX12_undo_22 : decode cX12_undo 22 = .ok (.dup, 1) := by decide +kernel
theorem dX12_undo_23 : decode cX12_undo 23 = .ok (.invokespecial 333, 3) := by decide +kernel
theorem dX12_undo_26 : decode cX12_undo 26 = .ok (.athrow, 1) := by decide +kernel
theorem dX12_undo_27 : decode cX12_undo 27 = .ok (.aload_n 0, 1) := by decide +kernel
theorem dX12_undo_28 : decode cX12_undo 28 = .ok (.dup, 1) := by decide +kernel
theorem dX12_undo_29 : decode cX12_undo 29 = .ok (.getfield 102, 3) := by decide +kernel
theorem dX12_undo_32 : decode cX12_undo 32 = .ok (.iconst 1, 1) := by decide +kernel
theorem dX12_undo_33 : decode cX12_undo 33 = .ok (.isub, 1) := by decide +kernel
theorem dX12_undo_34 : decode cX12_undo 34 = .ok (.putfield 102, 3) := by decide +kernel
theorem dX12_undo_37 : decode cX12_undo 37 = .ok (.aload_n 0, 1) := by decide +kernel
theorem dX12_undo_38 : decode cX12_undo 38 = .ok (.getfield 35, 3) := by decide +kernel
theorem dX12_undo_41 : decode cX12_undo 41 = .ok (.aload_n 0, 1) := by decide +kernel
theorem dX12_undo_42 : decode cX12_undo 42 = .ok (.getfield 45, 3) := by decide +kernel
theorem dX12_undo_45 : decode cX12_undo 45 = .ok (.aload_n 0, 1) := by decide +kernel
theorem dX12_undo_46 : decode cX12_undo 46 = .ok (.getfield 102, 3) := by decide +kernel
theorem dX12_undo_49 : decode cX12_undo 49 = .ok (.aaload, 1) := by decide +kernel
theorem dX12_undo_50 : decode cX12_undo 50 = .ok (.invokevirtual 362, 3) := by decide +kernel
theorem dX12_undo_53 : decode cX12_undo 53 = .ok (.aload_n 0, 1) := by decide +kernel
theorem dX12_undo_54 : decode cX12_undo 54 = .ok (.getfield 102, 3) := by decide +kernel
theorem dX12_undo_57 : decode cX12_undo 57 = .ok (.ireturn, 1) := by decide +kernel
theorem hd_X12_undo : yX12_undo.cls = RX12 ∧ yX12_undo.cls ≠ "java/lang/invoke/MethodHandle" ∧ yX12_undo.cls ≠ "java/lang/invoke/VarHandle" ∧ (parseMethodDescriptor yX12_undo.desc).map (fun d => d.parameters.length) = some 0 := by decide +kernel
theorem hs_X12_undo : yX12_undo.cls ≠ "java/lang/invoke/MethodHandle" ∧ yX12_undo.cls ≠ "java/lang/invoke/VarHandle" ∧ (parseMethodDescriptor yX12_undo.desc).map (fun d => d.parameters.length) = some 0 := by decide +kernel
set_option maxHeartbeats 4000000 in
set_option maxRecDepth 100000 in
theorem k_X12_undo (l : Launch) (hls : l.stackTraces = false) (E : Ev) (K : Kd) (z : Nat) (o : Nat) (w : Wd) (ho : K o = some (10, 0)) {r : Int32 ⊕ Nat} {w' : Wd} (hf : f_X12_undo K o w = some (r, w')) : vx_Met l yX12_undo (Cond.code yX12_undo cX12_undo 1 (Option.some Jvm.ClassFile.FieldType.int) :: bt) ({ frames := 6, cells := 1, slots := 6, locals := 103 } : Room) (va_Pc [rv E (some o)] (HB E K w z)) (XI E K z w' r) (XX E K w' r) 1 6 (hA E) := by
  refine vx_ofW (cc := cX12_undo) (maxL := 1) (ret := (Option.some Jvm.ClassFile.FieldType.int)) (by decide) rfl ?_
  intro p e s m args below meth c s₁ B hml hout hv
  obtain ⟨rfl, hz, hP, hKs, hT, hb0⟩ := hv
  have C : CX p l e s m _ meth c cX12_undo 1 RX12 (Option.some Jvm.ClassFile.FieldType.int) E := ⟨B.exec, B.bytes, hml, findClass_of_methodNamed B.named, fun w h => atoms_spec (ws := Cond.code yX12_undo cX12_undo 1 (Option.some Jvm.ClassFile.FieldType.int) :: bt) B.pre w (List.mem_cons_of_mem _ h), hKs, hT, by rw [hz]; exact hb0, B.notSynchronized, B.returns⟩
  have hH : HQ E K z w s s.heap [] := ⟨hP, va_S.rf, hz⟩
  obtain ⟨hx, hb, hml, hown, hts, hKs, hT, hb0, hlocks, hret⟩ := id C
  have hl := lv_entry [rv E (some o)] (n := 1) (by simp [lg_len_nil, lg_len_i, lg_len_j, lg_len_q, lg_len_f, lg_len_d, lg_len_r])
  rw [lg_entry_eq]
  generalize (lg_sl [rv E (some o)] ++ List.replicate (1 - (lg_sl [rv E (some o)]).length) Slot.unset).toArray = ls at hl ⊢
  replace hl : lv_has ls 1 [(0, rv E (some o))] := by simpa only [lv_args, cat_q, cat_i, cat_j, reduceIte, Nat.reduceEqDiff, Nat.reduceAdd, Nat.zero_add] using hl
  generalize s.heap = H at hH ⊢
  unfold f_X12_undo at hf
  refine hl_aload_n hx hb dX12_undo_0 rfl (lv_at hl 0 rfl) ?_
  refine g12_10 hx hb hts hown hKs hH rfl ho m2_229 dX12_undo_1 ?_
  refine lv_if_le (tgt := 19) hx hb dX12_undo_4 (by decide) (fun c1 => ?_) (fun c1 => ?_)
  · replace hf := (if_pos c1).symm.trans hf
    exact hx_throw hx hb hls (code := 3) hml hl.1 hown hts hKs hT hb0 hH (by decide) rfl m5_194 m1_29 hat_RX12_333 dX12_undo_19 dX12_undo_22 dX12_undo_23 dX12_undo_26 hout (Nat.le_of_ble_eq_true rfl) rc0 (Nat.le_of_ble_eq_true rfl) (Nat.le_of_ble_eq_true rfl) (Nat.le_of_ble_eq_true rfl) hlocks hf (Nat.le_of_ble_eq_true rfl) (Nat.le_of_ble_eq_true rfl)
  · replace hf := (if_neg c1).symm.trans hf
    refine hl_aload_n hx hb dX12_undo_7 rfl (lv_at hl 0 rfl) ?_
    refine g12_10 hx hb hts hown hKs hH rfl ho m2_229 dX12_undo_8 ?_
    refine hl_aload_n hx hb dX12_undo_11 rfl (lv_at hl 0 rfl) ?_
    refine g12_9 hx hb hts hown hKs hH rfl ho m2_228 dX12_undo_12 ?_
    obtain ⟨a2, ha2, hf⟩ := bnd hf
    replace ha2 := cha_some ha2
    refine hw_alen28 hx hb hKs hH ha2.1 ha2.2 dX12_undo_15 ?_
    refine lv_icmp_le (tgt := 27) hx hb dX12_undo_16 (by decide) (fun c3 => ?_) (fun c3 => ?_)
    · replace hf := (if_pos c3).symm.trans hf
      refine hl_aload_n hx hb dX12_undo_27 rfl (lv_at hl 0 rfl) ?_
      refine lv_dup hx hb dX12_undo_28 rv_cat ?_
      refine g12_10 hx hb hts hown hKs hH rfl ho m2_229 dX12_undo_29 ?_
      refine lv_iconst (v := 1) hx hb dX12_undo_32 (by decide) ?_
      refine lv_isub hx hb dX12_undo_33 ?_
      obtain ⟨w4, hw4, hf⟩ := bnd hf
      replace hw4 := Option.some.inj hw4
      refine p12_10 (v := ((wI w 1210 o) - 1)) hx hb hts hown hKs hH rfl ho m2_229 dX12_undo_34 (fun H locs hH => ?_)
      rw [hw4] at hH
      refine hl_aload_n hx hb dX12_undo_37 rfl (lv_at hl 0 rfl) ?_
      refine g12_5 hx hb hts hown hKs hH rfl ho m2_224 dX12_undo_38 ?_
      refine hl_aload_n hx hb dX12_undo_41 rfl (lv_at hl 0 rfl) ?_
      refine g12_9 hx hb hts hown hKs hH rfl ho m2_228 dX12_undo_42 ?_
      refine hl_aload_n hx hb dX12_undo_45 rfl (lv_at hl 0 rfl) ?_
      refine g12_10 hx hb hts hown hKs hH rfl ho m2_229 dX12_undo_46 ?_
      obtain ⟨a5, ha5, hf⟩ := bnd hf
      replace ha5 := cha_some ha5
      obtain ⟨j6, hj6, hf⟩ := bnd hf
      refine hw_aald28 hx hb hKs hH ha5.1 ha5.2 hj6 dX12_undo_49 ?_
      obtain ⟨a7, ha7, hf⟩ := bnd hf
      replace ha7 := chk_some ha7
      obtain ⟨q8, hq8, hf⟩ := bnd hf
      refine hcV_v hx hb hml hown hts hKs hT hb0 hH (As := [rv E (aR w4 a5.1 j6)]) (rest := []) (k_X10_copyFrom l E K H.size a7 (aR w4 a5.1 j6) w4 ha7.2 hq8) (gV m4_86 m4_87 m4_88 m1_12 m4_89) hd_X10_copyFrom ⟨Nat.le_of_ble_eq_true rfl, Nat.le_of_ble_eq_true rfl, rfl, rfl⟩ ha7.1 ha7.2 rfl rfl rfl hl.1 rfl rc0 rfl dX12_undo_50 ⟨Nat.le_of_ble_eq_true rfl, Nat.le_of_ble_eq_true rfl⟩ (fun H locs hH => ?_)
      refine hl_aload_n hx hb dX12_undo_53 rfl (lv_at hl 0 rfl) ?_
      refine g12_10 hx hb hts hown hKs hH rfl ho m2_229 dX12_undo_54 ?_
      exact hx_iret hx hb (Nat.le_of_ble_eq_true rfl) (Nat.le_of_ble_eq_true rfl) hret hf hH hlocks dX12_undo_57
    · replace hf := (if_neg c3).symm.trans hf
      exact hx_throw hx hb hls (code := 3) hml hl.1 hown hts hKs hT hb0 hH (by decide) rfl m5_194 m1_29 hat_RX12_333 dX12_undo_19 dX12_undo_22 dX12_undo_23 dX12_undo_26 hout (Nat.le_of_ble_eq_true rfl) rc0 (Nat.le_of_ble_eq_true rfl) (Nat.le_of_ble_eq_true rfl) (Nat.le_of_ble_eq_true rfl) hlocks hf (Nat.le_of_ble_eq_true rfl) (Nat.le_of_ble_eq_true rfl)

theorem dX12_remember_0 : decode cX12_remember 0 = .ok (.aload_n 0, 1) := by decide +kernel
theorem dX12_remember_1 : decode cX12_remember 1 = .ok (.getfield 102, 3) := by decide +kernel
theorem dX12_remember_4 : decode cX12_remember 4 = .ok (.bipush 8, 2) := by decide +kernel
theorem dX12_remember_6 : decode cX12_remember 6 = .ok (.if_icmp .lt 60, 3) := by decide +kernel
theorem dX12_remember_9 : decode cX12_remember 9 = .ok (.aload_n 0, 1) := by decide +kernel
theorem dX12_remember_10 : decode cX12_remember 10 = .ok (.getfield 45, 3) := by decide +kernel
theorem dX12_remember_13 : decode cX12_remember 13 = .ok (.iconst 0, 1) := by decide +kernel
theorem dX12_remember_14 : decode cX12_remember 14 = .ok (.aaload, 1) := by decide +kernel
theorem dX12_remember_15 : decode cX12_remember 15 = .ok (.astore_n 1, 1) := by decide +kernel
theorem dX12_remember_16 : decode cX12_remember 16 = .ok (.iconst 1, 1) := by decide +kernel
theorem dX12_remember_17 : decode cX12_remember 17 = .ok (.istore_n 2, 1) := by decide +kernel
theorem dX12_remember_18 : decode cX12_remember 18 = .ok (.iload_n 2, 1) := by decide +kernel
theorem dX12_remember_19 : decode cX12_remember 19 = .ok (.aload_n 0, 1) := by decide +kernel
theorem dX12_remember_20 : decode cX12_remember 20 = .ok (.getfield 45, 3) := by decide +kernel
theorem dX12_remember_23 : decode cX12_remember 23 = .ok (.arraylength, 1) := by decide +kernel
theorem dX12_remember_24 : decode cX12_remember 24 = .ok (.if_icmp .ge 23, 3) := by decide +kernel
theorem dX12_remember_27 : decode cX12_remember 27 = .ok (.aload_n 0, 1) := by decide +kernel
theorem dX12_remember_28 : decode cX12_remember 28 = .ok (.getfield 45, 3) := by decide +kernel
theorem dX12_remember_31 : decode cX12_remember 31 = .ok (.iload_n 2, 1) := by decide +kernel
theorem dX12_remember_32 : decode cX12_remember 32 = .ok (.iconst 1, 1) := by decide +kernel
theorem dX12_remember_33 : decode cX12_remember 33 = .ok (.isub, 1) := by decide +kernel
theorem dX12_remember_34 : decode cX12_remember 34 = .ok (.aload_n 0, 1) := by decide +kernel
theorem dX12_remember_35 : decode cX12_remember 35 = .ok (.getfield 45, 3) := by decide +kernel
theorem dX12_remember_38 : decode cX12_remember 38 = .ok (.iload_n 2, 1) := by decide +kernel
theorem dX12_remember_39 : decode cX12_remember 39 = .ok (.aaload, 1) := by decide +kernel
theorem dX12_remember_40 : decode cX12_remember 40 = .ok (.aastore, 1) := by decide +kernel
theorem dX12_remember_41 : decode cX12_remember 41 = .ok (.iinc 2 1, 3) := by decide +kernel
theorem dX12_remember_44 : decode cX12_remember 44 = .ok (.goto (-26), 3) := by decide +kernel
theorem dX12_remember_47 : decode cX12_remember 47 = .ok (.aload_n 0, 1) := by decide +kernel
theorem dX12_remember_48 : decode cX12_remember 48 = .ok (.getfield 45, 3) := by decide +kernel
theorem dX12_remember_51 : decode cX12_remember 51 = .ok (.aload_n 0, 1) := by decide +kernel
theorem dX12_remember_52 : decode cX12_remember 52 = .ok (.getfield 45, 3) := by decide +kernel
theorem dX12_remember_55 : decode cX12_remember 55 = .ok (.arraylength, 1) := by decide +kernel
theorem dX12_remember_56 : decode cX12_remember 56 = .ok (.iconst 1, 1) := by decide +kernel
theorem dX12_remember_57 : decode cX12_remember 57 = .ok (.isub, 1) := by decide +kernel
theorem dX12_remember_58 : decode cX12_remember 58 = .ok (.aload_n 1, 1) := by decide +kernel
theorem dX12_remember_59 : decode cX12_remember 59 = .ok (.aastore, 1) := by decide +kernel
theorem dX12_remember_60 : decode cX12_remember 60 = .ok (.aload_n 0, 1) := by decide +kernel
theorem dX12_remember_61 : decode cX12_remember 61 = .ok (.bipush 7, 2) := by decide +kernel
theorem dX12_remember_63 : decode cX12_remember 63 = .ok (.putfield 102, 3) := by decide +kernel
theorem dX12_remember_66 : decode cX12_remember 66 = .ok (.aload_n 0, 1) := by decide +kernel
theorem dX12_remember_67 : decode cX12_remember 67 = .ok (.getfield 45, 3) := by decide +kernel
theorem dX12_remember_70 : decode cX12_remember 70 = .ok (.aload_n 0, 1) := by decide +kernel
theorem dX12_remember_71 : decode cX12_remember 71 = .ok (.getfield 102, 3) := by decide +kernel
theorem dX12_remember_74 : decode cX12_remember 74 = .ok (.aaload, 1) := by decide +kernel
theorem dX12_remember_75 : decode cX12_remember 75 = .ok (.aload_n 0, 1) := by decide +kernel
theorem dX12_remember_76 : decode cX12_remember 76 = .ok (.getfield 35, 3) := by decide +kernel
theorem dX12_remember_79 : decode cX12_remember 79 = .ok (.invokevirtual 362, 3) := by decide +kernel
theorem dX12_remember_82 : decode cX12_remember 82 = .ok (.aload_n 0, 1) := by decide +kernel
theorem dX12_remember_83 : decode cX12_remember 83 = .ok (.dup, 1) := by decide +kernel
theorem dX12_remember_84 : decode cX12_remember 84 = .ok (.getfield 102, 3) := by decide +kernel
theorem dX12_remember_87 : decode cX12_remember 87 = .ok (.iconst 1, 1) := by decide +kernel
theorem dX12_remember_88 : decode cX12_remember 88 = .ok (.iadd, 1) := by decide +kernel
theorem dX12_remember_89 : decode cX12_remember 89 = .ok (.putfield 102, 3) := by decide +kernel
theorem dX12_remember_92 : decode cX12_remember 92 = .ok (.return_, 1) := by decide +kernel
theorem hd_X12_remember : yX12_remember.cls = RX12 ∧ yX12_remember.cls ≠ "java/lang/invoke/MethodHandle" ∧ yX12_remember.cls ≠ "java/lang/invoke/VarHandle" ∧ (parseMethodDescriptor yX12_remember.desc).map (fun d => d.parameters.length) = some 0 := by decide +kernel
theorem hs_X12_remember : yX12_remember.cls ≠ "java/lang/invoke/MethodHandle" ∧ yX12_remember.cls ≠ "java/lang/invoke/VarHandle" ∧ (parseMethodDescriptor yX12_remember.desc).map (fun d => d.parameters.length) = some 0 := by decide +kernel
set_option maxHeartbeats 4000000 in
set_option maxRecDepth 100000 in
theorem l_X12_remember_L18 (C : CX p l e s m args meth c cX12_remember 3 RX12 (Option.none : Option Jvm.ClassFile.FieldType) E) {o : Nat} (ho : K o = some (10, 0)) {w' : Wd} (k : Option Nat → Int32 → Wd → Option Wd) (hk : ∀ (v1_18 : Option Nat) (v2_18 : Int32) (w : Wd) (H : Heap) (locs : List Loc) (ls : Array Slot), HQ E K z w s H locs → lv_has ls 3 [(1, rv E v1_18), (2, .int v2_18), (0, rv E (some o))] → k v1_18 v2_18 w = some w' → W p l e ({ frames := 3, cells := 0, slots := 0, locals := 103 } : Room) s m args below meth c H locs 0 0 (MQ below (QV E K z w') args s 0 0 (hA E)) (F0 m 47 ls [])) : ∀ (n : Nat) (v1_18 : Option Nat) (v2_18 : Int32) (w : Wd) (H : Heap) (locs : List Loc) (ls : Array Slot), HQ E K z w s H locs → lv_has ls 3 [(1, rv E v1_18), (2, .int v2_18), (0, rv E (some o))] → f_X12_remember_L18 K o k n v1_18 v2_18 w = some w' → W p l e ({ frames := 3, cells := 0, slots := 0, locals := 103 } : Room) s m args below meth c H locs 0 0 (MQ below (QV E K z w') args s 0 0 (hA E)) (F0 m 18 ls []) := by
  obtain ⟨hx, hb, hml, hown, hts, hKs, hT, hb0, hlocks, hret⟩ := id C
  intro n
  induction n with
  | zero =>
    intro v1_18 v2_18 w H locs ls hH hl hf
    cases hf
  | succ n ih =>
    intro v1_18 v2_18 w H locs ls hH hl hf
    rw [f_X12_remember_L18] at hf
    refine lv_iload_n hx hb dX12_remember_18 rfl (lv_at hl 1 rfl) ?_
    refine hl_aload_n hx hb dX12_remember_19 rfl (lv_at hl 2 rfl) ?_
    refine g12_9 hx hb hts hown hKs hH rfl ho m2_228 dX12_remember_20 ?_
    obtain ⟨a10, ha10, hf⟩ := bnd hf
    replace ha10 := cha_some ha10
    refine hw_alen28 hx hb hKs hH ha10.1 ha10.2 dX12_remember_23 ?_
    refine lv_icmp_ge (tgt := 47) hx hb dX12_remember_24 (by decide) (fun c11 => ?_) (fun c11 => ?_)
    · replace hf := (if_pos c11).symm.trans hf
      exact hk v1_18 v2_18 _ _ _ _ hH (lv_sub hl [0, 1, 2] rfl) hf
    · replace hf := (if_neg c11).symm.trans hf
      refine hl_aload_n hx hb dX12_remember_27 rfl (lv_at hl 2 rfl) ?_
      refine g12_9 hx hb hts hown hKs hH rfl ho m2_228 dX12_remember_28 ?_
      refine lv_iload_n hx hb dX12_remember_31 rfl (lv_at hl 1 rfl) ?_
      refine lv_iconst (v := 1) hx hb dX12_remember_32 (by decide) ?_
      refine lv_isub hx hb dX12_remember_33 ?_
      refine hl_aload_n hx hb dX12_remember_34 rfl (lv_at hl 2 rfl) ?_
      refine g12_9 hx hb hts hown hKs hH rfl ho m2_228 dX12_remember_35 ?_
      refine lv_iload_n hx hb dX12_remember_38 rfl (lv_at hl 1 rfl) ?_
      obtain ⟨j12, hj12, hf⟩ := bnd hf
      refine hw_aald28 hx hb hKs hH ha10.1 ha10.2 hj12 dX12_remember_39 ?_
      obtain ⟨j13, hj13, hf⟩ := bnd hf
      obtain ⟨a14, ha14, hf⟩ := bnd hf
      replace ha14 := chk_some ha14
      obtain ⟨w15, hw15, hf⟩ := bnd hf
      replace hw15 := Option.some.inj hw15
      refine hw_aast28 hx hb hKs hH ha10.1 ha10.2 ha14.1 ha14.2 hj13 dX12_remember_40 (fun H locs hH => ?_)
      rw [hw15] at hH
      refine lv_iinc (v := (v2_18 + 1)) (lv' := [(2, .int ((v2_18 + 1))), (1, rv E v1_18), (0, rv E (some o))]) hx hb dX12_remember_41 hl (k := 1) rfl rfl (by decide) (by simp [List.filter_cons, cat_q, cat_i, cat_j, imax, imin]) (fun ls hl => ?_)
      refine lv_goto (tgt := 18) hx hb dX12_remember_44 (by decide) ?_
      exact ih v1_18 (v2_18 + 1) _ _ _ _ hH (lv_sub hl [1, 0, 2] rfl) hf
set_option maxHeartbeats 4000000 in
set_option maxRecDepth 100000 in
theorem k_X12_remember (l : Launch) (E : Ev) (K : Kd) (z : Nat) (o : Nat) (w : Wd) (ho : K o = some (10, 0)) {w' : Wd} (hf : f_X12_remember K o w = some w') : Met l yX12_remember (Cond.code yX12_remember cX12_remember 3 (Option.none : Option Jvm.ClassFile.FieldType) :: bt) ({ frames := 3, cells := 0, slots := 0, locals := 103 } : Room) (va_Pc [rv E (some o)] (HB E K w z)) (QV E K z w') 0 0 (hA E) := by
  refine Met.ofW (cc := cX12_remember) (maxL := 3) (ret := (Option.none : Option Jvm.ClassFile.FieldType)) (by decide) rfl ?_
  intro p e s m args below meth c s₁ B hml hv
  obtain ⟨rfl, hz, hP, hKs, hT, hb0⟩ := hv
  have C : CX p l e s m _ meth c cX12_remember 3 RX12 (Option.none : Option Jvm.ClassFile.FieldType) E := ⟨B.exec, B.bytes, hml, findClass_of_methodNamed B.named, fun w h => atoms_spec (ws := Cond.code yX12_remember cX12_remember 3 (Option.none : Option Jvm.ClassFile.FieldType) :: bt) B.pre w (List.mem_cons_of_mem _ h), hKs, hT, by rw [hz]; exact hb0, B.notSynchronized, B.returns⟩
  have hH : HQ E K z w s s.heap [] := ⟨hP, va_S.rf, hz⟩
  obtain ⟨hx, hb, hml, hown, hts, hKs, hT, hb0, hlocks, hret⟩ := id C
  have hl := lv_entry [rv E (some o)] (n := 3) (by simp [lg_len_nil, lg_len_i, lg_len_j, lg_len_q, lg_len_f, lg_len_d, lg_len_r])
  rw [lg_entry_eq]
  generalize (lg_sl [rv E (some o)] ++ List.replicate (3 - (lg_sl [rv E (some o)]).length) Slot.unset).toArray = ls at hl ⊢
  replace hl : lv_has ls 3 [(0, rv E (some o))] := by simpa only [lv_args, cat_q, cat_i, cat_j, reduceIte, Nat.reduceEqDiff, Nat.reduceAdd, Nat.zero_add] using hl
  generalize s.heap = H at hH ⊢
  unfold f_X12_remember at hf
  refine hl_aload_n hx hb dX12_remember_0 rfl (lv_at hl 0 rfl) ?_
  refine g12_10 hx hb hts hown hKs hH rfl ho m2_229 dX12_remember_1 ?_
  refine lv_bipush (v := 8) hx hb dX12_remember_4 (by decide) ?_
  refine lv_icmp_lt (tgt := 66) hx hb dX12_remember_6 (by decide) (fun c1 => ?_) (fun c1 => ?_)
  · replace hf := (if_pos c1).symm.trans hf
    refine hl_aload_n hx hb dX12_remember_66 rfl (lv_at hl 0 rfl) ?_
    refine g12_9 hx hb hts hown hKs hH rfl ho m2_228 dX12_remember_67 ?_
    refine hl_aload_n hx hb dX12_remember_70 rfl (lv_at hl 0 rfl) ?_
    refine g12_10 hx hb hts hown hKs hH rfl ho m2_229 dX12_remember_71 ?_
    obtain ⟨a2, ha2, hf⟩ := bnd hf
    replace ha2 := cha_some ha2
    obtain ⟨j3, hj3, hf⟩ := bnd hf
    refine hw_aald28 hx hb hKs hH ha2.1 ha2.2 hj3 dX12_remember_74 ?_
    refine hl_aload_n hx hb dX12_remember_75 rfl (lv_at hl 0 rfl) ?_
    refine g12_5 hx hb hts hown hKs hH rfl ho m2_224 dX12_remember_76 ?_
    obtain ⟨a4, ha4, hf⟩ := bnd hf
    replace ha4 := chk_some ha4
    obtain ⟨q5, hq5, hf⟩ := bnd hf
    refine hcV_v hx hb hml hown hts hKs hT hb0 hH (As := [rv E (wR w 1205 o)]) (rest := []) (k_X10_copyFrom l E K H.size a4 (wR w 1205 o) w ha4.2 hq5) (gV m4_86 m4_87 m4_88 m1_12 m4_89) hd_X10_copyFrom ⟨Nat.le_of_ble_eq_true rfl, Nat.le_of_ble_eq_true rfl, rfl, rfl⟩ ha4.1 ha4.2 rfl rfl rfl hl.1 rfl rc0 rfl dX12_remember_79 ⟨Nat.zero_le _, Nat.zero_le _⟩ (fun H locs hH => ?_)
    refine hl_aload_n hx hb dX12_remember_82 rfl (lv_at hl 0 rfl) ?_
    refine lv_dup hx hb dX12_remember_83 rv_cat ?_
    refine g12_10 hx hb hts hown hKs hH rfl ho m2_229 dX12_remember_84 ?_
    refine lv_iconst (v := 1) hx hb dX12_remember_87 (by decide) ?_
    refine lv_iadd hx hb dX12_remember_88 ?_
    obtain ⟨w6, hw6, hf⟩ := bnd hf
    replace hw6 := Option.some.inj hw6
    refine p12_10 (v := ((wI q5 1210 o) + 1)) hx hb hts hown hKs hH rfl ho m2_229 dX12_remember_89 (fun H locs hH => ?_)
    rw [hw6] at hH
    exact hw_vret hx hb hret hf hH hlocks dX12_remember_92
  · replace hf := (if_neg c1).symm.trans hf
    refine hl_aload_n hx hb dX12_remember_9 rfl (lv_at hl 0 rfl) ?_
    refine g12_9 hx hb hts hown hKs hH rfl ho m2_228 dX12_remember_10 ?_
    refine lv_iconst (v := 0) hx hb dX12_remember_13 (by decide) ?_
    obtain ⟨a7, ha7, hf⟩ := bnd hf
    replace ha7 := cha_some ha7
    obtain ⟨j8, hj8, hf⟩ := bnd hf
    refine hw_aald28 hx hb hKs hH ha7.1 ha7.2 hj8 dX12_remember_14 ?_
    refine hl_astore_n (i := 1) (lv' := [(1, rv E (aR w a7.1 j8)), (0, rv E (some o))]) hx hb dX12_remember_15 rfl hl (by decide) rfl (fun ls hl => ?_)
    refine lv_iconst (v := 1) hx hb dX12_remember_16 (by decide) ?_
    refine lv_istore_n (i := 2) (lv' := [(2, .int 1), (1, rv E (aR w a7.1 j8)), (0, rv E (some o))]) hx hb dX12_remember_17 rfl hl (by decide) (by simp [List.filter_cons, cat_q, cat_i, cat_j, imax, imin]) (fun ls hl => ?_)
    refine l_X12_remember_L18  C ho _ (fun v1_18 v2_18 w9 H locs ls hH hl hf => ?_) fu (aR w a7.1 j8) 1 w _ _ _ hH (lv_sub hl [1, 0, 2] rfl) hf
    refine hl_aload_n hx hb dX12_remember_47 rfl (lv_at hl 2 rfl) ?_
    refine g12_9 hx hb hts hown hKs hH rfl ho m2_228 dX12_remember_48 ?_
    refine hl_aload_n hx hb dX12_remember_51 rfl (lv_at hl 2 rfl) ?_
    refine g12_9 hx hb hts hown hKs hH rfl ho m2_228 dX12_remember_52 ?_
    obtain ⟨a16, ha16, hf⟩ := bnd hf
    replace ha16 := cha_some ha16
    refine hw_alen28 hx hb hKs hH ha16.1 ha16.2 dX12_remember_55 ?_
    refine lv_iconst (v := 1) hx hb dX12_remember_56 (by decide) ?_
    refine lv_isub hx hb dX12_remember_57 ?_
    refine hl_aload_n hx hb dX12_remember_58 rfl (lv_at hl 0 rfl) ?_
    obtain ⟨j17, hj17, hf⟩ := bnd hf
    obtain ⟨a18, ha18, hf⟩ := bnd hf
    replace ha18 := chk_some ha18
    obtain ⟨w19, hw19, hf⟩ := bnd hf
    replace hw19 := Option.some.inj hw19
    refine hw_aast28 hx hb hKs hH ha16.1 ha16.2 ha18.1 ha18.2 hj17 dX12_remember_59 (fun H locs hH => ?_)
    rw [hw19] at hH
    refine hl_aload_n hx hb dX12_remember_60 rfl (lv_at hl 2 rfl) ?_
    refine lv_bipush (v := 7) hx hb dX12_remember_61 (by decide) ?_
    obtain ⟨w20, hw20, hf⟩ := bnd hf
    replace hw20 := Option.some.inj hw20
    refine p12_10 (v := 7) hx hb hts hown hKs hH rfl ho m2_229 dX12_remember_63 (fun H locs hH => ?_)
    rw [hw20] at hH
    refine hl_aload_n hx hb dX12_remember_66 rfl (lv_at hl 2 rfl) ?_
    refine g12_9 hx hb hts hown hKs hH rfl ho m2_228 dX12_remember_67 ?_
    refine hl_aload_n hx hb dX12_remember_70 rfl (lv_at hl 2 rfl) ?_
    refine g12_10 hx hb hts hown hKs hH rfl ho m2_229 dX12_remember_71 ?_
    obtain ⟨a21, ha21, hf⟩ := bnd hf
    replace ha21 := cha_some ha21
    obtain ⟨j22, hj22, hf⟩ := bnd hf
    refine hw_aald28 hx hb hKs hH ha21.1 ha21.2 hj22 dX12_remember_74 ?_
    refine hl_aload_n hx hb dX12_remember_75 rfl (lv_at hl 2 rfl) ?_
    refine g12_5 hx hb hts hown hKs hH rfl ho m2_224 dX12_remember_76 ?_
    obtain ⟨a23, ha23, hf⟩ := bnd hf
    replace ha23 := chk_some ha23
    obtain ⟨q24, hq24, hf⟩ := bnd hf
    refine hcV_v hx hb hml hown hts hKs hT hb0 hH (As := [rv E (wR w20 1205 o)]) (rest := []) (k_X10_copyFrom l E K H.size a23 (wR w20 1205 o) w20 ha23.2 hq24) (gV m4_86 m4_87 m4_88 m1_12 m4_89) hd_X10_copyFrom ⟨Nat.le_of_ble_eq_true rfl, Nat.le_of_ble_eq_true rfl, rfl, rfl⟩ ha23.1 ha23.2 rfl rfl rfl hl.1 rfl rc0 rfl dX12_remember_79 ⟨Nat.zero_le _, Nat.zero_le _⟩ (fun H locs hH => ?_)
    refine hl_aload_n hx hb dX12_remember_82 rfl (lv_at hl 2 rfl) ?_
    refine lv_dup hx hb dX12_remember_83 rv_cat ?_
    refine g12_10 hx hb hts hown hKs hH rfl ho m2_229 dX12_remember_84 ?_
    refine lv_iconst (v := 1) hx hb dX12_remember_87 (by decide) ?_
    refine lv_iadd hx hb dX12_remember_88 ?_
    obtain ⟨w25, hw25, hf⟩ := bnd hf
    replace hw25 := Option.some.inj hw25
    refine p12_10 (v := ((wI q24 1210 o) + 1)) hx hb hts hown hKs hH rfl ho m2_229 dX12_remember_89 (fun H locs hH => ?_)
    rw [hw25] at hH
    exact hw_vret hx hb hret hf hH hlocks dX12_remember_92

theorem dX12_lapsesIn_0 : decode cX12_lapsesIn 0 = .ok (.aload_n 0, 1) := by decide +kernel
theorem dX12_lapsesIn_1 : decode cX12_lapsesIn 1 = .ok (.iload_n 1, 1) := by decide +kernel
theorem dX12_lapsesIn_2 : decode cX12_lapsesIn 2 = .ok (.invokevirtual 322, 3) := by decide +kernel
theorem dX12_lapsesIn_5 : decode cX12_lapsesIn 5 = .ok (.aload_n 0, 1) := by decide +kernel
theorem dX12_lapsesIn_6 : decode cX12_lapsesIn 6 = .ok (.getfield 35, 3) := by decide +kernel
theorem dX12_lapsesIn_9 : decode cX12_lapsesIn 9 = .ok (.iconst 3, 1) := by decide +kernel
theorem dX12_lapsesIn_10 : decode cX12_lapsesIn 10 = .ok (.invokevirtual 130, 3) := by decide +kernel
theorem dX12_lapsesIn_13 : decode cX12_lapsesIn 13 = .ok (.istore_n 2, 1) := by decide +kernel
theorem dX12_lapsesIn_14 : decode cX12_lapsesIn 14 = .ok (.aload_n 0, 1) := by decide +kernel
theorem dX12_lapsesIn_15 : decode cX12_lapsesIn 15 = .ok (.getfield 42, 3) := by decide +kernel
theorem dX12_lapsesIn_18 : decode cX12_lapsesIn 18 = .ok (.aload_n 0, 1) := by decide +kernel
theorem dX12_lapsesIn_19 : decode cX12_lapsesIn 19 = .ok (.getfield 35, 3) := by decide +kernel
theorem dX12_lapsesIn_22 : decode cX12_lapsesIn 22 = .ok (.invokevirtual 362, 3) := by decide +kernel
theorem dX12_lapsesIn_25 : decode cX12_lapsesIn 25 = .ok (.aload_n 0, 1) := by decide +kernel
theorem dX12_lapsesIn_26 : decode cX12_lapsesIn 26 = .ok (.getfield 42, 3) := by decide +kernel
theorem dX12_lapsesIn_29 : decode cX12_lapsesIn 29 = .ok (.iload_n 1, 1) := by decide +kernel
theorem dX12_lapsesIn_30 : decode cX12_lapsesIn 30 = .ok (.invokevirtual 328, 3) := by decide +kernel
theorem dX12_lapsesIn_33 : decode cX12_lapsesIn 33 = .ok (.pop, 1) := by decide +kernel
theorem dX12_lapsesIn_34 : decode cX12_lapsesIn 34 = .ok (.aload_n 0, 1) := by decide +kernel
theorem dX12_lapsesIn_35 : decode cX12_lapsesIn 35 = .ok (.getfield 42, 3) := by decide +kernel
theorem dX12_lapsesIn_38 : decode cX12_lapsesIn 38 = .ok (.iconst 3, 1) := by decide +kernel
theorem dX12_lapsesIn_39 : decode cX12_lapsesIn 39 = .ok (.invokevirtual 130, 3) := by decide +kernel
theorem dX12_lapsesIn_42 : decode cX12_lapsesIn 42 = .ok (.iload_n 2, 1) := by decide +kernel
theorem dX12_lapsesIn_43 : decode cX12_lapsesIn 43 = .ok (.isub, 1) := by decide +kernel
theorem dX12_lapsesIn_44 : decode cX12_lapsesIn 44 = .ok (.ireturn, 1) := by decide +kernel
theorem hd_X12_lapsesIn : yX12_lapsesIn.cls = RX12 ∧ yX12_lapsesIn.cls ≠ "java/lang/invoke/MethodHandle" ∧ yX12_lapsesIn.cls ≠ "java/lang/invoke/VarHandle" ∧ (parseMethodDescriptor yX12_lapsesIn.desc).map (fun d => d.parameters.length) = some 1 := by decide +kernel
theorem hs_X12_lapsesIn : yX12_lapsesIn.cls ≠ "java/lang/invoke/MethodHandle" ∧ yX12_lapsesIn.cls ≠ "java/lang/invoke/VarHandle" ∧ (parseMethodDescriptor yX12_lapsesIn.desc).map (fun d => d.parameters.length) = some 1 := by decide +kernel
set_option maxHeartbeats 4000000 in
set_option maxRecDepth 100000 in
theorem k_X12_lapsesIn (l : Launch) (hls : l.stackTraces = false) (E : Ev) (K : Kd) (z : Nat) (o : Nat) (a_1 : Int32) (w : Wd) (ho : K o = some (10, 0)) {r : Int32 ⊕ Nat} {w' : Wd} (hf : f_X12_lapsesIn K o a_1 w = some (r, w')) : vx_Met l yX12_lapsesIn (Cond.code yX12_lapsesIn cX12_lapsesIn 3 (Option.some Jvm.ClassFile.FieldType.int) :: bt) ({ frames := 7, cells := 1, slots := 6, locals := 111 } : Room) (va_Pc [rv E (some o), .int a_1] (HB E K w z)) (XI E K z w' r) (XX E K w' r) 1 6 (hA E) := by
  refine vx_ofW (cc := cX12_lapsesIn) (maxL := 3) (ret := (Option.some Jvm.ClassFile.FieldType.int)) (by decide) rfl ?_
  intro p e s m args below meth c s₁ B hml hout hv
  obtain ⟨rfl, hz, hP, hKs, hT, hb0⟩ := hv
  have C : CX p l e s m _ meth c cX12_lapsesIn 3 RX12 (Option.some Jvm.ClassFile.FieldType.int) E := ⟨B.exec, B.bytes, hml, findClass_of_methodNamed B.named, fun w h => atoms_spec (ws := Cond.code yX12_lapsesIn cX12_lapsesIn 3 (Option.some Jvm.ClassFile.FieldType.int) :: bt) B.pre w (List.mem_cons_of_mem _ h), hKs, hT, by rw [hz]; exact hb0, B.notSynchronized, B.returns⟩
  have hH : HQ E K z w s s.heap [] := ⟨hP, va_S.rf, hz⟩
  obtain ⟨hx, hb, hml, hown, hts, hKs, hT, hb0, hlocks, hret⟩ := id C
  have hl := lv_entry [rv E (some o), .int a_1] (n := 3) (by simp [lg_len_nil, lg_len_i, lg_len_j, lg_len_q, lg_len_f, lg_len_d, lg_len_r])
  rw [lg_entry_eq]
  generalize (lg_sl [rv E (some o), .int a_1] ++ List.replicate (3 - (lg_sl [rv E (some o), .int a_1]).length) Slot.unset).toArray = ls at hl ⊢
  replace hl : lv_has ls 3 [(0, rv E (some o)), (1, .int a_1)] := by simpa only [lv_args, cat_q, cat_i, cat_j, reduceIte, Nat.reduceEqDiff, Nat.reduceAdd, Nat.zero_add] using hl
  generalize s.heap = H at hH ⊢
  unfold f_X12_lapsesIn at hf
  refine hl_aload_n hx hb dX12_lapsesIn_0 rfl (lv_at hl 0 rfl) ?_
  refine lv_iload_n hx hb dX12_lapsesIn_1 rfl (lv_at hl 1 rfl) ?_
  obtain ⟨q1, hq1, hf⟩ := bnd hf
  refine hxV_v hx hb hml hown hts hKs hT hb0 hH (As := [.int a_1]) (rest := []) (k_X12_requirePassable l hls E K H.size o a_1 w ho hq1) (gV m6_49 m6_51 ms_40 m1_1 m6_52) hd_X12_requirePassable ⟨Nat.le_of_ble_eq_true rfl, Nat.le_of_ble_eq_true rfl, rfl, rfl⟩ rfl ho rfl rfl rfl hl.1 rfl rc0 rfl dX12_lapsesIn_2 ⟨Nat.le_of_ble_eq_true rfl, Nat.le_of_ble_eq_true rfl⟩ ⟨Nat.le_of_ble_eq_true rfl, Nat.le_of_ble_eq_true rfl⟩ hout hlocks (fun x hx9 => (fun h9 => ⟨(congrArg Prod.fst h9).symm, (congrArg Prod.snd h9).symm⟩) (Option.some.inj ((xk_inr hx9).symm.trans hf))) (fun v2 hv2 H locs hH => ?_)
  replace hf := (xk_inl hv2).symm.trans hf
  refine hl_aload_n hx hb dX12_lapsesIn_5 rfl (lv_at hl 0 rfl) ?_
  refine g12_5 hx hb hts hown hKs hH rfl ho m2_224 dX12_lapsesIn_6 ?_
  refine lv_iconst (v := 3) hx hb dX12_lapsesIn_9 (by decide) ?_
  obtain ⟨a3, ha3, hf⟩ := bnd hf
  replace ha3 := chk_some ha3
  obtain ⟨q4, hq4, hf⟩ := bnd hf
  refine hcV_i hx hb hml hown hts hKs hT hb0 hH (As := [.int 3]) (rest := []) (k_X10_countPhase l E K H.size a3 3 q1.2 ha3.2 hq4) (gV m4_19 m4_20 m4_21 m1_12 m4_22) hd_X10_countPhase ⟨Nat.le_of_ble_eq_true rfl, Nat.le_of_ble_eq_true rfl, rfl, rfl⟩ ha3.1 ha3.2 rfl rfl rfl hl.1 rfl rc0 rfl dX12_lapsesIn_10 ⟨Nat.le_of_ble_eq_true rfl, Nat.le_of_ble_eq_true rfl⟩ (fun H locs hH => ?_)
  refine lv_istore_n (i := 2) (lv' := [(2, .int (q4.1)), (0, rv E (some o)), (1, .int a_1)]) hx hb dX12_lapsesIn_13 rfl hl (by decide) rfl (fun ls hl => ?_)
  refine hl_aload_n hx hb dX12_lapsesIn_14 rfl (lv_at hl 1 rfl) ?_
  refine g12_8 hx hb hts hown hKs hH rfl ho m2_227 dX12_lapsesIn_15 ?_
  refine hl_aload_n hx hb dX12_lapsesIn_18 rfl (lv_at hl 1 rfl) ?_
  refine g12_5 hx hb hts hown hKs hH rfl ho m2_224 dX12_lapsesIn_19 ?_
  obtain ⟨a5, ha5, hf⟩ := bnd hf
  replace ha5 := chk_some ha5
  obtain ⟨q6, hq6, hf⟩ := bnd hf
  refine hcV_v hx hb hml hown hts hKs hT hb0 hH (As := [rv E (wR q4.2 1205 o)]) (rest := []) (k_X10_copyFrom l E K H.size a5 (wR q4.2 1205 o) q4.2 ha5.2 hq6) (gV m4_86 m4_87 m4_88 m1_12 m4_89) hd_X10_copyFrom ⟨Nat.le_of_ble_eq_true rfl, Nat.le_of_ble_eq_true rfl, rfl, rfl⟩ ha5.1 ha5.2 rfl rfl rfl hl.1 rfl rc0 rfl dX12_lapsesIn_22 ⟨Nat.le_of_ble_eq_true rfl, Nat.le_of_ble_eq_true rfl⟩ (fun H locs hH => ?_)
  refine hl_aload_n hx hb dX12_lapsesIn_25 rfl (lv_at hl 1 rfl) ?_
  refine g12_8 hx hb hts hown hKs hH rfl ho m2_227 dX12_lapsesIn_26 ?_
  refine lv_iload_n hx hb dX12_lapsesIn_29 rfl (lv_at hl 2 rfl) ?_
  obtain ⟨a7, ha7, hf⟩ := bnd hf
  replace ha7 := chk_some ha7
  obtain ⟨q8, hq8, hf⟩ := bnd hf
  refine hcV_i hx hb hml hown hts hKs hT hb0 hH (As := [.int a_1]) (rest := []) (k_X10_passDays l E K H.size a7 a_1 q6 ha7.2 hq8) (gV m6_53 m6_54 m6_55 m1_12 m6_56) hd_X10_passDays ⟨Nat.le_of_ble_eq_true rfl, Nat.le_of_ble_eq_true rfl, rfl, rfl⟩ ha7.1 ha7.2 rfl rfl rfl hl.1 rfl rc0 rfl dX12_lapsesIn_30 ⟨Nat.le_of_ble_eq_true rfl, Nat.le_of_ble_eq_true rfl⟩ (fun H locs hH => ?_)
  refine lv_pop hx hb dX12_lapsesIn_33 rfl ?_
  refine hl_aload_n hx hb dX12_lapsesIn_34 rfl (lv_at hl 1 rfl) ?_
  refine g12_8 hx hb hts hown hKs hH rfl ho m2_227 dX12_lapsesIn_35 ?_
  refine lv_iconst (v := 3) hx hb dX12_lapsesIn_38 (by decide) ?_
  obtain ⟨a9, ha9, hf⟩ := bnd hf
  replace ha9 := chk_some ha9
  obtain ⟨q10, hq10, hf⟩ := bnd hf
  refine hcV_i hx hb hml hown hts hKs hT hb0 hH (As := [.int 3]) (rest := []) (k_X10_countPhase l E K H.size a9 3 q8.2 ha9.2 hq10) (gV m4_19 m4_20 m4_21 m1_12 m4_22) hd_X10_countPhase ⟨Nat.le_of_ble_eq_true rfl, Nat.le_of_ble_eq_true rfl, rfl, rfl⟩ ha9.1 ha9.2 rfl rfl rfl hl.1 rfl rc0 rfl dX12_lapsesIn_39 ⟨Nat.le_of_ble_eq_true rfl, Nat.le_of_ble_eq_true rfl⟩ (fun H locs hH => ?_)
  refine lv_iload_n hx hb dX12_lapsesIn_42 rfl (lv_at hl 0 rfl) ?_
  refine lv_isub hx hb dX12_lapsesIn_43 ?_
  exact hx_iret hx hb (Nat.le_of_ble_eq_true rfl) (Nat.le_of_ble_eq_true rfl) hret hf hH hlocks dX12_lapsesIn_44

theorem dX12_printName_0 : decode cX12_printName 0 = .ok (.aload_n 0, 1) := by decide +kernel
theorem dX12_printName_1 : decode cX12_printName 1 = .ok (.getfield 35, 3) := by decide +kernel
theorem dX12_printName_4 : decode cX12_printName 4 = .ok (.getfield 87, 3) := by decide +kernel
theorem dX12_printName_7 : decode cX12_printName 7 = .ok (.getfield 140, 3) := by decide +kernel
theorem dX12_printName_10 : decode cX12_printName 10 = .ok (.iload_n 1, 1) := by decide +kernel
theorem dX12_printName_11 : decode cX12_printName 11 = .ok (.aaload, 1) := by decide +kernel
theorem dX12_printName_12 : decode cX12_printName 12 = .ok (.iload_n 2, 1) := by decide +kernel
theorem dX12_printName_13 : decode cX12_printName 13 = .ok (.invokevirtual 382, 3) := by decide +kernel
theorem dX12_printName_16 : decode cX12_printName 16 = .ok (.lstore_n 3, 1) := by decide +kernel
theorem dX12_printName_17 : decode cX12_printName 17 = .ok (.bipush 56, 2) := by decide +kernel
theorem dX12_printName_19 : decode cX12_printName 19 = .ok (.istore 5, 2) := by decide +kernel
theorem dX12_printName_21 : decode cX12_printName 21 = .ok (.iload 5, 2) := by decide +kernel
theorem dX12_printName_23 : decode cX12_printName 23 = .ok (.ifCond .lt 28, 3) := by decide +kernel
theorem dX12_printName_26 : decode cX12_printName 26 = .ok (.lload_n 3, 1) := by decide +kernel
theorem dX12_printName_27 : decode cX12_printName 27 = .ok (.iload 5, 2) := by decide +kernel
theorem dX12_printName_29 : decode cX12_printName 29 = .ok (.lushr, 1) := by decide +kernel
theorem dX12_printName_30 : decode cX12_printName 30 = .ok (.l2i, 1) := by decide +kernel
theorem dX12_printName_31 : decode cX12_printName 31 = .ok (.i2b, 1) := by decide +kernel
theorem dX12_printName_32 : decode cX12_printName 32 = .ok (.istore 6, 2) := by decide +kernel
theorem dX12_printName_34 : decode cX12_printName 34 = .ok (.iload 6, 2) := by decide +kernel
theorem dX12_printName_36 : decode cX12_printName 36 = .ok (.ifCond .eq 9, 3) := by decide +kernel
theorem dX12_printName_39 : decode cX12_printName 39 = .ok (.aload_n 0, 1) := by decide +kernel
theorem dX12_printName_40 : decode cX12_printName 40 = .ok (.iload 6, 2) := by decide +kernel
theorem dX12_printName_42 : decode cX12_printName 42 = .ok (.invokevirtual 375, 3) := by decide +kernel
theorem dX12_printName_45 : decode cX12_printName 45 = .ok (.iinc 5 (-8), 3) := by decide +kernel
theorem dX12_printName_48 : decode cX12_printName 48 = .ok (.goto (-27), 3) := by decide +kernel
theorem dX12_printName_51 : decode cX12_printName 51 = .ok (.return_, 1) := by decide +kernel
theorem hd_X12_printName : yX12_printName.cls = RX12 ∧ yX12_printName.cls ≠ "java/lang/invoke/MethodHandle" ∧ yX12_printName.cls ≠ "java/lang/invoke/VarHandle" ∧ (parseMethodDescriptor yX12_printName.desc).map (fun d => d.parameters.length) = some 2 := by decide +kernel
theorem hs_X12_printName : yX12_printName.cls ≠ "java/lang/invoke/MethodHandle" ∧ yX12_printName.cls ≠ "java/lang/invoke/VarHandle" ∧ (parseMethodDescriptor yX12_printName.desc).map (fun d => d.parameters.length) = some 2 := by decide +kernel
set_option maxHeartbeats 4000000 in
set_option maxRecDepth 100000 in
theorem l_X12_printName_L21 (C : CX p l e s m args meth c cX12_printName 7 RX12 (Option.none : Option Jvm.ClassFile.FieldType) E) {o : Nat} (ho : K o = some (10, 0)) {w' : Wd} (k : Int32 → Int32 → Int64 → Int32 → Wd → Option Wd) (hk : ∀ (v1_21 : Int32) (v2_21 : Int32) (v3_21 : Int64) (v5_21 : Int32) (w : Wd) (H : Heap) (locs : List Loc) (ls : Array Slot), HQ E K z w s H locs → lv_has ls 7 [(1, .int v1_21), (2, .int v2_21), (3, .long v3_21), (5, .int v5_21), (0, rv E (some o))] → k v1_21 v2_21 v3_21 v5_21 w = some w' → W p l e ({ frames := 1, cells := 0, slots := 0, locals := 21 } : Room) s m args below meth c H locs 0 0 (MQ below (QV E K z w') args s 0 0 (hA E)) (F0 m 51 ls [])) : ∀ (n : Nat) (v1_21 : Int32) (v2_21 : Int32) (v3_21 : Int64) (v5_21 : Int32) (w : Wd) (H : Heap) (locs : List Loc) (ls : Array Slot), HQ E K z w s H locs → lv_has ls 7 [(1, .int v1_21), (2, .int v2_21), (3, .long v3_21), (5, .int v5_21), (0, rv E (some o))] → f_X12_printName_L21 K o k n v1_21 v2_21 v3_21 v5_21 w = some w' → W p l e ({ frames := 1, cells := 0, slots := 0, locals := 21 } : Room) s m args below meth c H locs 0 0 (MQ below (QV E K z w') args s 0 0 (hA E)) (F0 m 21 ls []) := by
  obtain ⟨hx, hb, hml, hown, hts, hKs, hT, hb0, hlocks, hret⟩ := id C
  intro n
  induction n with
  | zero =>
    intro v1_21 v2_21 v3_21 v5_21 w H locs ls hH hl hf
    cases hf
  | succ n ih =>
    intro v1_21 v2_21 v3_21 v5_21 w H locs ls hH hl hf
    rw [f_X12_printName_L21] at hf
    refine lv_iload hx hb dX12_printName_21 (lv_at hl 3 rfl) ?_
    refine lv_if_lt (tgt := 51) hx hb dX12_printName_23 (by decide) (fun c8 => ?_) (fun c8 => ?_)
    · replace hf := (if_pos c8).symm.trans hf
      exact hk v1_21 v2_21 v3_21 v5_21 _ _ _ _ hH (lv_sub hl [0, 1, 2, 3, 4] rfl) hf
    · replace hf := (if_neg c8).symm.trans hf
      refine lv_lload_n hx hb dX12_printName_26 rfl (lv_at hl 2 rfl) ?_
      refine lv_iload hx hb dX12_printName_27 (lv_at hl 3 rfl) ?_
      refine lv_lushr (v := (lsr v3_21 v5_21)) hx hb dX12_printName_29 rfl ?_
      refine lv_l2i (v := ((lsr v3_21 v5_21).toInt32)) hx hb dX12_printName_30 rfl ?_
      refine lv_i2b (v := (((lsr v3_21 v5_21).toInt32).toInt8.toInt32)) hx hb dX12_printName_31 rfl ?_
      refine lv_istore (i := 6) (lv' := [(6, .int ((((lsr v3_21 v5_21).toInt32).toInt8.toInt32))), (1, .int v1_21), (2, .int v2_21), (3, .long v3_21), (5, .int v5_21), (0, rv E (some o))]) hx hb dX12_printName_32 hl (by decide) rfl (fun ls hl => ?_)
      refine lv_iload hx hb dX12_printName_34 (lv_at hl 0 rfl) ?_
      refine lv_if_eq (tgt := 45) hx hb dX12_printName_36 (by decide) (fun c9 => ?_) (fun c9 => ?_)
      · replace hf := (if_pos c9).symm.trans hf
        refine lv_iinc (v := (v5_21 + (-8))) (lv' := [(5, .int ((v5_21 + (-8)))), (6, .int ((((lsr v3_21 v5_21).toInt32).toInt8.toInt32))), (1, .int v1_21), (2, .int v2_21), (3, .long v3_21), (0, rv E (some o))]) hx hb dX12_printName_45 hl (k := 4) rfl rfl (by decide) rfl (fun ls hl => ?_)
        refine lv_goto (tgt := 21) hx hb dX12_printName_48 (by decide) ?_
        exact ih v1_21 v2_21 v3_21 (v5_21 + (-8)) _ _ _ _ hH (lv_sub hl [2, 3, 4, 0, 5] rfl) hf
      · replace hf := (if_neg c9).symm.trans hf
        refine hl_aload_n hx hb dX12_printName_39 rfl (lv_at hl 5 rfl) ?_
        refine lv_iload hx hb dX12_printName_40 (lv_at hl 0 rfl) ?_
        obtain ⟨q10, hq10, hf⟩ := bnd hf
        refine hcV_v hx hb hml hown hts hKs hT hb0 hH (As := [.int ((((lsr v3_21 v5_21).toInt32).toInt8.toInt32))]) (rest := []) (k_X12_print l E K H.size o (((lsr v3_21 v5_21).toInt32).toInt8.toInt32) w ho hq10) (gV m6_142 m6_144 ms_43 m1_1 m6_145) hd_X12_print ⟨Nat.le_of_ble_eq_true rfl, Nat.le_of_ble_eq_true rfl, rfl, rfl⟩ rfl ho rfl rfl rfl hl.1 rfl rc0 rfl dX12_printName_42 ⟨Nat.zero_le _, Nat.zero_le _⟩ (fun H locs hH => ?_)
        refine lv_iinc (v := (v5_21 + (-8))) (lv' := [(5, .int ((v5_21 + (-8)))), (6, .int ((((lsr v3_21 v5_21).toInt32).toInt8.toInt32))), (1, .int v1_21), (2, .int v2_21), (3, .long v3_21), (0, rv E (some o))]) hx hb dX12_printName_45 hl (k := 4) rfl rfl (by decide) rfl (fun ls hl => ?_)
        refine lv_goto (tgt := 21) hx hb dX12_printName_48 (by decide) ?_
        exact ih v1_21 v2_21 v3_21 (v5_21 + (-8)) _ _ _ _ hH (lv_sub hl [2, 3, 4, 0, 5] rfl) hf
set_option maxHeartbeats 4000000 in
set_option maxRecDepth 100000 in
theorem k_X12_printName (l : Launch) (E : Ev) (K : Kd) (z : Nat) (o : Nat) (a_1 : Int32) (a_2 : Int32) (w : Wd) (ho : K o = some (10, 0)) {w' : Wd} (hf : f_X12_printName K o a_1 a_2 w = some w') : Met l yX12_printName (Cond.code yX12_printName cX12_printName 7 (Option.none : Option Jvm.ClassFile.FieldType) :: bt) ({ frames := 1, cells := 0, slots := 0, locals := 21 } : Room) (va_Pc [rv E (some o), .int a_1, .int a_2] (HB E K w z)) (QV E K z w') 0 0 (hA E) := by
  refine Met.ofW (cc := cX12_printName) (maxL := 7) (ret := (Option.none : Option Jvm.ClassFile.FieldType)) (by decide) rfl ?_
  intro p e s m args below meth c s₁ B hml hv
  obtain ⟨rfl, hz, hP, hKs, hT, hb0⟩ := hv
  have C : CX p l e s m _ meth c cX12_printName 7 RX12 (Option.none : Option Jvm.ClassFile.FieldType) E := ⟨B.exec, B.bytes, hml, findClass_of_methodNamed B.named, fun w h => atoms_spec (ws := Cond.code yX12_printName cX12_printName 7 (Option.none : Option Jvm.ClassFile.FieldType) :: bt) B.pre w (List.mem_cons_of_mem _ h), hKs, hT, by rw [hz]; exact hb0, B.notSynchronized, B.returns⟩
  have hH : HQ E K z w s s.heap [] := ⟨hP, va_S.rf, hz⟩
  obtain ⟨hx, hb, hml, hown, hts, hKs, hT, hb0, hlocks, hret⟩ := id C
  have hl := lv_entry [rv E (some o), .int a_1, .int a_2] (n := 7) (by simp [lg_len_nil, lg_len_i, lg_len_j, lg_len_q, lg_len_f, lg_len_d, lg_len_r])
  rw [lg_entry_eq]
  generalize (lg_sl [rv E (some o), .int a_1, .int a_2] ++ List.replicate (7 - (lg_sl [rv E (some o), .int a_1, .int a_2]).length) Slot.unset).toArray = ls at hl ⊢
  replace hl : lv_has ls 7 [(0, rv E (some o)), (1, .int a_1), (2, .int a_2)] := by simpa only [lv_args, cat_q, cat_i, cat_j, reduceIte, Nat.reduceEqDiff, Nat.reduceAdd, Nat.zero_add] using hl
  generalize s.heap = H at hH ⊢
  unfold f_X12_printName at hf
  refine hl_aload_n hx hb dX12_printName_0 rfl (lv_at hl 0 rfl) ?_
  refine g12_5 hx hb hts hown hKs hH rfl ho m2_224 dX12_printName_1 ?_
  obtain ⟨a1, ha1, hf⟩ := bnd hf
  replace ha1 := chk_some ha1
  refine gn10_0 hx hb hts hown hKs hH ha1.1 ha1.2 m2_122 dX12_printName_4 ?_
  obtain ⟨a2, ha2, hf⟩ := bnd hf
  replace ha2 := chk_some ha2
  refine gn9_0 hx hb hts hown hKs hH ha2.1 ha2.2 m1_151 dX12_printName_7 ?_
  refine lv_iload_n hx hb dX12_printName_10 rfl (lv_at hl 1 rfl) ?_
  obtain ⟨a3, ha3, hf⟩ := bnd hf
  replace ha3 := cha_some ha3
  obtain ⟨j4, hj4, hf⟩ := bnd hf
  refine hw_aald26 hx hb hKs hH ha3.1 ha3.2 hj4 dX12_printName_11 ?_
  refine lv_iload_n hx hb dX12_printName_12 rfl (lv_at hl 2 rfl) ?_
  obtain ⟨a5, ha5, hf⟩ := bnd hf
  replace ha5 := chk_some ha5
  obtain ⟨q6, hq6, hf⟩ := bnd hf
  refine hcV_l hx hb hml hown hts hKs hT hb0 hH (As := [.int a_2]) (rest := []) (k_X4_at l E K H.size a5 a_2 w ha5.2 hq6) (gV m6_150 m6_151 m6_152 m1_4 m6_153) hd_X4_at ⟨Nat.le_of_ble_eq_true rfl, Nat.le_of_ble_eq_true rfl, rfl, rfl⟩ ha5.1 ha5.2 rfl rfl rfl hl.1 rfl rc0 rfl dX12_printName_13 ⟨Nat.zero_le _, Nat.zero_le _⟩ (fun H locs hH => ?_)
  refine lv_lstore_n (i := 3) (lv' := [(3, .long q6.1), (0, rv E (some o)), (1, .int a_1), (2, .int a_2)]) hx hb dX12_printName_16 rfl hl (by decide) rfl (fun ls hl => ?_)
  refine lv_bipush (v := 56) hx hb dX12_printName_17 (by decide) ?_
  refine lv_istore (i := 5) (lv' := [(5, .int 56), (3, .long q6.1), (0, rv E (some o)), (1, .int a_1), (2, .int a_2)]) hx hb dX12_printName_19 hl (by decide) rfl (fun ls hl => ?_)
  refine l_X12_printName_L21  C ho _ (fun v1_21 v2_21 v3_21 v5_21 w7 H locs ls hH hl hf => ?_) fu a_1 a_2 q6.1 56 q6.2 _ _ _ hH (lv_sub hl [3, 4, 1, 0, 2] rfl) hf
  exact hw_vret hx hb hret hf hH hlocks dX12_printName_51

theorem dX12_saveState_0 : decode cX12_saveState 0 = .ok (.aload_n 0, 1) := by decide +kernel
theorem dX12_saveState_1 : decode cX12_saveState 1 = .ok (.getfield 39, 3) := by decide +kernel
theorem dX12_saveState_4 : decode cX12_saveState 4 = .ok (.aload_n 0, 1) := by decide +kernel
theorem dX12_saveState_5 : decode cX12_saveState 5 = .ok (.getfield 35, 3) := by decide +kernel
theorem dX12_saveState_8 : decode cX12_saveState 8 = .ok (.invokevirtual 362, 3) := by decide +kernel
theorem dX12_saveState_11 : decode cX12_saveState 11 = .ok (.aload_n 0, 1) := by decide +kernel
theorem dX12_saveState_12 : decode cX12_saveState 12 = .ok (.iconst 1, 1) := by decide +kernel
theorem dX12_saveState_13 : decode cX12_saveState 13 = .ok (.putfield 98, 3) := by decide +kernel
theorem dX12_saveState_16 : decode cX12_saveState 16 = .ok (.aload_n 0, 1) := by decide +kernel
theorem dX12_saveState_17 : decode cX12_saveState 17 = .ok (.getfield 35, 3) := by decide +kernel
theorem dX12_saveState_20 : decode cX12_saveState 20 = .ok (.getfield 124, 3) := by decide +kernel
theorem dX12_saveState_23 : decode cX12_saveState 23 = .ok (.ireturn, 1) := by decide +kernel
theorem hd_X12_saveState : yX12_saveState.cls = RX12 ∧ yX12_saveState.cls ≠ "java/lang/invoke/MethodHandle" ∧ yX12_saveState.cls ≠ "java/lang/invoke/VarHandle" ∧ (parseMethodDescriptor yX12_saveState.desc).map (fun d => d.parameters.length) = some 0 := by decide +kernel
theorem hs_X12_saveState : yX12_saveState.cls ≠ "java/lang/invoke/MethodHandle" ∧ yX12_saveState.cls ≠ "java/lang/invoke/VarHandle" ∧ (parseMethodDescriptor yX12_saveState.desc).map (fun d => d.parameters.length) = some 0 := by decide +kernel
set_option maxHeartbeats 4000000 in
set_option maxRecDepth 100000 in
theorem k_X12_saveState (l : Launch) (E : Ev) (K : Kd) (z : Nat) (o : Nat) (w : Wd) (ho : K o = some (10, 0)) {r : Int32} {w' : Wd} (hf : f_X12_saveState K o w = some (r, w')) : Met l yX12_saveState (Cond.code yX12_saveState cX12_saveState 1 (Option.some Jvm.ClassFile.FieldType.int) :: bt) ({ frames := 3, cells := 0, slots := 0, locals := 103 } : Room) (va_Pc [rv E (some o)] (HB E K w z)) (QI E K z w' r) 0 0 (hA E) := by
  refine Met.ofW (cc := cX12_saveState) (maxL := 1) (ret := (Option.some Jvm.ClassFile.FieldType.int)) (by decide) rfl ?_
  intro p e s m args below meth c s₁ B hml hv
  obtain ⟨rfl, hz, hP, hKs, hT, hb0⟩ := hv
  have C : CX p l e s m _ meth c cX12_saveState 1 RX12 (Option.some Jvm.ClassFile.FieldType.int) E := ⟨B.exec, B.bytes, hml, findClass_of_methodNamed B.named, fun w h => atoms_spec (ws := Cond.code yX12_saveState cX12_saveState 1 (Option.some Jvm.ClassFile.FieldType.int) :: bt) B.pre w (List.mem_cons_of_mem _ h), hKs, hT, by rw [hz]; exact hb0, B.notSynchronized, B.returns⟩
  have hH : HQ E K z w s s.heap [] := ⟨hP, va_S.rf, hz⟩
  obtain ⟨hx, hb, hml, hown, hts, hKs, hT, hb0, hlocks, hret⟩ := id C
  have hl := lv_entry [rv E (some o)] (n := 1) (by simp [lg_len_nil, lg_len_i, lg_len_j, lg_len_q, lg_len_f, lg_len_d, lg_len_r])
  rw [lg_entry_eq]
  generalize (lg_sl [rv E (some o)] ++ List.replicate (1 - (lg_sl [rv E (some o)]).length) Slot.unset).toArray = ls at hl ⊢
  replace hl : lv_has ls 1 [(0, rv E (some o))] := by simpa only [lv_args, cat_q, cat_i, cat_j, reduceIte, Nat.reduceEqDiff, Nat.reduceAdd, Nat.zero_add] using hl
  generalize s.heap = H at hH ⊢
  unfold f_X12_saveState at hf
  refine hl_aload_n hx hb dX12_saveState_0 rfl (lv_at hl 0 rfl) ?_
  refine g12_6 hx hb hts hown hKs hH rfl ho m2_225 dX12_saveState_1 ?_
  refine hl_aload_n hx hb dX12_saveState_4 rfl (lv_at hl 0 rfl) ?_
  refine g12_5 hx hb hts hown hKs hH rfl ho m2_224 dX12_saveState_5 ?_
  obtain ⟨a1, ha1, hf⟩ := bnd hf
  replace ha1 := chk_some ha1
  obtain ⟨q2, hq2, hf⟩ := bnd hf
  refine hcV_v hx hb hml hown hts hKs hT hb0 hH (As := [rv E (wR w 1205 o)]) (rest := []) (k_X10_copyFrom l E K H.size a1 (wR w 1205 o) w ha1.2 hq2) (gV m4_86 m4_87 m4_88 m1_12 m4_89) hd_X10_copyFrom ⟨Nat.le_of_ble_eq_true rfl, Nat.le_of_ble_eq_true rfl, rfl, rfl⟩ ha1.1 ha1.2 rfl rfl rfl hl.1 rfl rc0 rfl dX12_saveState_8 ⟨Nat.zero_le _, Nat.zero_le _⟩ (fun H locs hH => ?_)
  refine hl_aload_n hx hb dX12_saveState_11 rfl (lv_at hl 0 rfl) ?_
  refine lv_iconst (v := 1) hx hb dX12_saveState_12 (by decide) ?_
  obtain ⟨w3, hw3, hf⟩ := bnd hf
  replace hw3 := Option.some.inj hw3
  refine p12_7 (v := true) hx hb hts hown hKs hH rfl ho m2_226 dX12_saveState_13 (fun H locs hH => ?_)
  rw [hw3] at hH
  refine hl_aload_n hx hb dX12_saveState_16 rfl (lv_at hl 0 rfl) ?_
  refine g12_5 hx hb hts hown hKs hH rfl ho m2_224 dX12_saveState_17 ?_
  obtain ⟨a4, ha4, hf⟩ := bnd hf
  replace ha4 := chk_some ha4
  refine gn10_1 hx hb hts hown hKs hH ha4.1 ha4.2 m2_125 dX12_saveState_20 ?_
  exact hw_iret hx hb hret hf hH hlocks dX12_saveState_23

theorem dX12_restoreState_0 : decode cX12_restoreState 0 = .ok (.aload_n 0, 1) := by decide +kernel
theorem dX12_restoreState_1 : decode cX12_restoreState 1 = .ok (.getfield 98, 3) := by decide +kernel
theorem dX12_restoreState_4 : decode cX12_restoreState 4 = .ok (.ifCond .ne 11, 3) := by decide +kernel
theorem dX12_restoreState_7 : decode cX12_restoreState 7 = .ok (.new 331, 3) := by decide +kernel
theorem dX12_restoreState_10 : decode cX12_restoreState 10 = .ok (.dup, 1) := by decide +kernel
theorem dX12_restoreState_11 : decode cX12_restoreState 11 = .ok (.invokespecial 333, 3) := by decide +kernel
theorem dX12_restoreState_14 : decode cX12_restoreState 14 = .ok (.athrow, 1) := by decide +kernel
theorem dX12_restoreState_15 : decode cX12_restoreState 15 = .ok (.aload_n 0, 1) := by decide +kernel
theorem dX12_restoreState_16 : decode cX12_restoreState 16 = .ok (.getfield 35, 3) := by decide +kernel
theorem dX12_restoreState_19 : decode cX12_restoreState 19 = .ok (.aload_n 0, 1) := by decide +kernel
theorem dX12_restoreState_20 : decode cX12_restoreState 20 = .ok (.getfield 39, 3) := by decide +kernel
theorem dX12_restoreState_23 : decode cX12_restoreState 23 = .ok (.invokevirtual 362, 3) := by decide +kernel
theorem dX12_restoreState_26 : decode cX12_restoreState 26 = .ok (.aload_n 0, 1) := by decide +kernel
theorem dX12_restoreState_27 : decode cX12_restoreState 27 = .ok (.iconst 0, 1) := by decide +kernel
theorem dX12_restoreState_28 : decode cX12_restoreState 28 = .ok (.putfield 102, 3) := by decide +kernel
theorem dX12_restoreState_31 : decode cX12_restoreState 31 = .ok (.aload_n 0, 1) := by decide +kernel
theorem dX12_restoreState_32 : decode cX12_restoreState 32 = .ok (.getfield 35, 3) := by decide +kernel
theorem dX12_restoreState_35 : decode cX12_restoreState 35 = .ok (.getfield 124, 3) := by decide +kernel
theorem dX12_restoreState_38 : decode cX12_restoreState 38 = .ok (.ireturn, 1) := by decide +kernel
theorem hd_X12_restoreState : yX12_restoreState.cls = RX12 ∧ yX12_restoreState.cls ≠ "java/lang/invoke/MethodHandle" ∧ yX12_restoreState.cls ≠ "java/lang/invoke/VarHandle" ∧ (parseMethodDescriptor yX12_restoreState.desc).map (fun d => d.parameters.length) = some 0 := by decide +kernel
theorem hs_X12_restoreState : yX12_restoreState.cls ≠ "java/lang/invoke/MethodHandle" ∧ yX12_restoreState.cls ≠ "java/lang/invoke/VarHandle" ∧ (parseMethodDescriptor yX12_restoreState.desc).map (fun d => d.parameters.length) = some 0 := by decide +kernel
set_option maxHeartbeats 4000000 in
set_option maxRecDepth 100000 in
theorem k_X12_restoreState (l : Launch) (hls : l.stackTraces = false) (E : Ev) (K : Kd) (z : Nat) (o : Nat) (w : Wd) (ho : K o = some (10, 0)) {r : Int32 ⊕ Nat} {w' : Wd} (hf : f_X12_restoreState K o w = some (r, w')) : vx_Met l yX12_restoreState (Cond.code yX12_restoreState cX12_restoreState 1 (Option.some Jvm.ClassFile.FieldType.int) :: bt) ({ frames := 6, cells := 1, slots := 6, locals := 103 } : Room) (va_Pc [rv E (some o)] (HB E K w z)) (XI E K z w' r) (XX E K w' r) 1 6 (hA E) := by
  refine vx_ofW (cc := cX12_restoreState) (maxL := 1) (ret := (Option.some Jvm.ClassFile.FieldType.int)) (by decide) rfl ?_
  intro p e s m args below meth c s₁ B hml hout hv
  obtain ⟨rfl, hz, hP, hKs, hT, hb0⟩ := hv
  have C : CX p l e s m _ meth c cX12_restoreState 1 RX12 (Option.some Jvm.ClassFile.FieldType.int) E := ⟨B.exec, B.bytes, hml, findClass_of_methodNamed B.named, fun w h => atoms_spec (ws := Cond.code yX12_restoreState cX12_restoreState 1 (Option.some Jvm.ClassFile.FieldType.int) :: bt) B.pre w (List.mem_cons_of_mem _ h), hKs, hT, by rw [hz]; exact hb0, B.notSynchronized, B.returns⟩
  have hH : HQ E K z w s s.heap [] := ⟨hP, va_S.rf, hz⟩
  obtain ⟨hx, hb, hml, hown, hts, hKs, hT, hb0, hlocks, hret⟩ := id C
  have hl := lv_entry [rv E (some o)] (n := 1) (by simp [lg_len_nil, lg_len_i, lg_len_j, lg_len_q, lg_len_f, lg_len_d, lg_len_r])
  rw [lg_entry_eq]
  generalize (lg_sl [rv E (some o)] ++ List.replicate (1 - (lg_sl [rv E (some o)]).length) Slot.unset).toArray = ls at hl ⊢
  replace hl : lv_has ls 1 [(0, rv E (some o))] := by simpa only [lv_args, cat_q, cat_i, cat_j, reduceIte, Nat.reduceEqDiff, Nat.reduceAdd, Nat.zero_add] using hl
  generalize s.heap = H at hH ⊢
  unfold f_X12_restoreState at hf
  refine hl_aload_n hx hb dX12_restoreState_0 rfl (lv_at hl 0 rfl) ?_
  refine g12_7 hx hb hts hown hKs hH rfl ho m2_226 dX12_restoreState_1 ?_
  refine lv_if_ne (tgt := 15) hx hb dX12_restoreState_4 (by decide) (fun c1 => ?_) (fun c1 => ?_)
  · replace hf := (if_neg c1).symm.trans hf
    refine hl_aload_n hx hb dX12_restoreState_15 rfl (lv_at hl 0 rfl) ?_
    refine g12_5 hx hb hts hown hKs hH rfl ho m2_224 dX12_restoreState_16 ?_
    refine hl_aload_n hx hb dX12_restoreState_19 rfl (lv_at hl 0 rfl) ?_
    refine g12_6 hx hb hts hown hKs hH rfl ho m2_225 dX12_restoreState_20 ?_
    obtain ⟨a2, ha2, hf⟩ := bnd hf
    replace ha2 := chk_some ha2
    obtain ⟨q3, hq3, hf⟩ := bnd hf
    refine hcV_v hx hb hml hown hts hKs hT hb0 hH (As := [rv E (wR w 1206 o)]) (rest := []) (k_X10_copyFrom l E K H.size a2 (wR w 1206 o) w ha2.2 hq3) (gV m4_86 m4_87 m4_88 m1_12 m4_89) hd_X10_copyFrom ⟨Nat.le_of_ble_eq_true rfl, Nat.le_of_ble_eq_true rfl, rfl, rfl⟩ ha2.1 ha2.2 rfl rfl rfl hl.1 rfl rc0 rfl dX12_restoreState_23 ⟨Nat.le_of_ble_eq_true rfl, Nat.le_of_ble_eq_true rfl⟩ (fun H locs hH => ?_)
    refine hl_aload_n hx hb dX12_restoreState_26 rfl (lv_at hl 0 rfl) ?_
    refine lv_iconst (v := 0) hx hb dX12_restoreState_27 (by decide) ?_
    obtain ⟨w4, hw4, hf⟩ := bnd hf
    replace hw4 := Option.some.inj hw4
    refine p12_10 (v := 0) hx hb hts hown hKs hH rfl ho m2_229 dX12_restoreState_28 (fun H locs hH => ?_)
    rw [hw4] at hH
    refine hl_aload_n hx hb dX12_restoreState_31 rfl (lv_at hl 0 rfl) ?_
    refine g12_5 hx hb hts hown hKs hH rfl ho m2_224 dX12_restoreState_32 ?_
    obtain ⟨a5, ha5, hf⟩ := bnd hf
    replace ha5 := chk_some ha5
    refine gn10_1 hx hb hts hown hKs hH ha5.1 ha5.2 m2_125 dX12_restoreState_35 ?_
    exact hx_iret hx hb (Nat.le_of_ble_eq_true rfl) (Nat.le_of_ble_eq_true rfl) hret hf hH hlocks dX12_restoreState_38
  · replace hf := (if_pos c1).symm.trans hf
    exact hx_throw hx hb hls (code := 3) hml hl.1 hown hts hKs hT hb0 hH (by decide) rfl m5_194 m1_29 hat_RX12_333 dX12_restoreState_7 dX12_restoreState_10 dX12_restoreState_11 dX12_restoreState_14 hout (Nat.le_of_ble_eq_true rfl) rc0 (Nat.le_of_ble_eq_true rfl) (Nat.le_of_ble_eq_true rfl) (Nat.le_of_ble_eq_true rfl) hlocks hf (Nat.le_of_ble_eq_true rfl) (Nat.le_of_ble_eq_true rfl)

theorem dX12_requireExisting_0 : decode cX12_requireExisting 0 = .ok (.iload_n 2, 1) := by decide +kernel
theorem dX12_requireExisting_1 : decode cX12_requireExisting 1 = .ok (.ifCond .lt 18, 3) := by decide +kernel
theorem dX12_requireExisting_4 : decode cX12_requireExisting 4 = .ok (.iload_n 2, 1) := by decide +kernel
theorem dX12_requireExisting_5 : decode cX12_requireExisting 5 = .ok (.aload_n 0, 1) := by decide +kernel
theorem dX12_requireExisting_6 : decode cX12_requireExisting 6 = .ok (.getfield 35, 3) := by decide +kernel
theorem dX12_requireExisting_9 : decode cX12_requireExisting 9 = .ok (.getfield 87, 3) := by decide +kernel
theorem dX12_requireExisting_12 : decode cX12_requireExisting 12 = .ok (.iload_n 1, 1) := by decide +kernel
theorem dX12_requireExisting_13 : decode cX12_requireExisting 13 = .ok (.invokevirtual 105, 3) := by decide +kernel
theorem dX12_requireExisting_16 : decode cX12_requireExisting 16 = .ok (.if_icmp .lt 11, 3) := by decide +kernel
theorem dX12_requireExisting_19 : decode cX12_requireExisting 19 = .ok (.new 193, 3) := by decide +kernel
theorem dX12_requireExisting_22 : decode cX12_requireExisting 22 = .ok (.dup, 1) := by decide +kernel
theorem dX12_requireExisting_23 : decode cX12_requireExisting 23 = .ok (.invokespecial 195, 3) := by decide +kernel
theorem dX12_requireExisting_26 : decode cX12_requireExisting 26 = .ok (.athrow, 1) := by decide +kernel
theorem dX12_requireExisting_27 : decode cX12_requireExisting 27 = .ok (.return_, 1) := by decide +kernel
theorem hd_X12_requireExisting : yX12_requireExisting.cls = RX12 ∧ yX12_requireExisting.cls ≠ "java/lang/invoke/MethodHandle" ∧ yX12_requireExisting.cls ≠ "java/lang/invoke/VarHandle" ∧ (parseMethodDescriptor yX12_requireExisting.desc).map (fun d => d.parameters.length) = some 2 := by decide +kernel
theorem hs_X12_requireExisting : yX12_requireExisting.cls ≠ "java/lang/invoke/MethodHandle" ∧ yX12_requireExisting.cls ≠ "java/lang/invoke/VarHandle" ∧ (parseMethodDescriptor yX12_requireExisting.desc).map (fun d => d.parameters.length) = some 2 := by decide +kernel
set_option maxHeartbeats 4000000 in
set_option maxRecDepth 100000 in
theorem k_X12_requireExisting (l : Launch) (hls : l.stackTraces = false) (E : Ev) (K : Kd) (z : Nat) (o : Nat) (a_1 : Int32) (a_2 : Int32) (w : Wd) (ho : K o = some (10, 0)) {r : Unit ⊕ Nat} {w' : Wd} (hf : f_X12_requireExisting K o a_1 a_2 w = some (r, w')) : vx_Met l yX12_requireExisting (Cond.code yX12_requireExisting cX12_requireExisting 3 (Option.none : Option Jvm.ClassFile.FieldType) :: bt) ({ frames := 6, cells := 1, slots := 6, locals := 90 } : Room) (va_Pc [rv E (some o), .int a_1, .int a_2] (HB E K w z)) (XV E K z w' r) (XX E K w' r) 1 6 (hA E) := by
  refine vx_ofW (cc := cX12_requireExisting) (maxL := 3) (ret := (Option.none : Option Jvm.ClassFile.FieldType)) (by decide) rfl ?_
  intro p e s m args below meth c s₁ B hml hout hv
  obtain ⟨rfl, hz, hP, hKs, hT, hb0⟩ := hv
  have C : CX p l e s m _ meth c cX12_requireExisting 3 RX12 (Option.none : Option Jvm.ClassFile.FieldType) E := ⟨B.exec, B.bytes, hml, findClass_of_methodNamed B.named, fun w h => atoms_spec (ws := Cond.code yX12_requireExisting cX12_requireExisting 3 (Option.none : Option Jvm.ClassFile.FieldType) :: bt) B.pre w (List.mem_cons_of_mem _ h), hKs, hT, by rw [hz]; exact hb0, B.notSynchronized, B.returns⟩
  have hH : HQ E K z w s s.heap [] := ⟨hP, va_S.rf, hz⟩
  obtain ⟨hx, hb, hml, hown, hts, hKs, hT, hb0, hlocks, hret⟩ := id C
  have hl := lv_entry [rv E (some o), .int a_1, .int a_2] (n := 3) (by simp [lg_len_nil, lg_len_i, lg_len_j, lg_len_q, lg_len_f, lg_len_d, lg_len_r])
  rw [lg_entry_eq]
  generalize (lg_sl [rv E (some o), .int a_1, .int a_2] ++ List.replicate (3 - (lg_sl [rv E (some o), .int a_1, .int a_2]).length) Slot.unset).toArray = ls at hl ⊢
  replace hl : lv_has ls 3 [(0, rv E (some o)), (1, .int a_1), (2, .int a_2)] := by simpa only [lv_args, cat_q, cat_i, cat_j, reduceIte, Nat.reduceEqDiff, Nat.reduceAdd, Nat.zero_add] using hl
  generalize s.heap = H at hH ⊢
  unfold f_X12_requireExisting at hf
  refine lv_iload_n hx hb dX12_requireExisting_0 rfl (lv_at hl 2 rfl) ?_
  refine lv_if_lt (tgt := 19) hx hb dX12_requireExisting_1 (by decide) (fun c1 => ?_) (fun c1 => ?_)
  · replace hf := (if_pos c1).symm.trans hf
    exact hx_throw hx hb hls (code := 1) hml hl.1 hown hts hKs hT hb0 hH (by decide) rfl m5_94 m1_28 hat_RX12_195 dX12_requireExisting_19 dX12_requireExisting_22 dX12_requireExisting_23 dX12_requireExisting_26 hout (Nat.le_of_ble_eq_true rfl) rc0 (Nat.le_of_ble_eq_true rfl) (Nat.le_of_ble_eq_true rfl) (Nat.le_of_ble_eq_true rfl) hlocks hf (Nat.le_of_ble_eq_true rfl) (Nat.le_of_ble_eq_true rfl)
  · replace hf := (if_neg c1).symm.trans hf
    refine lv_iload_n hx hb dX12_requireExisting_4 rfl (lv_at hl 2 rfl) ?_
    refine hl_aload_n hx hb dX12_requireExisting_5 rfl (lv_at hl 0 rfl) ?_
    refine g12_5 hx hb hts hown hKs hH rfl ho m2_224 dX12_requireExisting_6 ?_
    obtain ⟨a2, ha2, hf⟩ := bnd hf
    replace ha2 := chk_some ha2
    refine gn10_0 hx hb hts hown hKs hH ha2.1 ha2.2 m2_122 dX12_requireExisting_9 ?_
    refine lv_iload_n hx hb dX12_requireExisting_12 rfl (lv_at hl 1 rfl) ?_
    obtain ⟨a3, ha3, hf⟩ := bnd hf
    replace ha3 := chk_some ha3
    obtain ⟨q4, hq4, hf⟩ := bnd hf
    refine hcV_i hx hb hml hown hts hKs hT hb0 hH (As := [.int a_1]) (rest := [.int a_2]) (k_X9_size l E K H.size a3 a_1 w ha3.2 hq4) (gV m3_229 m3_151 m3_152 m1_2 m3_153) hd_X9_size ⟨Nat.le_of_ble_eq_true rfl, Nat.le_of_ble_eq_true rfl, rfl, rfl⟩ ha3.1 ha3.2 rfl rfl rfl hl.1 rfl (rcI rc0) rfl dX12_requireExisting_13 ⟨Nat.le_of_ble_eq_true rfl, Nat.le_of_ble_eq_true rfl⟩ (fun H locs hH => ?_)
    refine lv_icmp_lt (tgt := 27) hx hb dX12_requireExisting_16 (by decide) (fun c5 => ?_) (fun c5 => ?_)
    · replace hf := (if_pos c5).symm.trans hf
      exact hx_vret hx hb (Nat.le_of_ble_eq_true rfl) (Nat.le_of_ble_eq_true rfl) hret hf hH hlocks dX12_requireExisting_27
    · replace hf := (if_neg c5).symm.trans hf
      exact hx_throw hx hb hls (code := 1) hml hl.1 hown hts hKs hT hb0 hH (by decide) rfl m5_94 m1_28 hat_RX12_195 dX12_requireExisting_19 dX12_requireExisting_22 dX12_requireExisting_23 dX12_requireExisting_26 hout (Nat.le_of_ble_eq_true rfl) rc0 (Nat.le_of_ble_eq_true rfl) (Nat.le_of_ble_eq_true rfl) (Nat.le_of_ble_eq_true rfl) hlocks hf (Nat.le_of_ble_eq_true rfl) (Nat.le_of_ble_eq_true rfl)

theorem dX12_requireHearing_0 : decode cX12_requireHearing 0 = .ok (.aload_n 0, 1) := by decide +kernel
theorem dX12_requireHearing_1 : decode cX12_requireHearing 1 = .ok (.iconst 3, 1) := by decide +kernel
theorem dX12_requireHearing_2 : decode cX12_requireHearing 2 = .ok (.iload_n 1, 1) := by decide +kernel
theorem dX12_requireHearing_3 : decode cX12_requireHearing 3 = .ok (.invokevirtual 175, 3) := by decide +kernel
theorem dX12_requireHearing_6 : decode cX12_requireHearing 6 = .ok (.aload_n 0, 1) := by decide +kernel
theorem dX12_requireHearing_7 : decode cX12_requireHearing 7 = .ok (.iconst 0, 1) := by decide +kernel
theorem dX12_requireHearing_8 : decode cX12_requireHearing 8 = .ok (.iload 4, 2) := by decide +kernel
theorem dX12_requireHearing_10 : decode cX12_requireHearing 10 = .ok (.invokevirtual 175, 3) := by decide +kernel
theorem dX12_requireHearing_13 : decode cX12_requireHearing 13 = .ok (.aload_n 0, 1) := by decide +kernel
theorem dX12_requireHearing_14 : decode cX12_requireHearing 14 = .ok (.iconst 1, 1) := by decide +kernel
theorem dX12_requireHearing_15 : decode cX12_requireHearing 15 = .ok (.iload 5, 2) := by decide +kernel
theorem dX12_requireHearing_17 : decode cX12_requireHearing 17 = .ok (.invokevirtual 175, 3) := by decide +kernel
theorem dX12_requireHearing_20 : decode cX12_requireHearing 20 = .ok (.aload_n 0, 1) := by decide +kernel
theorem dX12_requireHearing_21 : decode cX12_requireHearing 21 = .ok (.iload_n 2, 1) := by decide +kernel
theorem dX12_requireHearing_22 : decode cX12_requireHearing 22 = .ok (.invokevirtual 154, 3) := by decide +kernel
theorem dX12_requireHearing_25 : decode cX12_requireHearing 25 = .ok (.aload_n 0, 1) := by decide +kernel
theorem dX12_requireHearing_26 : decode cX12_requireHearing 26 = .ok (.iload_n 3, 1) := by decide +kernel
theorem dX12_requireHearing_27 : decode cX12_requireHearing 27 = .ok (.invokevirtual 269, 3) := by decide +kernel
theorem dX12_requireHearing_30 : decode cX12_requireHearing 30 = .ok (.return_, 1) := by decide +kernel
theorem hd_X12_requireHearing : yX12_requireHearing.cls = RX12 ∧ yX12_requireHearing.cls ≠ "java/lang/invoke/MethodHandle" ∧ yX12_requireHearing.cls ≠ "java/lang/invoke/VarHandle" ∧ (parseMethodDescriptor yX12_requireHearing.desc).map (fun d => d.parameters.length) = some 5 := by decide +kernel
theorem hs_X12_requireHearing : yX12_requireHearing.cls ≠ "java/lang/invoke/MethodHandle" ∧ yX12_requireHearing.cls ≠ "java/lang/invoke/VarHandle" ∧ (parseMethodDescriptor yX12_requireHearing.desc).map (fun d => d.parameters.length) = some 5 := by decide +kernel
set_option maxHeartbeats 4000000 in
set_option maxRecDepth 100000 in
theorem k_X12_requireHearing (l : Launch) (hls : l.stackTraces = false) (E : Ev) (K : Kd) (z : Nat) (o : Nat) (a_1 : Int32) (a_2 : Int32) (a_3 : Int32) (a_4 : Int32) (a_5 : Int32) (w : Wd) (ho : K o = some (10, 0)) {r : Unit ⊕ Nat} {w' : Wd} (hf : f_X12_requireHearing K o a_1 a_2 a_3 a_4 a_5 w = some (r, w')) : vx_Met l yX12_requireHearing (Cond.code yX12_requireHearing cX12_requireHearing 6 (Option.none : Option Jvm.ClassFile.FieldType) :: bt) ({ frames := 7, cells := 5, slots := 30, locals := 112 } : Room) (va_Pc [rv E (some o), .int a_1, .int a_2, .int a_3, .int a_4, .int a_5] (HB E K w z)) (XV E K z w' r) (XX E K w' r) 5 30 (hA E) := by
  refine vx_ofW (cc := cX12_requireHearing) (maxL := 6) (ret := (Option.none : Option Jvm.ClassFile.FieldType)) (by decide) rfl ?_
  intro p e s m args below meth c s₁ B hml hout hv
  obtain ⟨rfl, hz, hP, hKs, hT, hb0⟩ := hv
  have C : CX p l e s m _ meth c cX12_requireHearing 6 RX12 (Option.none : Option Jvm.ClassFile.FieldType) E := ⟨B.exec, B.bytes, hml, findClass_of_methodNamed B.named, fun w h => atoms_spec (ws := Cond.code yX12_requireHearing cX12_requireHearing 6 (Option.none : Option Jvm.ClassFile.FieldType) :: bt) B.pre w (List.mem_cons_of_mem _ h), hKs, hT, by rw [hz]; exact hb0, B.notSynchronized, B.returns⟩
  have hH : HQ E K z w s s.heap [] := ⟨hP, va_S.rf, hz⟩
  obtain ⟨hx, hb, hml, hown, hts, hKs, hT, hb0, hlocks, hret⟩ := id C
  have hl := lv_entry [rv E (some o), .int a_1, .int a_2, .int a_3, .int a_4, .int a_5] (n := 6) (by simp [lg_len_nil, lg_len_i, lg_len_j, lg_len_q, lg_len_f, lg_len_d, lg_len_r])
  rw [lg_entry_eq]
  generalize (lg_sl [rv E (some o), .int a_1, .int a_2, .int a_3, .int a_4, .int a_5] ++ List.replicate (6 - (lg_sl [rv E (some o), .int a_1, .int a_2, .int a_3, .int a_4, .int a_5]).length) Slot.unset).toArray = ls at hl ⊢
  replace hl : lv_has ls 6 [(0, rv E (some o)), (1, .int a_1), (2, .int a_2), (3, .int a_3), (4, .int a_4), (5, .int a_5)] := by simpa only [lv_args, cat_q, cat_i, cat_j, reduceIte, Nat.reduceEqDiff, Nat.reduceAdd, Nat.zero_add] using hl
  generalize s.heap = H at hH ⊢
  unfold f_X12_requireHearing at hf
  refine hl_aload_n hx hb dX12_requireHearing_0 rfl (lv_at hl 0 rfl) ?_
  refine lv_iconst (v := 3) hx hb dX12_requireHearing_1 (by decide) ?_
  refine lv_iload_n hx hb dX12_requireHearing_2 rfl (lv_at hl 1 rfl) ?_
  obtain ⟨q1, hq1, hf⟩ := bnd hf
  refine hxV_v hx hb hml hown hts hKs hT hb0 hH (As := [.int 3, .int a_1]) (rest := []) (k_X12_requireExisting l hls E K H.size o 3 a_1 w ho hq1) (gV m5_90 m5_92 ms_36 m1_1 m5_93) hd_X12_requireExisting ⟨Nat.le_of_ble_eq_true rfl, Nat.le_of_ble_eq_true rfl, rfl, rfl⟩ rfl ho rfl rfl rfl hl.1 rfl rc0 rfl dX12_requireHearing_3 ⟨Nat.le_of_ble_eq_true rfl, Nat.le_of_ble_eq_true rfl⟩ ⟨Nat.le_of_ble_eq_true rfl, Nat.le_of_ble_eq_true rfl⟩ hout hlocks (fun x hx9 => (fun h9 => ⟨(congrArg Prod.fst h9).symm, (congrArg Prod.snd h9).symm⟩) (Option.some.inj ((xk_inr hx9).symm.trans hf))) (fun v2 hv2 H locs hH => ?_)
  replace hf := (xk_inl hv2).symm.trans hf
  refine hl_aload_n hx hb dX12_requireHearing_6 rfl (lv_at hl 0 rfl) ?_
  refine lv_iconst (v := 0) hx hb dX12_requireHearing_7 (by decide) ?_
  refine lv_iload hx hb dX12_requireHearing_8 (lv_at hl 4 rfl) ?_
  obtain ⟨q3, hq3, hf⟩ := bnd hf
  refine hxV_v hx hb hml hown hts hKs hT hb0 hH (As := [.int 0, .int a_4]) (rest := []) (k_X12_requireExisting l hls E K H.size o 0 a_4 q1.2 ho hq3) (gV m5_90 m5_92 ms_36 m1_1 m5_93) hd_X12_requireExisting ⟨Nat.le_of_ble_eq_true rfl, Nat.le_of_ble_eq_true rfl, rfl, rfl⟩ rfl ho rfl rfl rfl hl.1 rfl rc0 rfl dX12_requireHearing_10 ⟨Nat.le_of_ble_eq_true rfl, Nat.le_of_ble_eq_true rfl⟩ ⟨Nat.le_of_ble_eq_true rfl, Nat.le_of_ble_eq_true rfl⟩ hout hlocks (fun x hx9 => (fun h9 => ⟨(congrArg Prod.fst h9).symm, (congrArg Prod.snd h9).symm⟩) (Option.some.inj ((xk_inr hx9).symm.trans hf))) (fun v4 hv4 H locs hH => ?_)
  replace hf := (xk_inl hv4).symm.trans hf
  refine hl_aload_n hx hb dX12_requireHearing_13 rfl (lv_at hl 0 rfl) ?_
  refine lv_iconst (v := 1) hx hb dX12_requireHearing_14 (by decide) ?_
  refine lv_iload hx hb dX12_requireHearing_15 (lv_at hl 5 rfl) ?_
  obtain ⟨q5, hq5, hf⟩ := bnd hf
  refine hxV_v hx hb hml hown hts hKs hT hb0 hH (As := [.int 1, .int a_5]) (rest := []) (k_X12_requireExisting l hls E K H.size o 1 a_5 q3.2 ho hq5) (gV m5_90 m5_92 ms_36 m1_1 m5_93) hd_X12_requireExisting ⟨Nat.le_of_ble_eq_true rfl, Nat.le_of_ble_eq_true rfl, rfl, rfl⟩ rfl ho rfl rfl rfl hl.1 rfl rc0 rfl dX12_requireHearing_17 ⟨Nat.le_of_ble_eq_true rfl, Nat.le_of_ble_eq_true rfl⟩ ⟨Nat.le_of_ble_eq_true rfl, Nat.le_of_ble_eq_true rfl⟩ hout hlocks (fun x hx9 => (fun h9 => ⟨(congrArg Prod.fst h9).symm, (congrArg Prod.snd h9).symm⟩) (Option.some.inj ((xk_inr hx9).symm.trans hf))) (fun v6 hv6 H locs hH => ?_)
  replace hf := (xk_inl hv6).symm.trans hf
  refine hl_aload_n hx hb dX12_requireHearing_20 rfl (lv_at hl 0 rfl) ?_
  refine lv_iload_n hx hb dX12_requireHearing_21 rfl (lv_at hl 2 rfl) ?_
  obtain ⟨q7, hq7, hf⟩ := bnd hf
  refine hxV_v hx hb hml hown hts hKs hT hb0 hH (As := [.int a_2]) (rest := []) (k_X12_requireDay l hls E K H.size o a_2 q5.2 ho hq7) (gV m5_54 m5_56 ms_33 m1_1 m5_57) hd_X12_requireDay ⟨Nat.le_of_ble_eq_true rfl, Nat.le_of_ble_eq_true rfl, rfl, rfl⟩ rfl ho rfl rfl rfl hl.1 rfl rc0 rfl dX12_requireHearing_22 ⟨Nat.le_of_ble_eq_true rfl, Nat.le_of_ble_eq_true rfl⟩ ⟨Nat.le_of_ble_eq_true rfl, Nat.le_of_ble_eq_true rfl⟩ hout hlocks (fun x hx9 => (fun h9 => ⟨(congrArg Prod.fst h9).symm, (congrArg Prod.snd h9).symm⟩) (Option.some.inj ((xk_inr hx9).symm.trans hf))) (fun v8 hv8 H locs hH => ?_)
  replace hf := (xk_inl hv8).symm.trans hf
  refine hl_aload_n hx hb dX12_requireHearing_25 rfl (lv_at hl 0 rfl) ?_
  refine lv_iload_n hx hb dX12_requireHearing_26 rfl (lv_at hl 3 rfl) ?_
  obtain ⟨q9, hq9, hf⟩ := bnd hf
  refine hxV_v hx hb hml hown hts hKs hT hb0 hH (As := [.int a_3]) (rest := []) (k_X12_requireSlot l hls E K H.size o a_3 q7.2 ho hq9) (gV m5_168 m5_170 ms_37 m1_1 m5_171) hd_X12_requireSlot ⟨Nat.le_of_ble_eq_true rfl, Nat.le_of_ble_eq_true rfl, rfl, rfl⟩ rfl ho rfl rfl rfl hl.1 rfl rc0 rfl dX12_requireHearing_27 ⟨Nat.le_of_ble_eq_true rfl, Nat.le_of_ble_eq_true rfl⟩ ⟨Nat.le_of_ble_eq_true rfl, Nat.le_of_ble_eq_true rfl⟩ hout hlocks (fun x hx9 => (fun h9 => ⟨(congrArg Prod.fst h9).symm, (congrArg Prod.snd h9).symm⟩) (Option.some.inj ((xk_inr hx9).symm.trans hf))) (fun v10 hv10 H locs hH => ?_)
  replace hf := (xk_inl hv10).symm.trans hf
  exact hx_vret hx hb (Nat.le_of_ble_eq_true rfl) (Nat.le_of_ble_eq_true rfl) hret hf hH hlocks dX12_requireHearing_30

theorem dX13_takesDraft_0 : decode cX13_takesDraft 0 = .ok (.iconst 0, 1) := by decide +kernel
theorem dX13_takesDraft_1 : decode cX13_takesDraft 1 = .ok (.istore_n 1, 1) := by decide +kernel
theorem dX13_takesDraft_2 : decode cX13_takesDraft 2 = .ok (.iload_n 1, 1) := by decide +kernel
theorem dX13_takesDraft_3 : decode cX13_takesDraft 3 = .ok (.sipush 170, 3) := by decide +kernel
theorem dX13_takesDraft_6 : decode cX13_takesDraft 6 = .ok (.if_icmp .ge 21, 3) := by decide +kernel
theorem dX13_takesDraft_9 : decode cX13_takesDraft 9 = .ok (.aload_n 0, 1) := by decide +kernel
theorem dX13_takesDraft_10 : decode cX13_takesDraft 10 = .ok (.getfield 7, 3) := by decide +kernel
theorem dX13_takesDraft_13 : decode cX13_takesDraft 13 = .ok (.iload_n 1, 1) := by decide +kernel
theorem dX13_takesDraft_14 : decode cX13_takesDraft 14 = .ok (.aload_n 0, 1) := by decide +kernel
theorem dX13_takesDraft_15 : decode cX13_takesDraft 15 = .ok (.getfield 13, 3) := by decide +kernel
theorem dX13_takesDraft_18 : decode cX13_takesDraft 18 = .ok (.iload_n 1, 1) := by decide +kernel
theorem dX13_takesDraft_19 : decode cX13_takesDraft 19 = .ok (.iaload, 1) := by decide +kernel
theorem dX13_takesDraft_20 : decode cX13_takesDraft 20 = .ok (.iastore, 1) := by decide +kernel
theorem dX13_takesDraft_21 : decode cX13_takesDraft 21 = .ok (.iinc 1 1, 3) := by decide +kernel
theorem dX13_takesDraft_24 : decode cX13_takesDraft 24 = .ok (.goto (-22), 3) := by decide +kernel
theorem dX13_takesDraft_27 : decode cX13_takesDraft 27 = .ok (.aload_n 0, 1) := by decide +kernel
theorem dX13_takesDraft_28 : decode cX13_takesDraft 28 = .ok (.getfield 68, 3) := by decide +kernel
theorem dX13_takesDraft_31 : decode cX13_takesDraft 31 = .ok (.aload_n 0, 1) := by decide +kernel
theorem dX13_takesDraft_32 : decode cX13_takesDraft 32 = .ok (.getfield 34, 3) := by decide +kernel
theorem dX13_takesDraft_35 : decode cX13_takesDraft 35 = .ok (.invokestatic 89, 3) := by decide +kernel
theorem dX13_takesDraft_38 : decode cX13_takesDraft 38 = .ok (.aload_n 0, 1) := by decide +kernel
theorem dX13_takesDraft_39 : decode cX13_takesDraft 39 = .ok (.getfield 71, 3) := by decide +kernel
theorem dX13_takesDraft_42 : decode cX13_takesDraft 42 = .ok (.aload_n 0, 1) := by decide +kernel
theorem dX13_takesDraft_43 : decode cX13_takesDraft 43 = .ok (.getfield 38, 3) := by decide +kernel
theorem dX13_takesDraft_46 : decode cX13_takesDraft 46 = .ok (.invokestatic 89, 3) := by decide +kernel
theorem dX13_takesDraft_49 : decode cX13_takesDraft 49 = .ok (.aload_n 0, 1) := by decide +kernel
theorem dX13_takesDraft_50 : decode cX13_takesDraft 50 = .ok (.getfield 74, 3) := by decide +kernel
theorem dX13_takesDraft_53 : decode cX13_takesDraft 53 = .ok (.aload_n 0, 1) := by decide +kernel
theorem dX13_takesDraft_54 : decode cX13_takesDraft 54 = .ok (.getfield 41, 3) := by decide +kernel
theorem dX13_takesDraft_57 : decode cX13_takesDraft 57 = .ok (.invokestatic 89, 3) := by decide +kernel
theorem dX13_takesDraft_60 : decode cX13_takesDraft 60 = .ok (.aload_n 0, 1) := by decide +kernel
theorem dX13_takesDraft_61 : decode cX13_takesDraft 61 = .ok (.getfield 77, 3) := by decide +kernel
theorem dX13_takesDraft_64 : decode cX13_takesDraft 64 = .ok (.aload_n 0, 1) := by decide +kernel
theorem dX13_takesDraft_65 : decode cX13_takesDraft 65 = .ok (.getfield 44, 3) := by decide +kernel
theorem dX13_takesDraft_68 : decode cX13_takesDraft 68 = .ok (.invokestatic 89, 3) := by decide +kernel
theorem dX13_takesDraft_71 : decode cX13_takesDraft 71 = .ok (.aload_n 0, 1) := by decide +kernel
theorem dX13_takesDraft_72 : decode cX13_takesDraft 72 = .ok (.getfield 19, 3) := by decide +kernel
theorem dX13_takesDraft_75 : decode cX13_takesDraft 75 = .ok (.aload_n 0, 1) := by decide +kernel
theorem dX13_takesDraft_76 : decode cX13_takesDraft 76 = .ok (.getfield 16, 3) := by decide +kernel
theorem dX13_takesDraft_79 : decode cX13_takesDraft 79 = .ok (.invokestatic 93, 3) := by decide +kernel
theorem dX13_takesDraft_82 : decode cX13_takesDraft 82 = .ok (.aload_n 0, 1) := by decide +kernel
theorem dX13_takesDraft_83 : decode cX13_takesDraft 83 = .ok (.iconst 0, 1) := by decide +kernel
theorem dX13_takesDraft_84 : decode cX13_takesDraft 84 = .ok (.putfield 97, 3) := by decide +kernel
theorem dX13_takesDraft_87 : decode cX13_takesDraft 87 = .ok (.aload_n 0, 1) := by decide +kernel
theorem dX13_takesDraft_88 : decode cX13_takesDraft 88 = .ok (.iconst 0, 1) := by decide +kernel
theorem dX13_takesDraft_89 : decode cX13_takesDraft 89 = .ok (.putfield 100, 3) := by decide +kernel
theorem dX13_takesDraft_92 : decode cX13_takesDraft 92 = .ok (.return_, 1) := by decide +kernel
theorem hd_X13_takesDraft : yX13_takesDraft.cls = RX13 ∧ yX13_takesDraft.cls ≠ "java/lang/invoke/MethodHandle" ∧ yX13_takesDraft.cls ≠ "java/lang/invoke/VarHandle" ∧ (parseMethodDescriptor yX13_takesDraft.desc).map (fun d => d.parameters.length) = some 0 := by decide +kernel
theorem hs_X13_takesDraft : yX13_takesDraft.cls ≠ "java/lang/invoke/MethodHandle" ∧ yX13_takesDraft.cls ≠ "java/lang/invoke/VarHandle" ∧ (parseMethodDescriptor yX13_takesDraft.desc).map (fun d => d.parameters.length) = some 0 := by decide +kernel
set_option maxHeartbeats 4000000 in
set_option maxRecDepth 100000 in
theorem l_X13_takesDraft_L2 (C : CX p l e s m args meth c cX13_takesDraft 2 RX13 (Option.none : Option Jvm.ClassFile.FieldType) E) {o : Nat} (ho : K o = some (11, 0)) {w' : Wd} (k : Int32 → Wd → Option Wd) (hk : ∀ (v1_2 : Int32) (w : Wd) (H : Heap) (locs : List Loc) (ls : Array Slot), HQ E K z w s H locs → lv_has ls 2 [(1, .int v1_2), (0, rv E (some o))] → k v1_2 w = some w' → W p l e ({ frames := 1, cells := 0, slots := 0, locals := 22 } : Room) s m args below meth c H locs 0 0 (MQ below (QV E K z w') args s 0 0 (hA E)) (F0 m 27 ls [])) : ∀ (n : Nat) (v1_2 : Int32) (w : Wd) (H : Heap) (locs : List Loc) (ls : Array Slot), HQ E K z w s H locs → lv_has ls 2 [(1, .int v1_2), (0, rv E (some o))] → f_X13_takesDraft_L2 K o k n v1_2 w = some w' → W p l e ({ frames := 1, cells := 0, slots := 0, locals := 22 } : Room) s m args below meth c H locs 0 0 (MQ below (QV E K z w') args s 0 0 (hA E)) (F0 m 2 ls []) := by
  obtain ⟨hx, hb, hml, hown, hts, hKs, hT, hb0, hlocks, hret⟩ := id C
  intro n
  induction n with
  | zero =>
    intro v1_2 w H locs ls hH hl hf
    cases hf
  | succ n ih =>
    intro v1_2 w H locs ls hH hl hf
    rw [f_X13_takesDraft_L2] at hf
    refine lv_iload_n hx hb dX13_takesDraft_2 rfl (lv_at hl 0 rfl) ?_
    refine lv_sipush (v := 170) hx hb dX13_takesDraft_3 (by decide) ?_
    refine lv_icmp_ge (tgt := 27) hx hb dX13_takesDraft_6 (by decide) (fun c2 => ?_) (fun c2 => ?_)
    · replace hf := (if_pos c2).symm.trans hf
      exact hk v1_2 _ _ _ _ hH (lv_sub hl [0, 1] rfl) hf
    · replace hf := (if_neg c2).symm.trans hf
      refine hl_aload_n hx hb dX13_takesDraft_9 rfl (lv_at hl 1 rfl) ?_
      refine g13_1 hx hb hts hown hKs hH rfl ho m6_182 dX13_takesDraft_10 ?_
      refine lv_iload_n hx hb dX13_takesDraft_13 rfl (lv_at hl 0 rfl) ?_
      refine hl_aload_n hx hb dX13_takesDraft_14 rfl (lv_at hl 1 rfl) ?_
      refine g13_2 hx hb hts hown hKs hH rfl ho m6_183 dX13_takesDraft_15 ?_
      refine lv_iload_n hx hb dX13_takesDraft_18 rfl (lv_at hl 0 rfl) ?_
      obtain ⟨a3, ha3, hf⟩ := bnd hf
      replace ha3 := cha_some ha3
      obtain ⟨j4, hj4, hf⟩ := bnd hf
      refine hw_iald hx hb hKs hH ha3.1 ha3.2 hj4 dX13_takesDraft_19 ?_
      obtain ⟨a5, ha5, hf⟩ := bnd hf
      replace ha5 := cha_some ha5
      obtain ⟨j6, hj6, hf⟩ := bnd hf
      obtain ⟨w7, hw7, hf⟩ := bnd hf
      replace hw7 := Option.some.inj hw7
      refine hw_iast (x := (aI w a3.1 j4)) hx hb hKs hH ha5.1 ha5.2 hj6 dX13_takesDraft_20 (fun H locs hH => ?_)
      rw [hw7] at hH
      refine lv_iinc (v := (v1_2 + 1)) (lv' := [(1, .int ((v1_2 + 1))), (0, rv E (some o))]) hx hb dX13_takesDraft_21 hl (k := 0) rfl rfl (by decide) rfl (fun ls hl => ?_)
      refine lv_goto (tgt := 2) hx hb dX13_takesDraft_24 (by decide) ?_
      exact ih (v1_2 + 1) _ _ _ _ hH (lv_sub hl [0, 1] rfl) hf
set_option maxHeartbeats 4000000 in
set_option maxRecDepth 100000 in
theorem k_X13_takesDraft (l : Launch) (E : Ev) (K : Kd) (z : Nat) (o : Nat) (w : Wd) (ho : K o = some (11, 0)) {w' : Wd} (hf : f_X13_takesDraft K o w = some w') : Met l yX13_takesDraft (Cond.code yX13_takesDraft cX13_takesDraft 2 (Option.none : Option Jvm.ClassFile.FieldType) :: bt) ({ frames := 1, cells := 0, slots := 0, locals := 22 } : Room) (va_Pc [rv E (some o)] (HB E K w z)) (QV E K z w') 0 0 (hA E) := by
  refine Met.ofW (cc := cX13_takesDraft) (maxL := 2) (ret := (Option.none : Option Jvm.ClassFile.FieldType)) (by decide) rfl ?_
  intro p e s m args below meth c s₁ B hml hv
  obtain ⟨rfl, hz, hP, hKs, hT, hb0⟩ := hv
  have C : CX p l e s m _ meth c cX13_takesDraft 2 RX13 (Option.none : Option Jvm.ClassFile.FieldType) E := ⟨B.exec, B.bytes, hml, findClass_of_methodNamed B.named, fun w h => atoms_spec (ws := Cond.code yX13_takesDraft cX13_takesDraft 2 (Option.none : Option Jvm.ClassFile.FieldType) :: bt) B.pre w (List.mem_cons_of_mem _ h), hKs, hT, by rw [hz]; exact hb0, B.notSynchronized, B.returns⟩
  have hH : HQ E K z w s s.heap [] := ⟨hP, va_S.rf, hz⟩
  obtain ⟨hx, hb, hml, hown, hts, hKs, hT, hb0, hlocks, hret⟩ := id C
  have hl := lv_entry [rv E (some o)] (n := 2) (by simp [lg_len_nil, lg_len_i, lg_len_j, lg_len_q, lg_len_f, lg_len_d, lg_len_r])
  rw [lg_entry_eq]
  generalize (lg_sl [rv E (some o)] ++ List.replicate (2 - (lg_sl [rv E (some o)]).length) Slot.unset).toArray = ls at hl ⊢
  replace hl : lv_has ls 2 [(0, rv E (some o))] := by simpa only [lv_args, cat_q, cat_i, cat_j, reduceIte, Nat.reduceEqDiff, Nat.reduceAdd, Nat.zero_add] using hl
  generalize s.heap = H at hH ⊢
  unfold f_X13_takesDraft at hf
  refine lv_iconst (v := 0) hx hb dX13_takesDraft_0 (by decide) ?_
  refine lv_istore_n (i := 1) (lv' := [(1, .int 0), (0, rv E (some o))]) hx hb dX13_takesDraft_1 rfl hl (by decide) rfl (fun ls hl => ?_)
  refine l_X13_takesDraft_L2  C ho _ (fun v1_2 w1 H locs ls hH hl hf => ?_) fu 0 w _ _ _ hH (lv_sub hl [0, 1] rfl) hf
  refine hl_aload_n hx hb dX13_takesDraft_27 rfl (lv_at hl 1 rfl) ?_
  refine g13_33 hx hb hts hown hKs hH rfl ho m6_214 dX13_takesDraft_28 ?_
  refine hl_aload_n hx hb dX13_takesDraft_31 rfl (lv_at hl 1 rfl) ?_
  refine g13_11 hx hb hts hown hKs hH rfl ho m6_192 dX13_takesDraft_32 ?_
  obtain ⟨q8, hq8, hf⟩ := bnd hf
  refine hcS_v hx hb hml hown hts hKs hT hb0 hH (As := [rv E (wR w1 1333 o), rv E (wR w1 1311 o)]) (rest := []) (k_X13_moves l E K H.size (wR w1 1333 o) (wR w1 1311 o) w1 hq8) (gS m6_175 m6_176 m1_16 m6_177) hs_X13_moves ⟨Nat.le_of_ble_eq_true rfl, Nat.le_of_ble_eq_true rfl, rfl, rfl⟩ hl.1 rfl rc0 rfl dX13_takesDraft_35 ⟨Nat.zero_le _, Nat.zero_le _⟩ (fun H locs hH => ?_)
  refine hl_aload_n hx hb dX13_takesDraft_38 rfl (lv_at hl 1 rfl) ?_
  refine g13_34 hx hb hts hown hKs hH rfl ho m6_215 dX13_takesDraft_39 ?_
  refine hl_aload_n hx hb dX13_takesDraft_42 rfl (lv_at hl 1 rfl) ?_
  refine g13_12 hx hb hts hown hKs hH rfl ho m6_193 dX13_takesDraft_43 ?_
  obtain ⟨q9, hq9, hf⟩ := bnd hf
  refine hcS_v hx hb hml hown hts hKs hT hb0 hH (As := [rv E (wR q8 1334 o), rv E (wR q8 1312 o)]) (rest := []) (k_X13_moves l E K H.size (wR q8 1334 o) (wR q8 1312 o) q8 hq9) (gS m6_175 m6_176 m1_16 m6_177) hs_X13_moves ⟨Nat.le_of_ble_eq_true rfl, Nat.le_of_ble_eq_true rfl, rfl, rfl⟩ hl.1 rfl rc0 rfl dX13_takesDraft_46 ⟨Nat.zero_le _, Nat.zero_le _⟩ (fun H locs hH => ?_)
  refine hl_aload_n hx hb dX13_takesDraft_49 rfl (lv_at hl 1 rfl) ?_
  refine g13_35 hx hb hts hown hKs hH rfl ho m6_216 dX13_takesDraft_50 ?_
  refine hl_aload_n hx hb dX13_takesDraft_53 rfl (lv_at hl 1 rfl) ?_
  refine g13_13 hx hb hts hown hKs hH rfl ho m6_194 dX13_takesDraft_54 ?_
  obtain ⟨q10, hq10, hf⟩ := bnd hf
  refine hcS_v hx hb hml hown hts hKs hT hb0 hH (As := [rv E (wR q9 1335 o), rv E (wR q9 1313 o)]) (rest := []) (k_X13_moves l E K H.size (wR q9 1335 o) (wR q9 1313 o) q9 hq10) (gS m6_175 m6_176 m1_16 m6_177) hs_X13_moves ⟨Nat.le_of_ble_eq_true rfl, Nat.le_of_ble_eq_true rfl, rfl, rfl⟩ hl.1 rfl rc0 rfl dX13_takesDraft_57 ⟨Nat.zero_le _, Nat.zero_le _⟩ (fun H locs hH => ?_)
  refine hl_aload_n hx hb dX13_takesDraft_60 rfl (lv_at hl 1 rfl) ?_
  refine g13_36 hx hb hts hown hKs hH rfl ho m6_217 dX13_takesDraft_61 ?_
  refine hl_aload_n hx hb dX13_takesDraft_64 rfl (lv_at hl 1 rfl) ?_
  refine g13_14 hx hb hts hown hKs hH rfl ho m6_195 dX13_takesDraft_65 ?_
  obtain ⟨q11, hq11, hf⟩ := bnd hf
  refine hcS_v hx hb hml hown hts hKs hT hb0 hH (As := [rv E (wR q10 1336 o), rv E (wR q10 1314 o)]) (rest := []) (k_X13_moves l E K H.size (wR q10 1336 o) (wR q10 1314 o) q10 hq11) (gS m6_175 m6_176 m1_16 m6_177) hs_X13_moves ⟨Nat.le_of_ble_eq_true rfl, Nat.le_of_ble_eq_true rfl, rfl, rfl⟩ hl.1 rfl rc0 rfl dX13_takesDraft_68 ⟨Nat.zero_le _, Nat.zero_le _⟩ (fun H locs hH => ?_)
  refine hl_aload_n hx hb dX13_takesDraft_71 rfl (lv_at hl 1 rfl) ?_
  refine g13_4 hx hb hts hown hKs hH rfl ho m6_185 dX13_takesDraft_72 ?_
  refine hl_aload_n hx hb dX13_takesDraft_75 rfl (lv_at hl 1 rfl) ?_
  refine g13_3 hx hb hts hown hKs hH rfl ho m6_184 dX13_takesDraft_76 ?_
  obtain ⟨q12, hq12, hf⟩ := bnd hf
  refine hcS_v hx hb hml hown hts hKs hT hb0 hH (As := [rv E (wR q11 1304 o), rv E (wR q11 1303 o)]) (rest := []) (k_X13_copies l E K H.size (wR q11 1304 o) (wR q11 1303 o) q11 hq12) (gS m6_178 m6_179 m1_16 m6_180) hs_X13_copies ⟨Nat.le_of_ble_eq_true rfl, Nat.le_of_ble_eq_true rfl, rfl, rfl⟩ hl.1 rfl rc0 rfl dX13_takesDraft_79 ⟨Nat.zero_le _, Nat.zero_le _⟩ (fun H locs hH => ?_)
  refine hl_aload_n hx hb dX13_takesDraft_82 rfl (lv_at hl 1 rfl) ?_
  refine lv_iconst (v := 0) hx hb dX13_takesDraft_83 (by decide) ?_
  obtain ⟨w13, hw13, hf⟩ := bnd hf
  replace hw13 := Option.some.inj hw13
  refine p13_9 (v := 0) hx hb hts hown hKs hH rfl ho m6_190 dX13_takesDraft_84 (fun H locs hH => ?_)
  rw [hw13] at hH
  refine hl_aload_n hx hb dX13_takesDraft_87 rfl (lv_at hl 1 rfl) ?_
  refine lv_iconst (v := 0) hx hb dX13_takesDraft_88 (by decide) ?_
  obtain ⟨w14, hw14, hf⟩ := bnd hf
  replace hw14 := Option.some.inj hw14
  refine p13_10 (v := false) hx hb hts hown hKs hH rfl ho m6_191 dX13_takesDraft_89 (fun H locs hH => ?_)
  rw [hw14] at hH
  exact hw_vret hx hb hret hf hH hlocks dX13_takesDraft_92

theorem dX13_witness_0 : decode cX13_witness 0 = .ok (.aload_n 0, 1) := by decide +kernel
theorem dX13_witness_1 : decode cX13_witness 1 = .ok (.aload_n 0, 1) := by decide +kernel
theorem dX13_witness_2 : decode cX13_witness 2 = .ok (.iload_n 1, 1) := by decide +kernel
theorem dX13_witness_3 : decode cX13_witness 3 = .ok (.invokevirtual 286, 3) := by decide +kernel
theorem dX13_witness_6 : decode cX13_witness 6 = .ok (.ifCond .eq 19, 3) := by decide +kernel
theorem dX13_witness_9 : decode cX13_witness 9 = .ok (.iload_n 2, 1) := by decide +kernel
theorem dX13_witness_10 : decode cX13_witness 10 = .ok (.i2l, 1) := by decide +kernel
theorem dX13_witness_11 : decode cX13_witness 11 = .ok (.lconst 0, 1) := by decide +kernel
theorem dX13_witness_12 : decode cX13_witness 12 = .ok (.ldc2_w 309, 3) := by decide +kernel
theorem dX13_witness_15 : decode cX13_witness 15 = .ok (.invokestatic 123, 3) := by decide +kernel
theorem dX13_witness_18 : decode cX13_witness 18 = .ok (.ifCond .eq 7, 3) := by decide +kernel
theorem dX13_witness_21 : decode cX13_witness 21 = .ok (.iconst 1, 1) := by decide +kernel
theorem dX13_witness_22 : decode cX13_witness 22 = .ok (.goto 4, 3) := by decide +kernel
theorem dX13_witness_25 : decode cX13_witness 25 = .ok (.iconst 0, 1) := by decide +kernel
theorem dX13_witness_26 : decode cX13_witness 26 = .ok (.invokevirtual 110, 3) := by decide +kernel
theorem dX13_witness_29 : decode cX13_witness 29 = .ok (.ifCond .ne 5, 3) := by decide +kernel
theorem dX13_witness_32 : decode cX13_witness 32 = .ok (.iconst 0, 1) := by decide +kernel
theorem dX13_witness_33 : decode cX13_witness 33 = .ok (.ireturn, 1) := by decide +kernel
theorem dX13_witness_34 : decode cX13_witness 34 = .ok (.iload_n 2, 1) := by decide +kernel
theorem dX13_witness_35 : decode cX13_witness 35 = .ok (.tableswitch 69 0 3 #[29, 39, 49, 59], 29) := by decide +kernel
theorem dX13_witness_64 : decode cX13_witness 64 = .ok (.aload_n 0, 1) := by decide +kernel
theorem dX13_witness_65 : decode cX13_witness 65 = .ok (.getfield 7, 3) := by decide +kernel
theorem dX13_witness_68 : decode cX13_witness 68 = .ok (.bipush 52, 2) := by decide +kernel
theorem dX13_witness_70 : decode cX13_witness 70 = .ok (.iload_n 1, 1) := by decide +kernel
theorem dX13_witness_71 : decode cX13_witness 71 = .ok (.iadd, 1) := by decide +kernel
theorem dX13_witness_72 : decode cX13_witness 72 = .ok (.iaload, 1) := by decide +kernel
theorem dX13_witness_73 : decode cX13_witness 73 = .ok (.ireturn, 1) := by decide +kernel
theorem dX13_witness_74 : decode cX13_witness 74 = .ok (.aload_n 0, 1) := by decide +kernel
theorem dX13_witness_75 : decode cX13_witness 75 = .ok (.getfield 16, 3) := by decide +kernel
theorem dX13_witness_78 : decode cX13_witness 78 = .ok (.bipush 22, 2) := by decide +kernel
theorem dX13_witness_80 : decode cX13_witness 80 = .ok (.iload_n 1, 1) := by decide +kernel
theorem dX13_witness_81 : decode cX13_witness 81 = .ok (.iadd, 1) := by decide +kernel
theorem dX13_witness_82 : decode cX13_witness 82 = .ok (.iaload, 1) := by decide +kernel
theorem dX13_witness_83 : decode cX13_witness 83 = .ok (.ireturn, 1) := by decide +kernel
theorem dX13_witness_84 : decode cX13_witness 84 = .ok (.aload_n 0, 1) := by decide +kernel
theorem dX13_witness_85 : decode cX13_witness 85 = .ok (.getfield 7, 3) := by decide +kernel
theorem dX13_witness_88 : decode cX13_witness 88 = .ok (.bipush 64, 2) := by decide +kernel
theorem dX13_witness_90 : decode cX13_witness 90 = .ok (.iload_n 1, 1) := by decide +kernel
theorem dX13_witness_91 : decode cX13_witness 91 = .ok (.iadd, 1) := by decide +kernel
theorem dX13_witness_92 : decode cX13_witness 92 = .ok (.iaload, 1) := by decide +kernel
theorem dX13_witness_93 : decode cX13_witness 93 = .ok (.ireturn, 1) := by decide +kernel
theorem dX13_witness_94 : decode cX13_witness 94 = .ok (.aload_n 0, 1) := by decide +kernel
theorem dX13_witness_95 : decode cX13_witness 95 = .ok (.getfield 7, 3) := by decide +kernel
theorem dX13_witness_98 : decode cX13_witness 98 = .ok (.bipush 76, 2) := by decide +kernel
theorem dX13_witness_100 : decode cX13_witness 100 = .ok (.iload_n 1, 1) := by decide +kernel
theorem dX13_witness_101 : decode cX13_witness 101 = .ok (.iadd, 1) := by decide +kernel
theorem dX13_witness_102 : decode cX13_witness 102 = .ok (.iaload, 1) := by decide +kernel
theorem dX13_witness_103 : decode cX13_witness 103 = .ok (.ireturn, 1) := by decide +kernel
theorem dX13_witness_104 : decode cX13_witness 104 = .ok (.aload_n 0, 1) := by decide +kernel
theorem dX13_witness_105 : decode cX13_witness 105 = .ok (.iload_n 1, 1) := by decide +kernel
theorem dX13_witness_106 : decode cX13_witness 106 = .ok (.invokevirtual 311, 3) := by decide +kernel
theorem dX13_witness_109 : decode cX13_witness 109 = .ok (.ireturn, 1) := by decide +kernel
theorem hd_X13_witness : yX13_witness.cls = RX13 ∧ yX13_witness.cls ≠ "java/lang/invoke/MethodHandle" ∧ yX13_witness.cls ≠ "java/lang/invoke/VarHandle" ∧ (parseMethodDescriptor yX13_witness.desc).map (fun d => d.parameters.length) = some 2 := by decide +kernel
theorem hs_X13_witness : yX13_witness.cls ≠ "java/lang/invoke/MethodHandle" ∧ yX13_witness.cls ≠ "java/lang/invoke/VarHandle" ∧ (parseMethodDescriptor yX13_witness.desc).map (fun d => d.parameters.length) = some 2 := by decide +kernel
set_option maxHeartbeats 4000000 in
set_option maxRecDepth 100000 in
theorem k_X13_witness (l : Launch) (E : Ev) (K : Kd) (z : Nat) (o : Nat) (a_1 : Int32) (a_2 : Int32) (w : Wd) (ho : K o = some (11, 0)) {r : Int32} {w' : Wd} (hf : f_X13_witness K o a_1 a_2 w = some (r, w')) : Met l yX13_witness (Cond.code yX13_witness cX13_witness 3 (Option.some Jvm.ClassFile.FieldType.int) :: bt) ({ frames := 3, cells := 0, slots := 0, locals := 67 } : Room) (va_Pc [rv E (some o), .int a_1, .int a_2] (HB E K w z)) (QI E K z w' r) 0 0 (hA E) := by
  refine Met.ofW (cc := cX13_witness) (maxL := 3) (ret := (Option.some Jvm.ClassFile.FieldType.int)) (by decide) rfl ?_
  intro p e s m args below meth c s₁ B hml hv
  obtain ⟨rfl, hz, hP, hKs, hT, hb0⟩ := hv
  have C : CX p l e s m _ meth c cX13_witness 3 RX13 (Option.some Jvm.ClassFile.FieldType.int) E := ⟨B.exec, B.bytes, hml, findClass_of_methodNamed B.named, fun w h => atoms_spec (ws := Cond.code yX13_witness cX13_witness 3 (Option.some Jvm.ClassFile.FieldType.int) :: bt) B.pre w (List.mem_cons_of_mem _ h), hKs, hT, by rw [hz]; exact hb0, B.notSynchronized, B.returns⟩
  have hH : HQ E K z w s s.heap [] := ⟨hP, va_S.rf, hz⟩
  obtain ⟨hx, hb, hml, hown, hts, hKs, hT, hb0, hlocks, hret⟩ := id C
  have hl := lv_entry [rv E (some o), .int a_1, .int a_2] (n := 3) (by simp [lg_len_nil, lg_len_i, lg_len_j, lg_len_q, lg_len_f, lg_len_d, lg_len_r])
  rw [lg_entry_eq]
  generalize (lg_sl [rv E (some o), .int a_1, .int a_2] ++ List.replicate (3 - (lg_sl [rv E (some o), .int a_1, .int a_2]).length) Slot.unset).toArray = ls at hl ⊢
  replace hl : lv_has ls 3 [(0, rv E (some o)), (1, .int a_1), (2, .int a_2)] := by simpa only [lv_args, cat_q, cat_i, cat_j, reduceIte, Nat.reduceEqDiff, Nat.reduceAdd, Nat.zero_add] using hl
  generalize s.heap = H at hH ⊢
  unfold f_X13_witness at hf
  refine hl_aload_n hx hb dX13_witness_0 rfl (lv_at hl 0 rfl) ?_
  refine hl_aload_n hx hb dX13_witness_1 rfl (lv_at hl 0 rfl) ?_
  refine lv_iload_n hx hb dX13_witness_2 rfl (lv_at hl 1 rfl) ?_
  obtain ⟨q1, hq1, hf⟩ := bnd hf
  refine hcV_i hx hb hml hown hts hKs hT hb0 hH (As := [.int a_1]) (rest := [rv E (some o)]) (k_X13_isWitness l E K H.size o a_1 w ho hq1) (gV m8_89 m8_91 ms_88 m1_16 m8_92) hd_X13_isWitness ⟨Nat.le_of_ble_eq_true rfl, Nat.le_of_ble_eq_true rfl, rfl, rfl⟩ rfl ho rfl rfl rfl hl.1 rfl (rcV rc0) rfl dX13_witness_3 ⟨Nat.zero_le _, Nat.zero_le _⟩ (fun H locs hH => ?_)
  refine lv_if_eq (tgt := 25) hx hb dX13_witness_6 (by decide) (fun c2 => ?_) (fun c2 => ?_)
  · replace hf := (if_pos c2).symm.trans hf
    refine lv_iconst (v := 0) hx hb dX13_witness_25 (by decide) ?_
    obtain ⟨q3, hq3, hf⟩ := bnd hf
    refine hcV_i hx hb hml hown hts hKs hT hb0 hH (As := [.int 0]) (rest := []) (k_X13_is l E K H.size o false q1.2 ho hq3) (gV m7_68 m7_70 ms_47 m1_16 m7_71) hd_X13_is ⟨Nat.le_of_ble_eq_true rfl, Nat.le_of_ble_eq_true rfl, rfl, rfl⟩ rfl ho rfl rfl rfl hl.1 rfl rc0 rfl dX13_witness_26 ⟨Nat.zero_le _, Nat.zero_le _⟩ (fun H locs hH => ?_)
    refine lv_if_ne (tgt := 34) hx hb dX13_witness_29 (by decide) (fun c4 => ?_) (fun c4 => ?_)
    · replace hf := (if_neg c4).symm.trans hf
      refine lv_iload_n hx hb dX13_witness_34 rfl (lv_at hl 2 rfl) ?_
      by_cases c5 : (a_2 < 0 ∨ 3 < a_2)
      · replace hf := (if_pos c5).symm.trans hf
        refine hl_tabOut (tgt := 104) hx hb dX13_witness_35 c5 (by decide) (by decide) (by decide) ?_
        refine hl_aload_n hx hb dX13_witness_104 rfl (lv_at hl 0 rfl) ?_
        refine lv_iload_n hx hb dX13_witness_105 rfl (lv_at hl 1 rfl) ?_
        obtain ⟨q6, hq6, hf⟩ := bnd hf
        refine hcV_i hx hb hml hown hts hKs hT hb0 hH (As := [.int a_1]) (rest := []) (k_X13_needing l E K H.size o a_1 q3.2 ho hq6) (gV m8_147 m8_149 ms_95 m1_16 m8_150) hd_X13_needing ⟨Nat.le_of_ble_eq_true rfl, Nat.le_of_ble_eq_true rfl, rfl, rfl⟩ rfl ho rfl rfl rfl hl.1 rfl rc0 rfl dX13_witness_106 ⟨Nat.zero_le _, Nat.zero_le _⟩ (fun H locs hH => ?_)
        exact hw_iret hx hb hret hf hH hlocks dX13_witness_109
      replace hf := (if_neg c5).symm.trans hf
      by_cases c7 : a_2 = 0
      · replace hf := (if_pos c7).symm.trans hf
        refine hl_tabIn (tgt := 64) hx hb dX13_witness_35 c7 (by decide) (by decide) rfl (by decide) ?_
        refine hl_aload_n hx hb dX13_witness_64 rfl (lv_at hl 0 rfl) ?_
        refine g13_1 hx hb hts hown hKs hH rfl ho m6_182 dX13_witness_65 ?_
        refine lv_bipush (v := 52) hx hb dX13_witness_68 (by decide) ?_
        refine lv_iload_n hx hb dX13_witness_70 rfl (lv_at hl 1 rfl) ?_
        refine lv_iadd hx hb dX13_witness_71 ?_
        obtain ⟨a8, ha8, hf⟩ := bnd hf
        replace ha8 := cha_some ha8
        obtain ⟨j9, hj9, hf⟩ := bnd hf
        refine hw_iald hx hb hKs hH ha8.1 ha8.2 hj9 dX13_witness_72 ?_
        exact hw_iret hx hb hret hf hH hlocks dX13_witness_73
      replace hf := (if_neg c7).symm.trans hf
      by_cases c10 : a_2 = 1
      · replace hf := (if_pos c10).symm.trans hf
        refine hl_tabIn (tgt := 74) hx hb dX13_witness_35 c10 (by decide) (by decide) rfl (by decide) ?_
        refine hl_aload_n hx hb dX13_witness_74 rfl (lv_at hl 0 rfl) ?_
        refine g13_3 hx hb hts hown hKs hH rfl ho m6_184 dX13_witness_75 ?_
        refine lv_bipush (v := 22) hx hb dX13_witness_78 (by decide) ?_
        refine lv_iload_n hx hb dX13_witness_80 rfl (lv_at hl 1 rfl) ?_
        refine lv_iadd hx hb dX13_witness_81 ?_
        obtain ⟨a11, ha11, hf⟩ := bnd hf
        replace ha11 := cha_some ha11
        obtain ⟨j12, hj12, hf⟩ := bnd hf
        refine hw_iald hx hb hKs hH ha11.1 ha11.2 hj12 dX13_witness_82 ?_
        exact hw_iret hx hb hret hf hH hlocks dX13_witness_83
      replace hf := (if_neg c10).symm.trans hf
      by_cases c13 : a_2 = 2
      · replace hf := (if_pos c13).symm.trans hf
        refine hl_tabIn (tgt := 84) hx hb dX13_witness_35 c13 (by decide) (by decide) rfl (by decide) ?_
        refine hl_aload_n hx hb dX13_witness_84 rfl (lv_at hl 0 rfl) ?_
        refine g13_1 hx hb hts hown hKs hH rfl ho m6_182 dX13_witness_85 ?_
        refine lv_bipush (v := 64) hx hb dX13_witness_88 (by decide) ?_
        refine lv_iload_n hx hb dX13_witness_90 rfl (lv_at hl 1 rfl) ?_
        refine lv_iadd hx hb dX13_witness_91 ?_
        obtain ⟨a14, ha14, hf⟩ := bnd hf
        replace ha14 := cha_some ha14
        obtain ⟨j15, hj15, hf⟩ := bnd hf
        refine hw_iald hx hb hKs hH ha14.1 ha14.2 hj15 dX13_witness_92 ?_
        exact hw_iret hx hb hret hf hH hlocks dX13_witness_93
      replace hf := (if_neg c13).symm.trans hf
      by_cases c16 : a_2 = 3
      · replace hf := (if_pos c16).symm.trans hf
        refine hl_tabIn (tgt := 94) hx hb dX13_witness_35 c16 (by decide) (by decide) rfl (by decide) ?_
        refine hl_aload_n hx hb dX13_witness_94 rfl (lv_at hl 0 rfl) ?_
        refine g13_1 hx hb hts hown hKs hH rfl ho m6_182 dX13_witness_95 ?_
        refine lv_bipush (v := 76) hx hb dX13_witness_98 (by decide) ?_
        refine lv_iload_n hx hb dX13_witness_100 rfl (lv_at hl 1 rfl) ?_
        refine lv_iadd hx hb dX13_witness_101 ?_
        obtain ⟨a17, ha17, hf⟩ := bnd hf
        replace ha17 := cha_some ha17
        obtain ⟨j18, hj18, hf⟩ := bnd hf
        refine hw_iald hx hb hKs hH ha17.1 ha17.2 hj18 dX13_witness_102 ?_
        exact hw_iret hx hb hret hf hH hlocks dX13_witness_103
      replace hf := (if_neg c16).symm.trans hf
      cases hf
    · replace hf := (if_pos c4).symm.trans hf
      refine lv_iconst (v := 0) hx hb dX13_witness_32 (by decide) ?_
      exact hw_iret hx hb hret hf hH hlocks dX13_witness_33
  · replace hf := (if_neg c2).symm.trans hf
    refine lv_iload_n hx hb dX13_witness_9 rfl (lv_at hl 2 rfl) ?_
    refine lv_i2l (v := (a_2.toInt64)) hx hb dX13_witness_10 rfl ?_
    refine lv_lconst (v := 0) hx hb dX13_witness_11 rfl ?_
    refine lv_ldc2 (v := 4) hx hb hown (hts _ m8_146) dX13_witness_12 ?_
    obtain ⟨q19, hq19, hf⟩ := bnd hf
    refine hcS_i hx hb hml hown hts hKs hT hb0 hH (As := [.long (a_2.toInt64), .long 0, .long 4]) (rest := [rv E (some o)]) (k_X13_isIn l E K H.size (a_2.toInt64) 0 4 q1.2 hq19) (gS m7_88 m7_89 m1_16 m7_90) hs_X13_isIn ⟨Nat.le_of_ble_eq_true rfl, Nat.le_of_ble_eq_true rfl, rfl, rfl⟩ hl.1 rfl (rcV rc0) rfl dX13_witness_15 ⟨Nat.zero_le _, Nat.zero_le _⟩ (fun H locs hH => ?_)
    refine lv_if_eq (tgt := 25) hx hb dX13_witness_18 (by decide) (fun c20 => ?_) (fun c20 => ?_)
    · replace hf := (if_pos c20).symm.trans hf
      refine lv_iconst (v := 0) hx hb dX13_witness_25 (by decide) ?_
      obtain ⟨q21, hq21, hf⟩ := bnd hf
      refine hcV_i hx hb hml hown hts hKs hT hb0 hH (As := [.int 0]) (rest := []) (k_X13_is l E K H.size o false q19.2 ho hq21) (gV m7_68 m7_70 ms_47 m1_16 m7_71) hd_X13_is ⟨Nat.le_of_ble_eq_true rfl, Nat.le_of_ble_eq_true rfl, rfl, rfl⟩ rfl ho rfl rfl rfl hl.1 rfl rc0 rfl dX13_witness_26 ⟨Nat.zero_le _, Nat.zero_le _⟩ (fun H locs hH => ?_)
      refine lv_if_ne (tgt := 34) hx hb dX13_witness_29 (by decide) (fun c22 => ?_) (fun c22 => ?_)
      · replace hf := (if_neg c22).symm.trans hf
        refine lv_iload_n hx hb dX13_witness_34 rfl (lv_at hl 2 rfl) ?_
        by_cases c23 : (a_2 < 0 ∨ 3 < a_2)
        · replace hf := (if_pos c23).symm.trans hf
          refine hl_tabOut (tgt := 104) hx hb dX13_witness_35 c23 (by decide) (by decide) (by decide) ?_
          refine hl_aload_n hx hb dX13_witness_104 rfl (lv_at hl 0 rfl) ?_
          refine lv_iload_n hx hb dX13_witness_105 rfl (lv_at hl 1 rfl) ?_
          obtain ⟨q24, hq24, hf⟩ := bnd hf
          refine hcV_i hx hb hml hown hts hKs hT hb0 hH (As := [.int a_1]) (rest := []) (k_X13_needing l E K H.size o a_1 q21.2 ho hq24) (gV m8_147 m8_149 ms_95 m1_16 m8_150) hd_X13_needing ⟨Nat.le_of_ble_eq_true rfl, Nat.le_of_ble_eq_true rfl, rfl, rfl⟩ rfl ho rfl rfl rfl hl.1 rfl rc0 rfl dX13_witness_106 ⟨Nat.zero_le _, Nat.zero_le _⟩ (fun H locs hH => ?_)
          exact hw_iret hx hb hret hf hH hlocks dX13_witness_109
        replace hf := (if_neg c23).symm.trans hf
        by_cases c25 : a_2 = 0
        · replace hf := (if_pos c25).symm.trans hf
          refine hl_tabIn (tgt := 64) hx hb dX13_witness_35 c25 (by decide) (by decide) rfl (by decide) ?_
          refine hl_aload_n hx hb dX13_witness_64 rfl (lv_at hl 0 rfl) ?_
          refine g13_1 hx hb hts hown hKs hH rfl ho m6_182 dX13_witness_65 ?_
          refine lv_bipush (v := 52) hx hb dX13_witness_68 (by decide) ?_
          refine lv_iload_n hx hb dX13_witness_70 rfl (lv_at hl 1 rfl) ?_
          refine lv_iadd hx hb dX13_witness_71 ?_
          obtain ⟨a26, ha26, hf⟩ := bnd hf
          replace ha26 := cha_some ha26
          obtain ⟨j27, hj27, hf⟩ := bnd hf
          refine hw_iald hx hb hKs hH ha26.1 ha26.2 hj27 dX13_witness_72 ?_
          exact hw_iret hx hb hret hf hH hlocks dX13_witness_73
        replace hf := (if_neg c25).symm.trans hf
        by_cases c28 : a_2 = 1
        · replace hf := (if_pos c28).symm.trans hf
          refine hl_tabIn (tgt := 74) hx hb dX13_witness_35 c28 (by decide) (by decide) rfl (by decide) ?_
          refine hl_aload_n hx hb dX13_witness_74 rfl (lv_at hl 0 rfl) ?_
          refine g13_3 hx hb hts hown hKs hH rfl ho m6_184 dX13_witness_75 ?_
          refine lv_bipush (v := 22) hx hb dX13_witness_78 (by decide) ?_
          refine lv_iload_n hx hb dX13_witness_80 rfl (lv_at hl 1 rfl) ?_
          refine lv_iadd hx hb dX13_witness_81 ?_
          obtain ⟨a29, ha29, hf⟩ := bnd hf
          replace ha29 := cha_some ha29
          obtain ⟨j30, hj30, hf⟩ := bnd hf
          refine hw_iald hx hb hKs hH ha29.1 ha29.2 hj30 dX13_witness_82 ?_
          exact hw_iret hx hb hret hf hH hlocks dX13_witness_83
        replace hf := (if_neg c28).symm.trans hf
        by_cases c31 : a_2 = 2
        · replace hf := (if_pos c31).symm.trans hf
          refine hl_tabIn (tgt := 84) hx hb dX13_witness_35 c31 (by decide) (by decide) rfl (by decide) ?_
          refine hl_aload_n hx hb dX13_witness_84 rfl (lv_at hl 0 rfl) ?_
          refine g13_1 hx hb hts hown hKs hH rfl ho m6_182 dX13_witness_85 ?_
          refine lv_bipush (v := 64) hx hb dX13_witness_88 (by decide) ?_
          refine lv_iload_n hx hb dX13_witness_90 rfl (lv_at hl 1 rfl) ?_
          refine lv_iadd hx hb dX13_witness_91 ?_
          obtain ⟨a32, ha32, hf⟩ := bnd hf
          replace ha32 := cha_some ha32
          obtain ⟨j33, hj33, hf⟩ := bnd hf
          refine hw_iald hx hb hKs hH ha32.1 ha32.2 hj33 dX13_witness_92 ?_
          exact hw_iret hx hb hret hf hH hlocks dX13_witness_93
        replace hf := (if_neg c31).symm.trans hf
        by_cases c34 : a_2 = 3
        · replace hf := (if_pos c34).symm.trans hf
          refine hl_tabIn (tgt := 94) hx hb dX13_witness_35 c34 (by decide) (by decide) rfl (by decide) ?_
          refine hl_aload_n hx hb dX13_witness_94 rfl (lv_at hl 0 rfl) ?_
          refine g13_1 hx hb hts hown hKs hH rfl ho m6_182 dX13_witness_95 ?_
          refine lv_bipush (v := 76) hx hb dX13_witness_98 (by decide) ?_
          refine lv_iload_n hx hb dX13_witness_100 rfl (lv_at hl 1 rfl) ?_
          refine lv_iadd hx hb dX13_witness_101 ?_
          obtain ⟨a35, ha35, hf⟩ := bnd hf
          replace ha35 := cha_some ha35
          obtain ⟨j36, hj36, hf⟩ := bnd hf
          refine hw_iald hx hb hKs hH ha35.1 ha35.2 hj36 dX13_witness_102 ?_
          exact hw_iret hx hb hret hf hH hlocks dX13_witness_103
        replace hf := (if_neg c34).symm.trans hf
        cases hf
      · replace hf := (if_pos c22).symm.trans hf
        refine lv_iconst (v := 0) hx hb dX13_witness_32 (by decide) ?_
        exact hw_iret hx hb hret hf hH hlocks dX13_witness_33
    · replace hf := (if_neg c20).symm.trans hf
      refine lv_iconst (v := 1) hx hb dX13_witness_21 (by decide) ?_
      refine lv_goto (tgt := 26) hx hb dX13_witness_22 (by decide) ?_
      obtain ⟨q37, hq37, hf⟩ := bnd hf
      refine hcV_i hx hb hml hown hts hKs hT hb0 hH (As := [.int 1]) (rest := []) (k_X13_is l E K H.size o true q19.2 ho hq37) (gV m7_68 m7_70 ms_47 m1_16 m7_71) hd_X13_is ⟨Nat.le_of_ble_eq_true rfl, Nat.le_of_ble_eq_true rfl, rfl, rfl⟩ rfl ho rfl rfl rfl hl.1 rfl rc0 rfl dX13_witness_26 ⟨Nat.zero_le _, Nat.zero_le _⟩ (fun H locs hH => ?_)
      refine lv_if_ne (tgt := 34) hx hb dX13_witness_29 (by decide) (fun c38 => ?_) (fun c38 => ?_)
      · replace hf := (if_neg c38).symm.trans hf
        refine lv_iload_n hx hb dX13_witness_34 rfl (lv_at hl 2 rfl) ?_
        by_cases c39 : (a_2 < 0 ∨ 3 < a_2)
        · replace hf := (if_pos c39).symm.trans hf
          refine hl_tabOut (tgt := 104) hx hb dX13_witness_35 c39 (by decide) (by decide) (by decide) ?_
          refine hl_aload_n hx hb dX13_witness_104 rfl (lv_at hl 0 rfl) ?_
          refine lv_iload_n hx hb dX13_witness_105 rfl (lv_at hl 1 rfl) ?_
          obtain ⟨q40, hq40, hf⟩ := bnd hf
          refine hcV_i hx hb hml hown hts hKs hT hb0 hH (As := [.int a_1]) (rest := []) (k_X13_needing l E K H.size o a_1 q37.2 ho hq40) (gV m8_147 m8_149 ms_95 m1_16 m8_150) hd_X13_needing ⟨Nat.le_of_ble_eq_true rfl, Nat.le_of_ble_eq_true rfl, rfl, rfl⟩ rfl ho rfl rfl rfl hl.1 rfl rc0 rfl dX13_witness_106 ⟨Nat.zero_le _, Nat.zero_le _⟩ (fun H locs hH => ?_)
          exact hw_iret hx hb hret hf hH hlocks dX13_witness_109
        replace hf := (if_neg c39).symm.trans hf
        by_cases c41 : a_2 = 0
        · replace hf := (if_pos c41).symm.trans hf
          refine hl_tabIn (tgt := 64) hx hb dX13_witness_35 c41 (by decide) (by decide) rfl (by decide) ?_
          refine hl_aload_n hx hb dX13_witness_64 rfl (lv_at hl 0 rfl) ?_
          refine g13_1 hx hb hts hown hKs hH rfl ho m6_182 dX13_witness_65 ?_
          refine lv_bipush (v := 52) hx hb dX13_witness_68 (by decide) ?_
          refine lv_iload_n hx hb dX13_witness_70 rfl (lv_at hl 1 rfl) ?_
          refine lv_iadd hx hb dX13_witness_71 ?_
          obtain ⟨a42, ha42, hf⟩ := bnd hf
          replace ha42 := cha_some ha42
          obtain ⟨j43, hj43, hf⟩ := bnd hf
          refine hw_iald hx hb hKs hH ha42.1 ha42.2 hj43 dX13_witness_72 ?_
          exact hw_iret hx hb hret hf hH hlocks dX13_witness_73
        replace hf := (if_neg c41).symm.trans hf
        by_cases c44 : a_2 = 1
        · replace hf := (if_pos c44).symm.trans hf
          refine hl_tabIn (tgt := 74) hx hb dX13_witness_35 c44 (by decide) (by decide) rfl (by decide) ?_
          refine hl_aload_n hx hb dX13_witness_74 rfl (lv_at hl 0 rfl) ?_
          refine g13_3 hx hb hts hown hKs hH rfl ho m6_184 dX13_witness_75 ?_
          refine lv_bipush (v := 22) hx hb dX13_witness_78 (by decide) ?_
          refine lv_iload_n hx hb dX13_witness_80 rfl (lv_at hl 1 rfl) ?_
          refine lv_iadd hx hb dX13_witness_81 ?_
          obtain ⟨a45, ha45, hf⟩ := bnd hf
          replace ha45 := cha_some ha45
          obtain ⟨j46, hj46, hf⟩ := bnd hf
          refine hw_iald hx hb hKs hH ha45.1 ha45.2 hj46 dX13_witness_82 ?_
          exact hw_iret hx hb hret hf hH hlocks dX13_witness_83
        replace hf := (if_neg c44).symm.trans hf
        by_cases c47 : a_2 = 2
        · replace hf := (if_pos c47).symm.trans hf
          refine hl_tabIn (tgt := 84) hx hb dX13_witness_35 c47 (by decide) (by decide) rfl (by decide) ?_
          refine hl_aload_n hx hb dX13_witness_84 rfl (lv_at hl 0 rfl) ?_
          refine g13_1 hx hb hts hown hKs hH rfl ho m6_182 dX13_witness_85 ?_
          refine lv_bipush (v := 64) hx hb dX13_witness_88 (by decide) ?_
          refine lv_iload_n hx hb dX13_witness_90 rfl (lv_at hl 1 rfl) ?_
          refine lv_iadd hx hb dX13_witness_91 ?_
          obtain ⟨a48, ha48, hf⟩ := bnd hf
          replace ha48 := cha_some ha48
          obtain ⟨j49, hj49, hf⟩ := bnd hf
          refine hw_iald hx hb hKs hH ha48.1 ha48.2 hj49 dX13_witness_92 ?_
          exact hw_iret hx hb hret hf hH hlocks dX13_witness_93
        replace hf := (if_neg c47).symm.trans hf
        by_cases c50 : a_2 = 3
        · replace hf := (if_pos c50).symm.trans hf
          refine hl_tabIn (tgt := 94) hx hb dX13_witness_35 c50 (by decide) (by decide) rfl (by decide) ?_
          refine hl_aload_n hx hb dX13_witness_94 rfl (lv_at hl 0 rfl) ?_
          refine g13_1 hx hb hts hown hKs hH rfl ho m6_182 dX13_witness_95 ?_
          refine lv_bipush (v := 76) hx hb dX13_witness_98 (by decide) ?_
          refine lv_iload_n hx hb dX13_witness_100 rfl (lv_at hl 1 rfl) ?_
          refine lv_iadd hx hb dX13_witness_101 ?_
          obtain ⟨a51, ha51, hf⟩ := bnd hf
          replace ha51 := cha_some ha51
          obtain ⟨j52, hj52, hf⟩ := bnd hf
          refine hw_iald hx hb hKs hH ha51.1 ha51.2 hj52 dX13_witness_102 ?_
          exact hw_iret hx hb hret hf hH hlocks dX13_witness_103
        replace hf := (if_neg c50).symm.trans hf
        cases hf
      · replace hf := (if_pos c38).symm.trans hf
        refine lv_iconst (v := 0) hx hb dX13_witness_32 (by decide) ?_
        exact hw_iret hx hb hret hf hH hlocks dX13_witness_33
end
