def f_X6_countOpenDays_L22 (K : Kd) (o : Nat) (k : Option Nat → Int32 → Int32 → Int32 → Int32 → Wd → Option (Int32 × Wd)) : Nat → Option Nat → Int32 → Int32 → Int32 → Int32 → Wd → Option (Int32 × Wd)
  | 0, _, _, _, _, _, _ => none
  | n + 1, v1_22, v2_22, v3_22, v4_22, v5_22, w =>
    if v3_22 < v5_22 then
      (k v1_22 v2_22 v3_22 v4_22 v5_22 w)
    else
      ((f_X6_findOn K o v1_22 v2_22 v5_22 0 w).bind fun q6 =>
      if (b2i q6.1) = 0 then
        (f_X6_countOpenDays_L22 K o k n v1_22 v2_22 v3_22 v4_22 (v5_22 + 1) q6.2)
      else
        (f_X6_countOpenDays_L22 K o k n v1_22 v2_22 v3_22 (v4_22 + 1) (v5_22 + 1) q6.2))

def f_X6_countOpenDays (K : Kd) (o : Nat) (a_1 : Option Nat) (a_2 : Int32) (w : Wd) : Option (Int32 × Wd) :=
  (f_X6_lookAtOfficers K o a_1 a_2 w).bind fun q1 =>
  (f_X6_lastDay K a_1 a_2 q1).bind fun q2 =>
  (f_X6_firstDay K a_1 a_2 q2.2).bind fun q3 =>
  f_X6_countOpenDays_L22 K o (fun v1_22 v2_22 v3_22 v4_22 v5_22 w4 =>
    some (v4_22, w4)) fu a_1 a_2 q2.1 0 q3.1 q3.2

def f_X6_planWaiting_L15 (K : Kd) (o : Nat) (k : Option Nat → Int32 → Int32 → Int32 → Int32 → Wd → Option (Int32 × Wd)) : Nat → Option Nat → Int32 → Int32 → Int32 → Int32 → Wd → Option (Int32 × Wd)
  | 0, _, _, _, _, _, _ => none
  | n + 1, v1_15, v2_15, v3_15, v4_15, v5_15, w =>
    if v3_15 ≤ v5_15 then
      (k v1_15 v2_15 v3_15 v4_15 v5_15 w)
    else
      ((cha K 20 (wR w 603 o)).bind fun a5 =>
      (ixa v5_15 a5.2).bind fun j6 =>
      (f_X6_findFirst K o v1_15 (aI w a5.1 j6) v2_15 w).bind fun q7 =>
      if (b2i q7.1) = 0 then
        (f_X6_planWaiting_L15 K o k n v1_15 v2_15 v3_15 v4_15 (v5_15 + 1) q7.2)
      else
        ((cha K 20 (wR q7.2 603 o)).bind fun a9 =>
        (ixa v5_15 a9.2).bind fun j10 =>
        (f_X6_setFound K o v1_15 (aI q7.2 a9.1 j10) q7.2).bind fun q11 =>
        f_X6_planWaiting_L15 K o k n v1_15 v2_15 v3_15 (v4_15 + 1) (v5_15 + 1) q11))

def f_X6_planWaiting (K : Kd) (o : Nat) (a_1 : Option Nat) (a_2 : Int32) (w : Wd) : Option (Int32 × Wd) :=
  (chk K 9 a_1).bind fun a1 =>
  (f_X10_sortWaiting K a1 (wR w 603 o) w).bind fun q2 =>
  f_X6_planWaiting_L15 K o (fun v1_15 v2_15 v3_15 v4_15 v5_15 w3 =>
    some (v4_15, w3)) fu a_1 a_2 q2.1 0 0 q2.2

def f_X12_opening (K : Kd) (o : Nat) (a_1 : Int32) (a_2 : Int32) (w : Wd) : Option ((Int32 ⊕ Nat) × Wd) :=
  (f_X12_requireExisting K o 3 a_1 w).bind fun q1 =>
  xk q1 fun _ =>
  if a_2 < 0 then
    (some (.inr 1, q1.2))
  else
    (if a_2 ≤ 3 then
      ((f_X12_requireUnfinished K o a_1 q1.2).bind fun q5 =>
      xk q5 fun _ =>
      (chk K 5 (wR q5.2 1211 o)).bind fun a7 =>
      (f_X6_findFirst K a7 (wR q5.2 1205 o) a_1 0 q5.2).bind fun q8 =>
      if (b2i q8.1) = 0 then
        (some (.inl (-1), q8.2))
      else
        (if a_2 < 0 ∨ 2 < a_2 then
          ((chk K 5 (wR q8.2 1211 o)).bind fun a11 =>
          some (.inl (wI q8.2 611 a11), q8.2))
        else if a_2 = 0 then
          ((chk K 5 (wR q8.2 1211 o)).bind fun a13 =>
          some (.inl (wI q8.2 608 a13), q8.2))
        else if a_2 = 1 then
          ((chk K 5 (wR q8.2 1211 o)).bind fun a15 =>
          some (.inl (wI q8.2 609 a15), q8.2))
        else if a_2 = 2 then
          ((chk K 5 (wR q8.2 1211 o)).bind fun a17 =>
          some (.inl (wI q8.2 610 a17), q8.2))
        else none))
    else
      (some (.inr 1, q1.2)))

def f_X12_openDays (K : Kd) (o : Nat) (a_1 : Int32) (w : Wd) : Option ((Int32 ⊕ Nat) × Wd) :=
  (f_X12_requireExisting K o 3 a_1 w).bind fun q1 =>
  xk q1 fun _ =>
  (f_X12_requireUnfinished K o a_1 q1.2).bind fun q3 =>
  xk q3 fun _ =>
  (chk K 5 (wR q3.2 1211 o)).bind fun a5 =>
  (f_X6_countOpenDays K a5 (wR q3.2 1205 o) a_1 q3.2).bind fun q6 =>
  some (.inl q6.1, q6.2)

def f_X12_planNext (K : Kd) (o : Nat) (a_1 : Int32) (w : Wd) : Option ((Int32 ⊕ Nat) × Wd) :=
  (f_X12_requireExisting K o 3 a_1 w).bind fun q1 =>
  xk q1 fun _ =>
  (chk K 9 (wR q1.2 1205 o)).bind fun a3 =>
  (cha K 27 (wR q1.2 1005 a3)).bind fun a4 =>
  (ixa a_1 a4.2).bind fun j5 =>
  (chk K 6 (aR q1.2 a4.1 j5)).bind fun a6 =>
  if (wI q1.2 700 a6) = 0 then
    ((chk K 5 (wR q1.2 1211 o)).bind fun a8 =>
    (f_X6_findFirst K a8 (wR q1.2 1205 o) a_1 0 q1.2).bind fun q9 =>
    if (b2i q9.1) = 0 then
      (some (.inr 4, q9.2))
    else
      ((f_X12_remember K o q9.2).bind fun q11 =>
      (chk K 5 (wR q11 1211 o)).bind fun a12 =>
      (f_X6_setFound K a12 (wR q11 1205 o) a_1 q11).bind fun q13 =>
      (chk K 5 (wR q13 1211 o)).bind fun a14 =>
      some (.inl (wI q13 608 a14), q13)))
  else
    (some (.inr 3, q1.2))

def f_X12_planAll (K : Kd) (o : Nat) (w : Wd) : Option (Int32 × Wd) :=
  (f_X12_remember K o w).bind fun q1 =>
  (chk K 5 (wR q1 1211 o)).bind fun a2 =>
  (f_X6_planWaiting K a2 (wR q1 1205 o) 0 q1).bind fun q3 =>
  some (q3.1, q3.2)

def f_X12_forecastPlanned (K : Kd) (o : Nat) (a_1 : Int32) (w : Wd) : Option (Int32 × Wd) :=
  (chk K 9 (wR w 1208 o)).bind fun a1 =>
  (f_X10_copyFrom K a1 (wR w 1205 o) w).bind fun q2 =>
  (chk K 5 (wR q2 1211 o)).bind fun a3 =>
  (f_X6_planWaiting K a3 (wR q2 1208 o) a_1 q2).bind fun q4 =>
  some (q4.1, q4.2)

def f_X12_keyOfficer_L10 (K : Kd) (o : Nat) (k : Int32 → Int32 → Int32 → Wd → Option (Int32 × Wd)) : Nat → Int32 → Int32 → Int32 → Wd → Option (Int32 × Wd)
  | 0, _, _, _, _ => none
  | n + 1, v1_10, v2_10, v3_10, w =>
    (chk K 9 (wR w 1205 o)).bind fun a3 =>
    (chk K 8 (wR w 1000 a3)).bind fun a4 =>
    (f_X9_size K a4 1 w).bind fun q5 =>
    if q5.1 ≤ v3_10 then
      (k v1_10 v2_10 v3_10 q5.2)
    else
      ((f_X12_forecastPlanned K o (1 <<< (v3_10 &&& 31)) q5.2).bind fun q7 =>
      if v1_10 ≤ q7.1 then
        (f_X12_keyOfficer_L10 K o k n v1_10 v2_10 (v3_10 + 1) q7.2)
      else
        (f_X12_keyOfficer_L10 K o k n q7.1 v3_10 (v3_10 + 1) q7.2))

def f_X12_keyOfficer (K : Kd) (o : Nat) (w : Wd) : Option (Int32 × Wd) :=
  (f_X12_forecastPlanned K o 0 w).bind fun q1 =>
  f_X12_keyOfficer_L10 K o (fun v1_10 v2_10 v3_10 w2 =>
    some (v2_10, w2)) fu q1.1 (-1) 0 q1.2

def f_X12_plannable (K : Kd) (o : Nat) (w : Wd) : Option (Int32 × Wd) :=
  (f_X12_forecastPlanned K o 0 w).bind fun q1 =>
  some (q1.1, q1.2)
section
variable {p : Program} {l : Launch} {e : Env} {s : State} {m : MethodId} {args : Array Value} {below : List Frame} {meth : Method} {c : Code} {E : Ev} {K : Kd} {z : Nat}

theorem dX6_countOpenDays_0 : decode cX6_countOpenDays 0 = .ok (.aload_n 0, 1) := by decide +kernel
theorem dX6_countOpenDays_1 : decode cX6_countOpenDays 1 = .ok (.aload_n 1, 1) := by decide +kernel
theorem dX6_countOpenDays_2 : decode cX6_countOpenDays 2 = .ok (.iload_n 2, 1) := by decide +kernel
theorem dX6_countOpenDays_3 : decode cX6_countOpenDays 3 = .ok (.invokevirtual 53, 3) := by decide +kernel
theorem dX6_countOpenDays_6 : decode cX6_countOpenDays 6 = .ok (.aload_n 1, 1) := by decide +kernel
theorem dX6_countOpenDays_7 : decode cX6_countOpenDays 7 = .ok (.iload_n 2, 1) := by decide +kernel
theorem dX6_countOpenDays_8 : decode cX6_countOpenDays 8 = .ok (.invokestatic 87, 3) := by decide +kernel
theorem dX6_countOpenDays_11 : decode cX6_countOpenDays 11 = .ok (.istore_n 3, 1) := by decide +kernel
theorem dX6_countOpenDays_12 : decode cX6_countOpenDays 12 = .ok (.iconst 0, 1) := by decide +kernel
theorem dX6_countOpenDays_13 : decode cX6_countOpenDays 13 = .ok (.istore 4, 2) := by decide +kernel
theorem dX6_countOpenDays_15 : decode cX6_countOpenDays 15 = .ok (.aload_n 1, 1) := by decide +kernel
theorem dX6_countOpenDays_16 : decode cX6_countOpenDays 16 = .ok (.iload_n 2, 1) := by decide +kernel
theorem dX6_countOpenDays_17 : decode cX6_countOpenDays 17 = .ok (.invokestatic 91, 3) := by decide +kernel
theorem dX6_countOpenDays_20 : decode cX6_countOpenDays 20 = .ok (.istore 5, 2) := by decide +kernel
theorem dX6_countOpenDays_22 : decode cX6_countOpenDays 22 = .ok (.iload 5, 2) := by decide +kernel
theorem dX6_countOpenDays_24 : decode cX6_countOpenDays 24 = .ok (.iload_n 3, 1) := by decide +kernel
theorem dX6_countOpenDays_25 : decode cX6_countOpenDays 25 = .ok (.if_icmp .gt 24, 3) := by decide +kernel
theorem dX6_countOpenDays_28 : decode cX6_countOpenDays 28 = .ok (.aload_n 0, 1) := by decide +kernel
theorem dX6_countOpenDays_29 : decode cX6_countOpenDays 29 = .ok (.aload_n 1, 1) := by decide +kernel
theorem dX6_countOpenDays_30 : decode cX6_countOpenDays 30 = .ok (.iload_n 2, 1) := by decide +kernel
theorem dX6_countOpenDays_31 : decode cX6_countOpenDays 31 = .ok (.iload 5, 2) := by decide +kernel
theorem dX6_countOpenDays_33 : decode cX6_countOpenDays 33 = .ok (.iconst 0, 1) := by decide +kernel
theorem dX6_countOpenDays_34 : decode cX6_countOpenDays 34 = .ok (.invokevirtual 94, 3) := by decide +kernel
theorem dX6_countOpenDays_37 : decode cX6_countOpenDays 37 = .ok (.ifCond .eq 6, 3) := by decide +kernel
theorem dX6_countOpenDays_40 : decode cX6_countOpenDays 40 = .ok (.iinc 4 1, 3) := by decide +kernel
theorem dX6_countOpenDays_43 : decode cX6_countOpenDays 43 = .ok (.iinc 5 1, 3) := by decide +kernel
theorem dX6_countOpenDays_46 : decode cX6_countOpenDays 46 = .ok (.goto (-24), 3) := by decide +kernel
theorem dX6_countOpenDays_49 : decode cX6_countOpenDays 49 = .ok (.iload 4, 2) := by decide +kernel
theorem dX6_countOpenDays_51 : decode cX6_countOpenDays 51 = .ok (.ireturn, 1) := by decide +kernel
theorem hd_X6_countOpenDays : yX6_countOpenDays.cls = RX6 ∧ yX6_countOpenDays.cls ≠ "java/lang/invoke/MethodHandle" ∧ yX6_countOpenDays.cls ≠ "java/lang/invoke/VarHandle" ∧ (parseMethodDescriptor yX6_countOpenDays.desc).map (fun d => d.parameters.length) = some 2 := by decide +kernel
theorem hs_X6_countOpenDays : yX6_countOpenDays.cls ≠ "java/lang/invoke/MethodHandle" ∧ yX6_countOpenDays.cls ≠ "java/lang/invoke/VarHandle" ∧ (parseMethodDescriptor yX6_countOpenDays.desc).map (fun d => d.parameters.length) = some 2 := by decide +kernel
set_option maxHeartbeats 4000000 in
set_option maxRecDepth 100000 in
theorem l_X6_countOpenDays_L22 (C : CX p l e s m args meth c cX6_countOpenDays 6 RX6 (Option.some Jvm.ClassFile.FieldType.int) E) {o : Nat} (ho : K o = some (5, 0)) {r : Int32} {w' : Wd} (k : Option Nat → Int32 → Int32 → Int32 → Int32 → Wd → Option (Int32 × Wd)) (hk : ∀ (v1_22 : Option Nat) (v2_22 : Int32) (v3_22 : Int32) (v4_22 : Int32) (v5_22 : Int32) (w : Wd) (H : Heap) (locs : List Loc) (ls : Array Slot), HQ E K z w s H locs → lv_has ls 6 [(1, rv E v1_22), (2, .int v2_22), (3, .int v3_22), (4, .int v4_22), (5, .int v5_22), (0, rv E (some o))] → k v1_22 v2_22 v3_22 v4_22 v5_22 w = some (r, w') → W p l e ({ frames := 4, cells := 0, slots := 0, locals := 103 } : Room) s m args below meth c H locs 0 0 (MQ below (QI E K z w' r) args s 0 0 (hA E)) (F0 m 49 ls [])) : ∀ (n : Nat) (v1_22 : Option Nat) (v2_22 : Int32) (v3_22 : Int32) (v4_22 : Int32) (v5_22 : Int32) (w : Wd) (H : Heap) (locs : List Loc) (ls : Array Slot), HQ E K z w s H locs → lv_has ls 6 [(1, rv E v1_22), (2, .int v2_22), (3, .int v3_22), (4, .int v4_22), (5, .int v5_22), (0, rv E (some o))] → f_X6_countOpenDays_L22 K o k n v1_22 v2_22 v3_22 v4_22 v5_22 w = some (r, w') → W p l e ({ frames := 4, cells := 0, slots := 0, locals := 103 } : Room) s m args below meth c H locs 0 0 (MQ below (QI E K z w' r) args s 0 0 (hA E)) (F0 m 22 ls []) := by
  obtain ⟨hx, hb, hml, hown, hts, hKs, hT, hb0, hlocks, hret⟩ := id C
  intro n
  induction n with
  | zero =>
    intro v1_22 v2_22 v3_22 v4_22 v5_22 w H locs ls hH hl hf
    cases hf
  | succ n ih =>
    intro v1_22 v2_22 v3_22 v4_22 v5_22 w H locs ls hH hl hf
    rw [f_X6_countOpenDays_L22] at hf
    refine lv_iload hx hb dX6_countOpenDays_22 (lv_at hl 4 rfl) ?_
    refine lv_iload_n hx hb dX6_countOpenDays_24 rfl (lv_at hl 2 rfl) ?_
    refine lv_icmp_gt (tgt := 49) hx hb dX6_countOpenDays_25 (by decide) (fun c5 => ?_) (fun c5 => ?_)
    · replace hf := (if_pos c5).symm.trans hf
      exact hk v1_22 v2_22 v3_22 v4_22 v5_22 _ _ _ _ hH (lv_sub hl [0, 1, 2, 3, 4, 5] rfl) hf
    · replace hf := (if_neg c5).symm.trans hf
      refine hl_aload_n hx hb dX6_countOpenDays_28 rfl (lv_at hl 5 rfl) ?_
      refine hl_aload_n hx hb dX6_countOpenDays_29 rfl (lv_at hl 0 rfl) ?_
      refine lv_iload_n hx hb dX6_countOpenDays_30 rfl (lv_at hl 1 rfl) ?_
      refine lv_iload hx hb dX6_countOpenDays_31 (lv_at hl 4 rfl) ?_
      refine lv_iconst (v := 0) hx hb dX6_countOpenDays_33 (by decide) ?_
      obtain ⟨q6, hq6, hf⟩ := bnd hf
      refine hcV_i hx hb hml hown hts hKs hT hb0 hH (As := [rv E v1_22, .int v2_22, .int v5_22, .int 0]) (rest := []) (k_X6_findOn l E K H.size o v1_22 v2_22 v5_22 0 w ho hq6) (gV m4_138 m4_140 ms_27 m1_14 m4_141) hd_X6_findOn ⟨Nat.le_of_ble_eq_true rfl, Nat.le_of_ble_eq_true rfl, rfl, rfl⟩ rfl ho rfl rfl rfl hl.1 rfl rc0 rfl dX6_countOpenDays_34 ⟨Nat.zero_le _, Nat.zero_le _⟩ (fun H locs hH => ?_)
      refine lv_if_eq (tgt := 43) hx hb dX6_countOpenDays_37 (by decide) (fun c7 => ?_) (fun c7 => ?_)
      · replace hf := (if_pos c7).symm.trans hf
        refine lv_iinc (v := (v5_22 + 1)) (lv' := [(5, .int ((v5_22 + 1))), (1, rv E v1_22), (2, .int v2_22), (3, .int v3_22), (4, .int v4_22), (0, rv E (some o))]) hx hb dX6_countOpenDays_43 hl (k := 4) rfl rfl (by decide) rfl (fun ls hl => ?_)
        refine lv_goto (tgt := 22) hx hb dX6_countOpenDays_46 (by decide) ?_
        exact ih v1_22 v2_22 v3_22 v4_22 (v5_22 + 1) _ _ _ _ hH (lv_sub hl [1, 2, 3, 4, 0, 5] rfl) hf
      · replace hf := (if_neg c7).symm.trans hf
        refine lv_iinc (v := (v4_22 + 1)) (lv' := [(4, .int ((v4_22 + 1))), (1, rv E v1_22), (2, .int v2_22), (3, .int v3_22), (5, .int v5_22), (0, rv E (some o))]) hx hb dX6_countOpenDays_40 hl (k := 3) rfl rfl (by decide) rfl (fun ls hl => ?_)
        refine lv_iinc (v := (v5_22 + 1)) (lv' := [(5, .int ((v5_22 + 1))), (4, .int ((v4_22 + 1))), (1, rv E v1_22), (2, .int v2_22), (3, .int v3_22), (0, rv E (some o))]) hx hb dX6_countOpenDays_43 hl (k := 4) rfl rfl (by decide) rfl (fun ls hl => ?_)
        refine lv_goto (tgt := 22) hx hb dX6_countOpenDays_46 (by decide) ?_
        exact ih v1_22 v2_22 v3_22 (v4_22 + 1) (v5_22 + 1) _ _ _ _ hH (lv_sub hl [2, 3, 4, 1, 0, 5] rfl) hf
set_option maxHeartbeats 4000000 in
set_option maxRecDepth 100000 in
theorem k_X6_countOpenDays (l : Launch) (E : Ev) (K : Kd) (z : Nat) (o : Nat) (a_1 : Option Nat) (a_2 : Int32) (w : Wd) (ho : K o = some (5, 0)) {r : Int32} {w' : Wd} (hf : f_X6_countOpenDays K o a_1 a_2 w = some (r, w')) : Met l yX6_countOpenDays (Cond.code yX6_countOpenDays cX6_countOpenDays 6 (Option.some Jvm.ClassFile.FieldType.int) :: bt) ({ frames := 4, cells := 0, slots := 0, locals := 103 } : Room) (va_Pc [rv E (some o), rv E a_1, .int a_2] (HB E K w z)) (QI E K z w' r) 0 0 (hA E) := by
  refine Met.ofW (cc := cX6_countOpenDays) (maxL := 6) (ret := (Option.some Jvm.ClassFile.FieldType.int)) (by decide) rfl ?_
  intro p e s m args below meth c s₁ B hml hv
  obtain ⟨rfl, hz, hP, hKs, hT, hb0⟩ := hv
  have C : CX p l e s m _ meth c cX6_countOpenDays 6 RX6 (Option.some Jvm.ClassFile.FieldType.int) E := ⟨B.exec, B.bytes, hml, findClass_of_methodNamed B.named, fun w h => atoms_spec (ws := Cond.code yX6_countOpenDays cX6_countOpenDays 6 (Option.some Jvm.ClassFile.FieldType.int) :: bt) B.pre w (List.mem_cons_of_mem _ h), hKs, hT, by rw [hz]; exact hb0, B.notSynchronized, B.returns⟩
  have hH : HQ E K z w s s.heap [] := ⟨hP, va_S.rf, hz⟩
  obtain ⟨hx, hb, hml, hown, hts, hKs, hT, hb0, hlocks, hret⟩ := id C
  have hl := lv_entry [rv E (some o), rv E a_1, .int a_2] (n := 6) (by simp [lg_len_nil, lg_len_i, lg_len_j, lg_len_q])
  rw [lg_entry_eq]
  generalize (lg_sl [rv E (some o), rv E a_1, .int a_2] ++ List.replicate (6 - (lg_sl [rv E (some o), rv E a_1, .int a_2]).length) Slot.unset).toArray = ls at hl ⊢
  replace hl : lv_has ls 6 [(0, rv E (some o)), (1, rv E a_1), (2, .int a_2)] := by simpa only [lv_args, cat_q, cat_i, cat_j, reduceIte, Nat.reduceEqDiff, Nat.reduceAdd, Nat.zero_add] using hl
  generalize s.heap = H at hH ⊢
  unfold f_X6_countOpenDays at hf
  refine hl_aload_n hx hb dX6_countOpenDays_0 rfl (lv_at hl 0 rfl) ?_
  refine hl_aload_n hx hb dX6_countOpenDays_1 rfl (lv_at hl 1 rfl) ?_
  refine lv_iload_n hx hb dX6_countOpenDays_2 rfl (lv_at hl 2 rfl) ?_
  obtain ⟨q1, hq1, hf⟩ := bnd hf
  refine hcV_v hx hb hml hown hts hKs hT hb0 hH (As := [rv E a_1, .int a_2]) (rest := []) (k_X6_lookAtOfficers l E K H.size o a_1 a_2 w ho hq1) (gV m4_115 m4_117 ms_26 m1_14 m4_118) hd_X6_lookAtOfficers ⟨Nat.le_of_ble_eq_true rfl, Nat.le_of_ble_eq_true rfl, rfl, rfl⟩ rfl ho rfl rfl rfl hl.1 rfl rc0 rfl dX6_countOpenDays_3 ⟨Nat.zero_le _, Nat.zero_le _⟩ (fun H locs hH => ?_)
  refine hl_aload_n hx hb dX6_countOpenDays_6 rfl (lv_at hl 1 rfl) ?_
  refine lv_iload_n hx hb dX6_countOpenDays_7 rfl (lv_at hl 2 rfl) ?_
  obtain ⟨q2, hq2, hf⟩ := bnd hf
  refine hcS_i hx hb hml hown hts hKs hT hb0 hH (As := [rv E a_1, .int a_2]) (rest := []) (k_X6_lastDay l E K H.size a_1 a_2 q1 hq2) (gS m4_129 m4_130 m1_14 m4_131) hs_X6_lastDay ⟨Nat.le_of_ble_eq_true rfl, Nat.le_of_ble_eq_true rfl, rfl, rfl⟩ hl.1 rfl rc0 rfl dX6_countOpenDays_8 ⟨Nat.zero_le _, Nat.zero_le _⟩ (fun H locs hH => ?_)
  refine lv_istore_n (lv' := [(3, .int (q2.1)), (0, rv E (some o)), (1, rv E a_1), (2, .int a_2)]) hx hb dX6_countOpenDays_11 rfl hl (by decide) rfl (fun ls hl => ?_)
  refine lv_iconst (v := 0) hx hb dX6_countOpenDays_12 (by decide) ?_
  refine lv_istore (lv' := [(4, .int 0), (3, .int (q2.1)), (0, rv E (some o)), (1, rv E a_1), (2, .int a_2)]) hx hb dX6_countOpenDays_13 hl (by decide) rfl (fun ls hl => ?_)
  refine hl_aload_n hx hb dX6_countOpenDays_15 rfl (lv_at hl 3 rfl) ?_
  refine lv_iload_n hx hb dX6_countOpenDays_16 rfl (lv_at hl 4 rfl) ?_
  obtain ⟨q3, hq3, hf⟩ := bnd hf
  refine hcS_i hx hb hml hown hts hKs hT hb0 hH (As := [rv E a_1, .int a_2]) (rest := []) (k_X6_firstDay l E K H.size a_1 a_2 q2.2 hq3) (gS m4_134 m4_135 m1_14 m4_136) hs_X6_firstDay ⟨Nat.le_of_ble_eq_true rfl, Nat.le_of_ble_eq_true rfl, rfl, rfl⟩ hl.1 rfl rc0 rfl dX6_countOpenDays_17 ⟨Nat.zero_le _, Nat.zero_le _⟩ (fun H locs hH => ?_)
  refine lv_istore (lv' := [(5, .int (q3.1)), (4, .int 0), (3, .int (q2.1)), (0, rv E (some o)), (1, rv E a_1), (2, .int a_2)]) hx hb dX6_countOpenDays_20 hl (by decide) rfl (fun ls hl => ?_)
  refine l_X6_countOpenDays_L22  C ho _ (fun v1_22 v2_22 v3_22 v4_22 v5_22 w4 H locs ls hH hl hf => ?_) fu a_1 a_2 q2.1 0 q3.1 q3.2 _ _ _ hH (lv_sub hl [4, 5, 2, 1, 0, 3] rfl) hf
  refine lv_iload hx hb dX6_countOpenDays_49 (lv_at hl 3 rfl) ?_
  exact hw_iret hx hb hret hf hH hlocks dX6_countOpenDays_51

theorem dX6_planWaiting_0 : decode cX6_planWaiting 0 = .ok (.aload_n 1, 1) := by decide +kernel
theorem dX6_planWaiting_1 : decode cX6_planWaiting 1 = .ok (.aload_n 0, 1) := by decide +kernel
theorem dX6_planWaiting_2 : decode cX6_planWaiting 2 = .ok (.getfield 21, 3) := by decide +kernel
theorem dX6_planWaiting_5 : decode cX6_planWaiting 5 = .ok (.invokevirtual 118, 3) := by decide +kernel
theorem dX6_planWaiting_8 : decode cX6_planWaiting 8 = .ok (.istore_n 3, 1) := by decide +kernel
theorem dX6_planWaiting_9 : decode cX6_planWaiting 9 = .ok (.iconst 0, 1) := by decide +kernel
theorem dX6_planWaiting_10 : decode cX6_planWaiting 10 = .ok (.istore 4, 2) := by decide +kernel
theorem dX6_planWaiting_12 : decode cX6_planWaiting 12 = .ok (.iconst 0, 1) := by decide +kernel
theorem dX6_planWaiting_13 : decode cX6_planWaiting 13 = .ok (.istore 5, 2) := by decide +kernel
theorem dX6_planWaiting_15 : decode cX6_planWaiting 15 = .ok (.iload 5, 2) := by decide +kernel
theorem dX6_planWaiting_17 : decode cX6_planWaiting 17 = .ok (.iload_n 3, 1) := by decide +kernel
theorem dX6_planWaiting_18 : decode cX6_planWaiting 18 = .ok (.if_icmp .ge 40, 3) := by decide +kernel
theorem dX6_planWaiting_21 : decode cX6_planWaiting 21 = .ok (.aload_n 0, 1) := by decide +kernel
theorem dX6_planWaiting_22 : decode cX6_planWaiting 22 = .ok (.aload_n 1, 1) := by decide +kernel
theorem dX6_planWaiting_23 : decode cX6_planWaiting 23 = .ok (.aload_n 0, 1) := by decide +kernel
theorem dX6_planWaiting_24 : decode cX6_planWaiting 24 = .ok (.getfield 21, 3) := by decide +kernel
theorem dX6_planWaiting_27 : decode cX6_planWaiting 27 = .ok (.iload 5, 2) := by decide +kernel
theorem dX6_planWaiting_29 : decode cX6_planWaiting 29 = .ok (.iaload, 1) := by decide +kernel
theorem dX6_planWaiting_30 : decode cX6_planWaiting 30 = .ok (.iload_n 2, 1) := by decide +kernel
theorem dX6_planWaiting_31 : decode cX6_planWaiting 31 = .ok (.invokevirtual 122, 3) := by decide +kernel
theorem dX6_planWaiting_34 : decode cX6_planWaiting 34 = .ok (.ifCond .eq 18, 3) := by decide +kernel
theorem dX6_planWaiting_37 : decode cX6_planWaiting 37 = .ok (.aload_n 0, 1) := by decide +kernel
theorem dX6_planWaiting_38 : decode cX6_planWaiting 38 = .ok (.aload_n 1, 1) := by decide +kernel
theorem dX6_planWaiting_39 : decode cX6_planWaiting 39 = .ok (.aload_n 0, 1) := by decide +kernel
theorem dX6_planWaiting_40 : decode cX6_planWaiting 40 = .ok (.getfield 21, 3) := by decide +kernel
theorem dX6_planWaiting_43 : decode cX6_planWaiting 43 = .ok (.iload 5, 2) := by decide +kernel
theorem dX6_planWaiting_45 : decode cX6_planWaiting 45 = .ok (.iaload, 1) := by decide +kernel
theorem dX6_planWaiting_46 : decode cX6_planWaiting 46 = .ok (.invokevirtual 126, 3) := by decide +kernel
theorem dX6_planWaiting_49 : decode cX6_planWaiting 49 = .ok (.iinc 4 1, 3) := by decide +kernel
theorem dX6_planWaiting_52 : decode cX6_planWaiting 52 = .ok (.iinc 5 1, 3) := by decide +kernel
theorem dX6_planWaiting_55 : decode cX6_planWaiting 55 = .ok (.goto (-40), 3) := by decide +kernel
theorem dX6_planWaiting_58 : decode cX6_planWaiting 58 = .ok (.iload 4, 2) := by decide +kernel
theorem dX6_planWaiting_60 : decode cX6_planWaiting 60 = .ok (.ireturn, 1) := by decide +kernel
theorem hd_X6_planWaiting : yX6_planWaiting.cls = RX6 ∧ yX6_planWaiting.cls ≠ "java/lang/invoke/MethodHandle" ∧ yX6_planWaiting.cls ≠ "java/lang/invoke/VarHandle" ∧ (parseMethodDescriptor yX6_planWaiting.desc).map (fun d => d.parameters.length) = some 2 := by decide +kernel
theorem hs_X6_planWaiting : yX6_planWaiting.cls ≠ "java/lang/invoke/MethodHandle" ∧ yX6_planWaiting.cls ≠ "java/lang/invoke/VarHandle" ∧ (parseMethodDescriptor yX6_planWaiting.desc).map (fun d => d.parameters.length) = some 2 := by decide +kernel
set_option maxHeartbeats 4000000 in
set_option maxRecDepth 100000 in
theorem l_X6_planWaiting_L15 (C : CX p l e s m args meth c cX6_planWaiting 6 RX6 (Option.some Jvm.ClassFile.FieldType.int) E) {o : Nat} (ho : K o = some (5, 0)) {r : Int32} {w' : Wd} (k : Option Nat → Int32 → Int32 → Int32 → Int32 → Wd → Option (Int32 × Wd)) (hk : ∀ (v1_15 : Option Nat) (v2_15 : Int32) (v3_15 : Int32) (v4_15 : Int32) (v5_15 : Int32) (w : Wd) (H : Heap) (locs : List Loc) (ls : Array Slot), HQ E K z w s H locs → lv_has ls 6 [(1, rv E v1_15), (2, .int v2_15), (3, .int v3_15), (4, .int v4_15), (5, .int v5_15), (0, rv E (some o))] → k v1_15 v2_15 v3_15 v4_15 v5_15 w = some (r, w') → W p l e ({ frames := 5, cells := 0, slots := 0, locals := 128 } : Room) s m args below meth c H locs 0 0 (MQ below (QI E K z w' r) args s 0 0 (hA E)) (F0 m 58 ls [])) : ∀ (n : Nat) (v1_15 : Option Nat) (v2_15 : Int32) (v3_15 : Int32) (v4_15 : Int32) (v5_15 : Int32) (w : Wd) (H : Heap) (locs : List Loc) (ls : Array Slot), HQ E K z w s H locs → lv_has ls 6 [(1, rv E v1_15), (2, .int v2_15), (3, .int v3_15), (4, .int v4_15), (5, .int v5_15), (0, rv E (some o))] → f_X6_planWaiting_L15 K o k n v1_15 v2_15 v3_15 v4_15 v5_15 w = some (r, w') → W p l e ({ frames := 5, cells := 0, slots := 0, locals := 128 } : Room) s m args below meth c H locs 0 0 (MQ below (QI E K z w' r) args s 0 0 (hA E)) (F0 m 15 ls []) := by
  obtain ⟨hx, hb, hml, hown, hts, hKs, hT, hb0, hlocks, hret⟩ := id C
  intro n
  induction n with
  | zero =>
    intro v1_15 v2_15 v3_15 v4_15 v5_15 w H locs ls hH hl hf
    cases hf
  | succ n ih =>
    intro v1_15 v2_15 v3_15 v4_15 v5_15 w H locs ls hH hl hf
    rw [f_X6_planWaiting_L15] at hf
    refine lv_iload hx hb dX6_planWaiting_15 (lv_at hl 4 rfl) ?_
    refine lv_iload_n hx hb dX6_planWaiting_17 rfl (lv_at hl 2 rfl) ?_
    refine lv_icmp_ge (tgt := 58) hx hb dX6_planWaiting_18 (by decide) (fun c4 => ?_) (fun c4 => ?_)
    · replace hf := (if_pos c4).symm.trans hf
      exact hk v1_15 v2_15 v3_15 v4_15 v5_15 _ _ _ _ hH (lv_sub hl [0, 1, 2, 3, 4, 5] rfl) hf
    · replace hf := (if_neg c4).symm.trans hf
      refine hl_aload_n hx hb dX6_planWaiting_21 rfl (lv_at hl 5 rfl) ?_
      refine hl_aload_n hx hb dX6_planWaiting_22 rfl (lv_at hl 0 rfl) ?_
      refine hl_aload_n hx hb dX6_planWaiting_23 rfl (lv_at hl 5 rfl) ?_
      refine g6_3 hx hb hts hown hKs hH rfl ho m2_159 dX6_planWaiting_24 ?_
      refine lv_iload hx hb dX6_planWaiting_27 (lv_at hl 4 rfl) ?_
      obtain ⟨a5, ha5, hf⟩ := bnd hf
      replace ha5 := cha_some ha5
      obtain ⟨j6, hj6, hf⟩ := bnd hf
      refine hw_iald hx hb hKs hH ha5.1 ha5.2 hj6 dX6_planWaiting_29 ?_
      refine lv_iload_n hx hb dX6_planWaiting_30 rfl (lv_at hl 1 rfl) ?_
      obtain ⟨q7, hq7, hf⟩ := bnd hf
      refine hcV_i hx hb hml hown hts hKs hT hb0 hH (As := [rv E v1_15, .int ((aI w a5.1 j6)), .int v2_15]) (rest := []) (k_X6_findFirst l E K H.size o v1_15 (aI w a5.1 j6) v2_15 w ho hq7) (gV m4_111 m4_112 m4_113 m1_14 m4_114) hd_X6_findFirst ⟨Nat.le_of_ble_eq_true rfl, Nat.le_of_ble_eq_true rfl, rfl, rfl⟩ rfl ho rfl rfl rfl hl.1 rfl rc0 rfl dX6_planWaiting_31 ⟨Nat.zero_le _, Nat.zero_le _⟩ (fun H locs hH => ?_)
      refine lv_if_eq (tgt := 52) hx hb dX6_planWaiting_34 (by decide) (fun c8 => ?_) (fun c8 => ?_)
      · replace hf := (if_pos c8).symm.trans hf
        refine lv_iinc (v := (v5_15 + 1)) (lv' := [(5, .int ((v5_15 + 1))), (1, rv E v1_15), (2, .int v2_15), (3, .int v3_15), (4, .int v4_15), (0, rv E (some o))]) hx hb dX6_planWaiting_52 hl (k := 4) rfl rfl (by decide) rfl (fun ls hl => ?_)
        refine lv_goto (tgt := 15) hx hb dX6_planWaiting_55 (by decide) ?_
        exact ih v1_15 v2_15 v3_15 v4_15 (v5_15 + 1) _ _ _ _ hH (lv_sub hl [1, 2, 3, 4, 0, 5] rfl) hf
      · replace hf := (if_neg c8).symm.trans hf
        refine hl_aload_n hx hb dX6_planWaiting_37 rfl (lv_at hl 5 rfl) ?_
        refine hl_aload_n hx hb dX6_planWaiting_38 rfl (lv_at hl 0 rfl) ?_
        refine hl_aload_n hx hb dX6_planWaiting_39 rfl (lv_at hl 5 rfl) ?_
        refine g6_3 hx hb hts hown hKs hH rfl ho m2_159 dX6_planWaiting_40 ?_
        refine lv_iload hx hb dX6_planWaiting_43 (lv_at hl 4 rfl) ?_
        obtain ⟨a9, ha9, hf⟩ := bnd hf
        replace ha9 := cha_some ha9
        obtain ⟨j10, hj10, hf⟩ := bnd hf
        refine hw_iald hx hb hKs hH ha9.1 ha9.2 hj10 dX6_planWaiting_45 ?_
        obtain ⟨q11, hq11, hf⟩ := bnd hf
        refine hcV_v hx hb hml hown hts hKs hT hb0 hH (As := [rv E v1_15, .int ((aI q7.2 a9.1 j10))]) (rest := []) (k_X6_setFound l E K H.size o v1_15 (aI q7.2 a9.1 j10) q7.2 ho hq11) (gV m4_182 m4_183 m4_184 m1_14 m4_185) hd_X6_setFound ⟨Nat.le_of_ble_eq_true rfl, Nat.le_of_ble_eq_true rfl, rfl, rfl⟩ rfl ho rfl rfl rfl hl.1 rfl rc0 rfl dX6_planWaiting_46 ⟨Nat.zero_le _, Nat.zero_le _⟩ (fun H locs hH => ?_)
        refine lv_iinc (v := (v4_15 + 1)) (lv' := [(4, .int ((v4_15 + 1))), (1, rv E v1_15), (2, .int v2_15), (3, .int v3_15), (5, .int v5_15), (0, rv E (some o))]) hx hb dX6_planWaiting_49 hl (k := 3) rfl rfl (by decide) rfl (fun ls hl => ?_)
        refine lv_iinc (v := (v5_15 + 1)) (lv' := [(5, .int ((v5_15 + 1))), (4, .int ((v4_15 + 1))), (1, rv E v1_15), (2, .int v2_15), (3, .int v3_15), (0, rv E (some o))]) hx hb dX6_planWaiting_52 hl (k := 4) rfl rfl (by decide) rfl (fun ls hl => ?_)
        refine lv_goto (tgt := 15) hx hb dX6_planWaiting_55 (by decide) ?_
        exact ih v1_15 v2_15 v3_15 (v4_15 + 1) (v5_15 + 1) _ _ _ _ hH (lv_sub hl [2, 3, 4, 1, 0, 5] rfl) hf
set_option maxHeartbeats 4000000 in
set_option maxRecDepth 100000 in
theorem k_X6_planWaiting (l : Launch) (E : Ev) (K : Kd) (z : Nat) (o : Nat) (a_1 : Option Nat) (a_2 : Int32) (w : Wd) (ho : K o = some (5, 0)) {r : Int32} {w' : Wd} (hf : f_X6_planWaiting K o a_1 a_2 w = some (r, w')) : Met l yX6_planWaiting (Cond.code yX6_planWaiting cX6_planWaiting 6 (Option.some Jvm.ClassFile.FieldType.int) :: bt) ({ frames := 5, cells := 0, slots := 0, locals := 128 } : Room) (va_Pc [rv E (some o), rv E a_1, .int a_2] (HB E K w z)) (QI E K z w' r) 0 0 (hA E) := by
  refine Met.ofW (cc := cX6_planWaiting) (maxL := 6) (ret := (Option.some Jvm.ClassFile.FieldType.int)) (by decide) rfl ?_
  intro p e s m args below meth c s₁ B hml hv
  obtain ⟨rfl, hz, hP, hKs, hT, hb0⟩ := hv
  have C : CX p l e s m _ meth c cX6_planWaiting 6 RX6 (Option.some Jvm.ClassFile.FieldType.int) E := ⟨B.exec, B.bytes, hml, findClass_of_methodNamed B.named, fun w h => atoms_spec (ws := Cond.code yX6_planWaiting cX6_planWaiting 6 (Option.some Jvm.ClassFile.FieldType.int) :: bt) B.pre w (List.mem_cons_of_mem _ h), hKs, hT, by rw [hz]; exact hb0, B.notSynchronized, B.returns⟩
  have hH : HQ E K z w s s.heap [] := ⟨hP, va_S.rf, hz⟩
  obtain ⟨hx, hb, hml, hown, hts, hKs, hT, hb0, hlocks, hret⟩ := id C
  have hl := lv_entry [rv E (some o), rv E a_1, .int a_2] (n := 6) (by simp [lg_len_nil, lg_len_i, lg_len_j, lg_len_q])
  rw [lg_entry_eq]
  generalize (lg_sl [rv E (some o), rv E a_1, .int a_2] ++ List.replicate (6 - (lg_sl [rv E (some o), rv E a_1, .int a_2]).length) Slot.unset).toArray = ls at hl ⊢
  replace hl : lv_has ls 6 [(0, rv E (some o)), (1, rv E a_1), (2, .int a_2)] := by simpa only [lv_args, cat_q, cat_i, cat_j, reduceIte, Nat.reduceEqDiff, Nat.reduceAdd, Nat.zero_add] using hl
  generalize s.heap = H at hH ⊢
  unfold f_X6_planWaiting at hf
  refine hl_aload_n hx hb dX6_planWaiting_0 rfl (lv_at hl 1 rfl) ?_
  refine hl_aload_n hx hb dX6_planWaiting_1 rfl (lv_at hl 0 rfl) ?_
  refine g6_3 hx hb hts hown hKs hH rfl ho m2_159 dX6_planWaiting_2 ?_
  obtain ⟨a1, ha1, hf⟩ := bnd hf
  replace ha1 := chk_some ha1
  obtain ⟨q2, hq2, hf⟩ := bnd hf
  refine hcV_i hx hb hml hown hts hKs hT hb0 hH (As := [rv E (wR w 603 o)]) (rest := []) (k_X10_sortWaiting l E K H.size a1 (wR w 603 o) w ha1.2 hq2) (gV m4_100 m4_101 m4_102 m1_12 m4_103) hd_X10_sortWaiting ⟨Nat.le_of_ble_eq_true rfl, Nat.le_of_ble_eq_true rfl, rfl, rfl⟩ ha1.1 ha1.2 rfl rfl rfl hl.1 rfl rc0 rfl dX6_planWaiting_5 ⟨Nat.zero_le _, Nat.zero_le _⟩ (fun H locs hH => ?_)
  refine lv_istore_n (lv' := [(3, .int (q2.1)), (0, rv E (some o)), (1, rv E a_1), (2, .int a_2)]) hx hb dX6_planWaiting_8 rfl hl (by decide) rfl (fun ls hl => ?_)
  refine lv_iconst (v := 0) hx hb dX6_planWaiting_9 (by decide) ?_
  refine lv_istore (lv' := [(4, .int 0), (3, .int (q2.1)), (0, rv E (some o)), (1, rv E a_1), (2, .int a_2)]) hx hb dX6_planWaiting_10 hl (by decide) rfl (fun ls hl => ?_)
  refine lv_iconst (v := 0) hx hb dX6_planWaiting_12 (by decide) ?_
  refine lv_istore (lv' := [(5, .int 0), (4, .int 0), (3, .int (q2.1)), (0, rv E (some o)), (1, rv E a_1), (2, .int a_2)]) hx hb dX6_planWaiting_13 hl (by decide) rfl (fun ls hl => ?_)
  refine l_X6_planWaiting_L15  C ho _ (fun v1_15 v2_15 v3_15 v4_15 v5_15 w3 H locs ls hH hl hf => ?_) fu a_1 a_2 q2.1 0 0 q2.2 _ _ _ hH (lv_sub hl [4, 5, 2, 1, 0, 3] rfl) hf
  refine lv_iload hx hb dX6_planWaiting_58 (lv_at hl 3 rfl) ?_
  exact hw_iret hx hb hret hf hH hlocks dX6_planWaiting_60

theorem dX12_opening_0 : decode cX12_opening 0 = .ok (.aload_n 0, 1) := by decide +kernel
theorem dX12_opening_1 : decode cX12_opening 1 = .ok (.iconst 3, 1) := by decide +kernel
theorem dX12_opening_2 : decode cX12_opening 2 = .ok (.iload_n 1, 1) := by decide +kernel
theorem dX12_opening_3 : decode cX12_opening 3 = .ok (.invokevirtual 175, 3) := by decide +kernel
theorem dX12_opening_6 : decode cX12_opening 6 = .ok (.iload_n 2, 1) := by decide +kernel
theorem dX12_opening_7 : decode cX12_opening 7 = .ok (.ifCond .lt 8, 3) := by decide +kernel
theorem dX12_opening_10 : decode cX12_opening 10 = .ok (.iload_n 2, 1) := by decide +kernel
theorem dX12_opening_11 : decode cX12_opening 11 = .ok (.iconst 3, 1) := by decide +kernel
theorem dX12_opening_12 : decode cX12_opening 12 = .ok (.if_icmp .le 11, 3) := by decide +kernel
theorem dX12_opening_15 : decode cX12_opening 15 = .ok (.new 193, 3) := by decide +kernel
theorem dX12_opening_18 : decode cX12_opening 18 = .ok (.dup, 1) := by decide +kernel
theorem dX12_opening_19 : decode cX12_opening 19 = .ok (.invokespecial 195, 3) := by decide +kernel
theorem dX12_opening_22 : decode cX12_opening 22 = .ok (.athrow, 1) := by decide +kernel
theorem dX12_opening_23 : decode cX12_opening 23 = .ok (.aload_n 0, 1) := by decide +kernel
theorem dX12_opening_24 : decode cX12_opening 24 = .ok (.iload_n 1, 1) := by decide +kernel
theorem dX12_opening_25 : decode cX12_opening 25 = .ok (.invokevirtual 280, 3) := by decide +kernel
theorem dX12_opening_28 : decode cX12_opening 28 = .ok (.aload_n 0, 1) := by decide +kernel
theorem dX12_opening_29 : decode cX12_opening 29 = .ok (.getfield 52, 3) := by decide +kernel
theorem dX12_opening_32 : decode cX12_opening 32 = .ok (.aload_n 0, 1) := by decide +kernel
theorem dX12_opening_33 : decode cX12_opening 33 = .ok (.getfield 35, 3) := by decide +kernel
theorem dX12_opening_36 : decode cX12_opening 36 = .ok (.iload_n 1, 1) := by decide +kernel
theorem dX12_opening_37 : decode cX12_opening 37 = .ok (.iconst 0, 1) := by decide +kernel
theorem dX12_opening_38 : decode cX12_opening 38 = .ok (.invokevirtual 287, 3) := by decide +kernel
theorem dX12_opening_41 : decode cX12_opening 41 = .ok (.ifCond .ne 5, 3) := by decide +kernel
theorem dX12_opening_44 : decode cX12_opening 44 = .ok (.iconst (-1), 1) := by decide +kernel
theorem dX12_opening_45 : decode cX12_opening 45 = .ok (.ireturn, 1) := by decide +kernel
theorem dX12_opening_46 : decode cX12_opening 46 = .ok (.iload_n 2, 1) := by decide +kernel
theorem dX12_opening_47 : decode cX12_opening 47 = .ok (.tableswitch 49 0 2 #[25, 33, 41], 25) := by decide +kernel
theorem dX12_opening_72 : decode cX12_opening 72 = .ok (.aload_n 0, 1) := by decide +kernel
theorem dX12_opening_73 : decode cX12_opening 73 = .ok (.getfield 52, 3) := by decide +kernel
theorem dX12_opening_76 : decode cX12_opening 76 = .ok (.getfield 291, 3) := by decide +kernel
theorem dX12_opening_79 : decode cX12_opening 79 = .ok (.ireturn, 1) := by decide +kernel
theorem dX12_opening_80 : decode cX12_opening 80 = .ok (.aload_n 0, 1) := by decide +kernel
theorem dX12_opening_81 : decode cX12_opening 81 = .ok (.getfield 52, 3) := by decide +kernel
theorem dX12_opening_84 : decode cX12_opening 84 = .ok (.getfield 292, 3) := by decide +kernel
theorem dX12_opening_87 : decode cX12_opening 87 = .ok (.ireturn, 1) := by decide +kernel
theorem dX12_opening_88 : decode cX12_opening 88 = .ok (.aload_n 0, 1) := by decide +kernel
theorem dX12_opening_89 : decode cX12_opening 89 = .ok (.getfield 52, 3) := by decide +kernel
theorem dX12_opening_92 : decode cX12_opening 92 = .ok (.getfield 293, 3) := by decide +kernel
theorem dX12_opening_95 : decode cX12_opening 95 = .ok (.ireturn, 1) := by decide +kernel
theorem dX12_opening_96 : decode cX12_opening 96 = .ok (.aload_n 0, 1) := by decide +kernel
theorem dX12_opening_97 : decode cX12_opening 97 = .ok (.getfield 52, 3) := by decide +kernel
theorem dX12_opening_100 : decode cX12_opening 100 = .ok (.getfield 294, 3) := by decide +kernel
theorem dX12_opening_103 : decode cX12_opening 103 = .ok (.ireturn, 1) := by decide +kernel
theorem hd_X12_opening : yX12_opening.cls = RX12 ∧ yX12_opening.cls ≠ "java/lang/invoke/MethodHandle" ∧ yX12_opening.cls ≠ "java/lang/invoke/VarHandle" ∧ (parseMethodDescriptor yX12_opening.desc).map (fun d => d.parameters.length) = some 2 := by decide +kernel
theorem hs_X12_opening : yX12_opening.cls ≠ "java/lang/invoke/MethodHandle" ∧ yX12_opening.cls ≠ "java/lang/invoke/VarHandle" ∧ (parseMethodDescriptor yX12_opening.desc).map (fun d => d.parameters.length) = some 2 := by decide +kernel
set_option maxHeartbeats 4000000 in
set_option maxRecDepth 100000 in
theorem k_X12_opening (l : Launch) (hls : l.stackTraces = false) (E : Ev) (K : Kd) (z : Nat) (o : Nat) (a_1 : Int32) (a_2 : Int32) (w : Wd) (ho : K o = some (10, 0)) {r : Int32 ⊕ Nat} {w' : Wd} (hf : f_X12_opening K o a_1 a_2 w = some (r, w')) : vx_Met l yX12_opening (Cond.code yX12_opening cX12_opening 3 (Option.some Jvm.ClassFile.FieldType.int) :: bt) ({ frames := 7, cells := 2, slots := 12, locals := 128 } : Room) (va_Pc [rv E (some o), .int a_1, .int a_2] (HB E K w z)) (XI E K z w' r) (XX E K w' r) 2 12 (hA E) := by
  refine vx_ofW (cc := cX12_opening) (maxL := 3) (ret := (Option.some Jvm.ClassFile.FieldType.int)) (by decide) rfl ?_
  intro p e s m args below meth c s₁ B hml hout hv
  obtain ⟨rfl, hz, hP, hKs, hT, hb0⟩ := hv
  have C : CX p l e s m _ meth c cX12_opening 3 RX12 (Option.some Jvm.ClassFile.FieldType.int) E := ⟨B.exec, B.bytes, hml, findClass_of_methodNamed B.named, fun w h => atoms_spec (ws := Cond.code yX12_opening cX12_opening 3 (Option.some Jvm.ClassFile.FieldType.int) :: bt) B.pre w (List.mem_cons_of_mem _ h), hKs, hT, by rw [hz]; exact hb0, B.notSynchronized, B.returns⟩
  have hH : HQ E K z w s s.heap [] := ⟨hP, va_S.rf, hz⟩
  obtain ⟨hx, hb, hml, hown, hts, hKs, hT, hb0, hlocks, hret⟩ := id C
  have hl := lv_entry [rv E (some o), .int a_1, .int a_2] (n := 3) (by simp [lg_len_nil, lg_len_i, lg_len_j, lg_len_q])
  rw [lg_entry_eq]
  generalize (lg_sl [rv E (some o), .int a_1, .int a_2] ++ List.replicate (3 - (lg_sl [rv E (some o), .int a_1, .int a_2]).length) Slot.unset).toArray = ls at hl ⊢
  replace hl : lv_has ls 3 [(0, rv E (some o)), (1, .int a_1), (2, .int a_2)] := by simpa only [lv_args, cat_q, cat_i, cat_j, reduceIte, Nat.reduceEqDiff, Nat.reduceAdd, Nat.zero_add] using hl
  generalize s.heap = H at hH ⊢
  unfold f_X12_opening at hf
  refine hl_aload_n hx hb dX12_opening_0 rfl (lv_at hl 0 rfl) ?_
  refine lv_iconst (v := 3) hx hb dX12_opening_1 (by decide) ?_
  refine lv_iload_n hx hb dX12_opening_2 rfl (lv_at hl 1 rfl) ?_
  obtain ⟨q1, hq1, hf⟩ := bnd hf
  refine hxV_v hx hb hml hown hts hKs hT hb0 hH (As := [.int 3, .int a_1]) (rest := []) (k_X12_requireExisting l hls E K H.size o 3 a_1 w ho hq1) (gV m5_91 m5_93 ms_37 m1_1 m5_94) hd_X12_requireExisting ⟨Nat.le_of_ble_eq_true rfl, Nat.le_of_ble_eq_true rfl, rfl, rfl⟩ rfl ho rfl rfl rfl hl.1 rfl rc0 rfl dX12_opening_3 ⟨Nat.le_of_ble_eq_true rfl, Nat.le_of_ble_eq_true rfl⟩ ⟨Nat.le_of_ble_eq_true rfl, Nat.le_of_ble_eq_true rfl⟩ hout hlocks (fun x hx9 => (fun h9 => ⟨(congrArg Prod.fst h9).symm, (congrArg Prod.snd h9).symm⟩) (Option.some.inj ((xk_inr hx9).symm.trans hf))) (fun v2 hv2 H locs hH => ?_)
  replace hf := (xk_inl hv2).symm.trans hf
  refine lv_iload_n hx hb dX12_opening_6 rfl (lv_at hl 2 rfl) ?_
  refine lv_if_lt (tgt := 15) hx hb dX12_opening_7 (by decide) (fun c3 => ?_) (fun c3 => ?_)
  · replace hf := (if_pos c3).symm.trans hf
    exact hx_throw hx hb hls (code := 1) hml hl.1 hown hts hKs hT hb0 hH (by decide) rfl m5_95 m1_28 hat_RX12_195 dX12_opening_15 dX12_opening_18 dX12_opening_19 dX12_opening_22 hout (Nat.le_of_ble_eq_true rfl) rc0 (Nat.le_of_ble_eq_true rfl) (Nat.le_of_ble_eq_true rfl) (Nat.le_of_ble_eq_true rfl) hlocks hf (Nat.le_of_ble_eq_true rfl) (Nat.le_of_ble_eq_true rfl)
  · replace hf := (if_neg c3).symm.trans hf
    refine lv_iload_n hx hb dX12_opening_10 rfl (lv_at hl 2 rfl) ?_
    refine lv_iconst (v := 3) hx hb dX12_opening_11 (by decide) ?_
    refine lv_icmp_le (tgt := 23) hx hb dX12_opening_12 (by decide) (fun c4 => ?_) (fun c4 => ?_)
    · replace hf := (if_pos c4).symm.trans hf
      refine hl_aload_n hx hb dX12_opening_23 rfl (lv_at hl 0 rfl) ?_
      refine lv_iload_n hx hb dX12_opening_24 rfl (lv_at hl 1 rfl) ?_
      obtain ⟨q5, hq5, hf⟩ := bnd hf
      refine hxV_v hx hb hml hown hts hKs hT hb0 hH (As := [.int a_1]) (rest := []) (k_X12_requireUnfinished l hls E K H.size o a_1 q1.2 ho hq5) (gV m5_191 m5_193 ms_40 m1_1 m5_194) hd_X12_requireUnfinished ⟨Nat.le_of_ble_eq_true rfl, Nat.le_of_ble_eq_true rfl, rfl, rfl⟩ rfl ho rfl rfl rfl hl.1 rfl rc0 rfl dX12_opening_25 ⟨Nat.le_of_ble_eq_true rfl, Nat.le_of_ble_eq_true rfl⟩ ⟨Nat.le_of_ble_eq_true rfl, Nat.le_of_ble_eq_true rfl⟩ hout hlocks (fun x hx9 => (fun h9 => ⟨(congrArg Prod.fst h9).symm, (congrArg Prod.snd h9).symm⟩) (Option.some.inj ((xk_inr hx9).symm.trans hf))) (fun v6 hv6 H locs hH => ?_)
      replace hf := (xk_inl hv6).symm.trans hf
      refine hl_aload_n hx hb dX12_opening_28 rfl (lv_at hl 0 rfl) ?_
      refine g12_11 hx hb hts hown hKs hH rfl ho m2_230 dX12_opening_29 ?_
      refine hl_aload_n hx hb dX12_opening_32 rfl (lv_at hl 0 rfl) ?_
      refine g12_5 hx hb hts hown hKs hH rfl ho m2_224 dX12_opening_33 ?_
      refine lv_iload_n hx hb dX12_opening_36 rfl (lv_at hl 1 rfl) ?_
      refine lv_iconst (v := 0) hx hb dX12_opening_37 (by decide) ?_
      obtain ⟨a7, ha7, hf⟩ := bnd hf
      replace ha7 := chk_some ha7
      obtain ⟨q8, hq8, hf⟩ := bnd hf
      refine hcV_i hx hb hml hown hts hKs hT hb0 hH (As := [rv E (wR q5.2 1205 o), .int a_1, .int 0]) (rest := []) (k_X6_findFirst l E K H.size a7 (wR q5.2 1205 o) a_1 0 q5.2 ha7.2 hq8) (gV m5_221 m4_112 m4_113 m1_14 m4_114) hd_X6_findFirst ⟨Nat.le_of_ble_eq_true rfl, Nat.le_of_ble_eq_true rfl, rfl, rfl⟩ ha7.1 ha7.2 rfl rfl rfl hl.1 rfl rc0 rfl dX12_opening_38 ⟨Nat.le_of_ble_eq_true rfl, Nat.le_of_ble_eq_true rfl⟩ (fun H locs hH => ?_)
      refine lv_if_ne (tgt := 46) hx hb dX12_opening_41 (by decide) (fun c9 => ?_) (fun c9 => ?_)
      · replace hf := (if_neg c9).symm.trans hf
        refine lv_iload_n hx hb dX12_opening_46 rfl (lv_at hl 2 rfl) ?_
        by_cases c10 : (a_2 < 0 ∨ 2 < a_2)
        · replace hf := (if_pos c10).symm.trans hf
          refine hl_tabOut (tgt := 96) hx hb dX12_opening_47 c10 (by decide) (by decide) (by decide) ?_
          refine hl_aload_n hx hb dX12_opening_96 rfl (lv_at hl 0 rfl) ?_
          refine g12_11 hx hb hts hown hKs hH rfl ho m2_230 dX12_opening_97 ?_
          obtain ⟨a11, ha11, hf⟩ := bnd hf
          replace ha11 := chk_some ha11
          refine gn6_11 hx hb hts hown hKs hH ha11.1 ha11.2 m2_171 dX12_opening_100 ?_
          exact hx_iret hx hb (Nat.le_of_ble_eq_true rfl) (Nat.le_of_ble_eq_true rfl) hret hf hH hlocks dX12_opening_103
        replace hf := (if_neg c10).symm.trans hf
        by_cases c12 : a_2 = 0
        · replace hf := (if_pos c12).symm.trans hf
          refine hl_tabIn (tgt := 72) hx hb dX12_opening_47 c12 (by decide) (by decide) rfl (by decide) ?_
          refine hl_aload_n hx hb dX12_opening_72 rfl (lv_at hl 0 rfl) ?_
          refine g12_11 hx hb hts hown hKs hH rfl ho m2_230 dX12_opening_73 ?_
          obtain ⟨a13, ha13, hf⟩ := bnd hf
          replace ha13 := chk_some ha13
          refine gn6_8 hx hb hts hown hKs hH ha13.1 ha13.2 m2_165 dX12_opening_76 ?_
          exact hx_iret hx hb (Nat.le_of_ble_eq_true rfl) (Nat.le_of_ble_eq_true rfl) hret hf hH hlocks dX12_opening_79
        replace hf := (if_neg c12).symm.trans hf
        by_cases c14 : a_2 = 1
        · replace hf := (if_pos c14).symm.trans hf
          refine hl_tabIn (tgt := 80) hx hb dX12_opening_47 c14 (by decide) (by decide) rfl (by decide) ?_
          refine hl_aload_n hx hb dX12_opening_80 rfl (lv_at hl 0 rfl) ?_
          refine g12_11 hx hb hts hown hKs hH rfl ho m2_230 dX12_opening_81 ?_
          obtain ⟨a15, ha15, hf⟩ := bnd hf
          replace ha15 := chk_some ha15
          refine gn6_9 hx hb hts hown hKs hH ha15.1 ha15.2 m2_167 dX12_opening_84 ?_
          exact hx_iret hx hb (Nat.le_of_ble_eq_true rfl) (Nat.le_of_ble_eq_true rfl) hret hf hH hlocks dX12_opening_87
        replace hf := (if_neg c14).symm.trans hf
        by_cases c16 : a_2 = 2
        · replace hf := (if_pos c16).symm.trans hf
          refine hl_tabIn (tgt := 88) hx hb dX12_opening_47 c16 (by decide) (by decide) rfl (by decide) ?_
          refine hl_aload_n hx hb dX12_opening_88 rfl (lv_at hl 0 rfl) ?_
          refine g12_11 hx hb hts hown hKs hH rfl ho m2_230 dX12_opening_89 ?_
          obtain ⟨a17, ha17, hf⟩ := bnd hf
          replace ha17 := chk_some ha17
          refine gn6_10 hx hb hts hown hKs hH ha17.1 ha17.2 m2_169 dX12_opening_92 ?_
          exact hx_iret hx hb (Nat.le_of_ble_eq_true rfl) (Nat.le_of_ble_eq_true rfl) hret hf hH hlocks dX12_opening_95
        replace hf := (if_neg c16).symm.trans hf
        cases hf
      · replace hf := (if_pos c9).symm.trans hf
        refine lv_iconst (v := (-1)) hx hb dX12_opening_44 (by decide) ?_
        exact hx_iret hx hb (Nat.le_of_ble_eq_true rfl) (Nat.le_of_ble_eq_true rfl) hret hf hH hlocks dX12_opening_45
    · replace hf := (if_neg c4).symm.trans hf
      exact hx_throw hx hb hls (code := 1) hml hl.1 hown hts hKs hT hb0 hH (by decide) rfl m5_95 m1_28 hat_RX12_195 dX12_opening_15 dX12_opening_18 dX12_opening_19 dX12_opening_22 hout (Nat.le_of_ble_eq_true rfl) rc0 (Nat.le_of_ble_eq_true rfl) (Nat.le_of_ble_eq_true rfl) (Nat.le_of_ble_eq_true rfl) hlocks hf (Nat.le_of_ble_eq_true rfl) (Nat.le_of_ble_eq_true rfl)

theorem dX12_openDays_0 : decode cX12_openDays 0 = .ok (.aload_n 0, 1) := by decide +kernel
theorem dX12_openDays_1 : decode cX12_openDays 1 = .ok (.iconst 3, 1) := by decide +kernel
theorem dX12_openDays_2 : decode cX12_openDays 2 = .ok (.iload_n 1, 1) := by decide +kernel
theorem dX12_openDays_3 : decode cX12_openDays 3 = .ok (.invokevirtual 175, 3) := by decide +kernel
theorem dX12_openDays_6 : decode cX12_openDays 6 = .ok (.aload_n 0, 1) := by decide +kernel
theorem dX12_openDays_7 : decode cX12_openDays 7 = .ok (.iload_n 1, 1) := by decide +kernel
theorem dX12_openDays_8 : decode cX12_openDays 8 = .ok (.invokevirtual 280, 3) := by decide +kernel
theorem dX12_openDays_11 : decode cX12_openDays 11 = .ok (.aload_n 0, 1) := by decide +kernel
theorem dX12_openDays_12 : decode cX12_openDays 12 = .ok (.getfield 52, 3) := by decide +kernel
theorem dX12_openDays_15 : decode cX12_openDays 15 = .ok (.aload_n 0, 1) := by decide +kernel
theorem dX12_openDays_16 : decode cX12_openDays 16 = .ok (.getfield 35, 3) := by decide +kernel
theorem dX12_openDays_19 : decode cX12_openDays 19 = .ok (.iload_n 1, 1) := by decide +kernel
theorem dX12_openDays_20 : decode cX12_openDays 20 = .ok (.invokevirtual 295, 3) := by decide +kernel
theorem dX12_openDays_23 : decode cX12_openDays 23 = .ok (.ireturn, 1) := by decide +kernel
theorem hd_X12_openDays : yX12_openDays.cls = RX12 ∧ yX12_openDays.cls ≠ "java/lang/invoke/MethodHandle" ∧ yX12_openDays.cls ≠ "java/lang/invoke/VarHandle" ∧ (parseMethodDescriptor yX12_openDays.desc).map (fun d => d.parameters.length) = some 1 := by decide +kernel
theorem hs_X12_openDays : yX12_openDays.cls ≠ "java/lang/invoke/MethodHandle" ∧ yX12_openDays.cls ≠ "java/lang/invoke/VarHandle" ∧ (parseMethodDescriptor yX12_openDays.desc).map (fun d => d.parameters.length) = some 1 := by decide +kernel
set_option maxHeartbeats 4000000 in
set_option maxRecDepth 100000 in
theorem k_X12_openDays (l : Launch) (hls : l.stackTraces = false) (E : Ev) (K : Kd) (z : Nat) (o : Nat) (a_1 : Int32) (w : Wd) (ho : K o = some (10, 0)) {r : Int32 ⊕ Nat} {w' : Wd} (hf : f_X12_openDays K o a_1 w = some (r, w')) : vx_Met l yX12_openDays (Cond.code yX12_openDays cX12_openDays 2 (Option.some Jvm.ClassFile.FieldType.int) :: bt) ({ frames := 7, cells := 2, slots := 12, locals := 128 } : Room) (va_Pc [rv E (some o), .int a_1] (HB E K w z)) (XI E K z w' r) (XX E K w' r) 2 12 (hA E) := by
  refine vx_ofW (cc := cX12_openDays) (maxL := 2) (ret := (Option.some Jvm.ClassFile.FieldType.int)) (by decide) rfl ?_
  intro p e s m args below meth c s₁ B hml hout hv
  obtain ⟨rfl, hz, hP, hKs, hT, hb0⟩ := hv
  have C : CX p l e s m _ meth c cX12_openDays 2 RX12 (Option.some Jvm.ClassFile.FieldType.int) E := ⟨B.exec, B.bytes, hml, findClass_of_methodNamed B.named, fun w h => atoms_spec (ws := Cond.code yX12_openDays cX12_openDays 2 (Option.some Jvm.ClassFile.FieldType.int) :: bt) B.pre w (List.mem_cons_of_mem _ h), hKs, hT, by rw [hz]; exact hb0, B.notSynchronized, B.returns⟩
  have hH : HQ E K z w s s.heap [] := ⟨hP, va_S.rf, hz⟩
  obtain ⟨hx, hb, hml, hown, hts, hKs, hT, hb0, hlocks, hret⟩ := id C
  have hl := lv_entry [rv E (some o), .int a_1] (n := 2) (by simp [lg_len_nil, lg_len_i, lg_len_j, lg_len_q])
  rw [lg_entry_eq]
  generalize (lg_sl [rv E (some o), .int a_1] ++ List.replicate (2 - (lg_sl [rv E (some o), .int a_1]).length) Slot.unset).toArray = ls at hl ⊢
  replace hl : lv_has ls 2 [(0, rv E (some o)), (1, .int a_1)] := by simpa only [lv_args, cat_q, cat_i, cat_j, reduceIte, Nat.reduceEqDiff, Nat.reduceAdd, Nat.zero_add] using hl
  generalize s.heap = H at hH ⊢
  unfold f_X12_openDays at hf
  refine hl_aload_n hx hb dX12_openDays_0 rfl (lv_at hl 0 rfl) ?_
  refine lv_iconst (v := 3) hx hb dX12_openDays_1 (by decide) ?_
  refine lv_iload_n hx hb dX12_openDays_2 rfl (lv_at hl 1 rfl) ?_
  obtain ⟨q1, hq1, hf⟩ := bnd hf
  refine hxV_v hx hb hml hown hts hKs hT hb0 hH (As := [.int 3, .int a_1]) (rest := []) (k_X12_requireExisting l hls E K H.size o 3 a_1 w ho hq1) (gV m5_91 m5_93 ms_37 m1_1 m5_94) hd_X12_requireExisting ⟨Nat.le_of_ble_eq_true rfl, Nat.le_of_ble_eq_true rfl, rfl, rfl⟩ rfl ho rfl rfl rfl hl.1 rfl rc0 rfl dX12_openDays_3 ⟨Nat.le_of_ble_eq_true rfl, Nat.le_of_ble_eq_true rfl⟩ ⟨Nat.le_of_ble_eq_true rfl, Nat.le_of_ble_eq_true rfl⟩ hout hlocks (fun x hx9 => (fun h9 => ⟨(congrArg Prod.fst h9).symm, (congrArg Prod.snd h9).symm⟩) (Option.some.inj ((xk_inr hx9).symm.trans hf))) (fun v2 hv2 H locs hH => ?_)
  replace hf := (xk_inl hv2).symm.trans hf
  refine hl_aload_n hx hb dX12_openDays_6 rfl (lv_at hl 0 rfl) ?_
  refine lv_iload_n hx hb dX12_openDays_7 rfl (lv_at hl 1 rfl) ?_
  obtain ⟨q3, hq3, hf⟩ := bnd hf
  refine hxV_v hx hb hml hown hts hKs hT hb0 hH (As := [.int a_1]) (rest := []) (k_X12_requireUnfinished l hls E K H.size o a_1 q1.2 ho hq3) (gV m5_191 m5_193 ms_40 m1_1 m5_194) hd_X12_requireUnfinished ⟨Nat.le_of_ble_eq_true rfl, Nat.le_of_ble_eq_true rfl, rfl, rfl⟩ rfl ho rfl rfl rfl hl.1 rfl rc0 rfl dX12_openDays_8 ⟨Nat.le_of_ble_eq_true rfl, Nat.le_of_ble_eq_true rfl⟩ ⟨Nat.le_of_ble_eq_true rfl, Nat.le_of_ble_eq_true rfl⟩ hout hlocks (fun x hx9 => (fun h9 => ⟨(congrArg Prod.fst h9).symm, (congrArg Prod.snd h9).symm⟩) (Option.some.inj ((xk_inr hx9).symm.trans hf))) (fun v4 hv4 H locs hH => ?_)
  replace hf := (xk_inl hv4).symm.trans hf
  refine hl_aload_n hx hb dX12_openDays_11 rfl (lv_at hl 0 rfl) ?_
  refine g12_11 hx hb hts hown hKs hH rfl ho m2_230 dX12_openDays_12 ?_
  refine hl_aload_n hx hb dX12_openDays_15 rfl (lv_at hl 0 rfl) ?_
  refine g12_5 hx hb hts hown hKs hH rfl ho m2_224 dX12_openDays_16 ?_
  refine lv_iload_n hx hb dX12_openDays_19 rfl (lv_at hl 1 rfl) ?_
  obtain ⟨a5, ha5, hf⟩ := bnd hf
  replace ha5 := chk_some ha5
  obtain ⟨q6, hq6, hf⟩ := bnd hf
  refine hcV_i hx hb hml hown hts hKs hT hb0 hH (As := [rv E (wR q3.2 1205 o), .int a_1]) (rest := []) (k_X6_countOpenDays l E K H.size a5 (wR q3.2 1205 o) a_1 q3.2 ha5.2 hq6) (gV m5_229 m5_230 m5_231 m1_14 m5_232) hd_X6_countOpenDays ⟨Nat.le_of_ble_eq_true rfl, Nat.le_of_ble_eq_true rfl, rfl, rfl⟩ ha5.1 ha5.2 rfl rfl rfl hl.1 rfl rc0 rfl dX12_openDays_20 ⟨Nat.le_of_ble_eq_true rfl, Nat.le_of_ble_eq_true rfl⟩ (fun H locs hH => ?_)
  exact hx_iret hx hb (Nat.le_of_ble_eq_true rfl) (Nat.le_of_ble_eq_true rfl) hret hf hH hlocks dX12_openDays_23

theorem dX12_planNext_0 : decode cX12_planNext 0 = .ok (.aload_n 0, 1) := by decide +kernel
theorem dX12_planNext_1 : decode cX12_planNext 1 = .ok (.iconst 3, 1) := by decide +kernel
theorem dX12_planNext_2 : decode cX12_planNext 2 = .ok (.iload_n 1, 1) := by decide +kernel
theorem dX12_planNext_3 : decode cX12_planNext 3 = .ok (.invokevirtual 175, 3) := by decide +kernel
theorem dX12_planNext_6 : decode cX12_planNext 6 = .ok (.aload_n 0, 1) := by decide +kernel
theorem dX12_planNext_7 : decode cX12_planNext 7 = .ok (.getfield 35, 3) := by decide +kernel
theorem dX12_planNext_10 : decode cX12_planNext 10 = .ok (.getfield 213, 3) := by decide +kernel
theorem dX12_planNext_13 : decode cX12_planNext 13 = .ok (.iload_n 1, 1) := by decide +kernel
theorem dX12_planNext_14 : decode cX12_planNext 14 = .ok (.aaload, 1) := by decide +kernel
theorem dX12_planNext_15 : decode cX12_planNext 15 = .ok (.getfield 236, 3) := by decide +kernel
theorem dX12_planNext_18 : decode cX12_planNext 18 = .ok (.ifCond .eq 11, 3) := by decide +kernel
theorem dX12_planNext_21 : decode cX12_planNext 21 = .ok (.new 331, 3) := by decide +kernel
theorem dX12_planNext_24 : decode cX12_planNext 24 = .ok (.dup, 1) := by decide +kernel
theorem dX12_planNext_25 : decode cX12_planNext 25 = .ok (.invokespecial 333, 3) := by decide +kernel
theorem dX12_planNext_28 : decode cX12_planNext 28 = .ok (.athrow, 1) := by decide +kernel
theorem dX12_planNext_29 : decode cX12_planNext 29 = .ok (.aload_n 0, 1) := by decide +kernel
theorem dX12_planNext_30 : decode cX12_planNext 30 = .ok (.getfield 52, 3) := by decide +kernel
theorem dX12_planNext_33 : decode cX12_planNext 33 = .ok (.aload_n 0, 1) := by decide +kernel
theorem dX12_planNext_34 : decode cX12_planNext 34 = .ok (.getfield 35, 3) := by decide +kernel
theorem dX12_planNext_37 : decode cX12_planNext 37 = .ok (.iload_n 1, 1) := by decide +kernel
theorem dX12_planNext_38 : decode cX12_planNext 38 = .ok (.iconst 0, 1) := by decide +kernel
theorem dX12_planNext_39 : decode cX12_planNext 39 = .ok (.invokevirtual 287, 3) := by decide +kernel
theorem dX12_planNext_42 : decode cX12_planNext 42 = .ok (.ifCond .ne 11, 3) := by decide +kernel
theorem dX12_planNext_45 : decode cX12_planNext 45 = .ok (.new 303, 3) := by decide +kernel
theorem dX12_planNext_48 : decode cX12_planNext 48 = .ok (.dup, 1) := by decide +kernel
theorem dX12_planNext_49 : decode cX12_planNext 49 = .ok (.invokespecial 305, 3) := by decide +kernel
theorem dX12_planNext_52 : decode cX12_planNext 52 = .ok (.athrow, 1) := by decide +kernel
theorem dX12_planNext_53 : decode cX12_planNext 53 = .ok (.aload_n 0, 1) := by decide +kernel
theorem dX12_planNext_54 : decode cX12_planNext 54 = .ok (.invokevirtual 325, 3) := by decide +kernel
theorem dX12_planNext_57 : decode cX12_planNext 57 = .ok (.aload_n 0, 1) := by decide +kernel
theorem dX12_planNext_58 : decode cX12_planNext 58 = .ok (.getfield 52, 3) := by decide +kernel
theorem dX12_planNext_61 : decode cX12_planNext 61 = .ok (.aload_n 0, 1) := by decide +kernel
theorem dX12_planNext_62 : decode cX12_planNext 62 = .ok (.getfield 35, 3) := by decide +kernel
theorem dX12_planNext_65 : decode cX12_planNext 65 = .ok (.iload_n 1, 1) := by decide +kernel
theorem dX12_planNext_66 : decode cX12_planNext 66 = .ok (.invokevirtual 338, 3) := by decide +kernel
theorem dX12_planNext_69 : decode cX12_planNext 69 = .ok (.aload_n 0, 1) := by decide +kernel
theorem dX12_planNext_70 : decode cX12_planNext 70 = .ok (.getfield 52, 3) := by decide +kernel
theorem dX12_planNext_73 : decode cX12_planNext 73 = .ok (.getfield 291, 3) := by decide +kernel
theorem dX12_planNext_76 : decode cX12_planNext 76 = .ok (.ireturn, 1) := by decide +kernel
theorem hd_X12_planNext : yX12_planNext.cls = RX12 ∧ yX12_planNext.cls ≠ "java/lang/invoke/MethodHandle" ∧ yX12_planNext.cls ≠ "java/lang/invoke/VarHandle" ∧ (parseMethodDescriptor yX12_planNext.desc).map (fun d => d.parameters.length) = some 1 := by decide +kernel
theorem hs_X12_planNext : yX12_planNext.cls ≠ "java/lang/invoke/MethodHandle" ∧ yX12_planNext.cls ≠ "java/lang/invoke/VarHandle" ∧ (parseMethodDescriptor yX12_planNext.desc).map (fun d => d.parameters.length) = some 1 := by decide +kernel
set_option maxHeartbeats 4000000 in
set_option maxRecDepth 100000 in
theorem k_X12_planNext (l : Launch) (hls : l.stackTraces = false) (E : Ev) (K : Kd) (z : Nat) (o : Nat) (a_1 : Int32) (w : Wd) (ho : K o = some (10, 0)) {r : Int32 ⊕ Nat} {w' : Wd} (hf : f_X12_planNext K o a_1 w = some (r, w')) : vx_Met l yX12_planNext (Cond.code yX12_planNext cX12_planNext 2 (Option.some Jvm.ClassFile.FieldType.int) :: bt) ({ frames := 7, cells := 2, slots := 12, locals := 128 } : Room) (va_Pc [rv E (some o), .int a_1] (HB E K w z)) (XI E K z w' r) (XX E K w' r) 2 12 (hA E) := by
  refine vx_ofW (cc := cX12_planNext) (maxL := 2) (ret := (Option.some Jvm.ClassFile.FieldType.int)) (by decide) rfl ?_
  intro p e s m args below meth c s₁ B hml hout hv
  obtain ⟨rfl, hz, hP, hKs, hT, hb0⟩ := hv
  have C : CX p l e s m _ meth c cX12_planNext 2 RX12 (Option.some Jvm.ClassFile.FieldType.int) E := ⟨B.exec, B.bytes, hml, findClass_of_methodNamed B.named, fun w h => atoms_spec (ws := Cond.code yX12_planNext cX12_planNext 2 (Option.some Jvm.ClassFile.FieldType.int) :: bt) B.pre w (List.mem_cons_of_mem _ h), hKs, hT, by rw [hz]; exact hb0, B.notSynchronized, B.returns⟩
  have hH : HQ E K z w s s.heap [] := ⟨hP, va_S.rf, hz⟩
  obtain ⟨hx, hb, hml, hown, hts, hKs, hT, hb0, hlocks, hret⟩ := id C
  have hl := lv_entry [rv E (some o), .int a_1] (n := 2) (by simp [lg_len_nil, lg_len_i, lg_len_j, lg_len_q])
  rw [lg_entry_eq]
  generalize (lg_sl [rv E (some o), .int a_1] ++ List.replicate (2 - (lg_sl [rv E (some o), .int a_1]).length) Slot.unset).toArray = ls at hl ⊢
  replace hl : lv_has ls 2 [(0, rv E (some o)), (1, .int a_1)] := by simpa only [lv_args, cat_q, cat_i, cat_j, reduceIte, Nat.reduceEqDiff, Nat.reduceAdd, Nat.zero_add] using hl
  generalize s.heap = H at hH ⊢
  unfold f_X12_planNext at hf
  refine hl_aload_n hx hb dX12_planNext_0 rfl (lv_at hl 0 rfl) ?_
  refine lv_iconst (v := 3) hx hb dX12_planNext_1 (by decide) ?_
  refine lv_iload_n hx hb dX12_planNext_2 rfl (lv_at hl 1 rfl) ?_
  obtain ⟨q1, hq1, hf⟩ := bnd hf
  refine hxV_v hx hb hml hown hts hKs hT hb0 hH (As := [.int 3, .int a_1]) (rest := []) (k_X12_requireExisting l hls E K H.size o 3 a_1 w ho hq1) (gV m5_91 m5_93 ms_37 m1_1 m5_94) hd_X12_requireExisting ⟨Nat.le_of_ble_eq_true rfl, Nat.le_of_ble_eq_true rfl, rfl, rfl⟩ rfl ho rfl rfl rfl hl.1 rfl rc0 rfl dX12_planNext_3 ⟨Nat.le_of_ble_eq_true rfl, Nat.le_of_ble_eq_true rfl⟩ ⟨Nat.le_of_ble_eq_true rfl, Nat.le_of_ble_eq_true rfl⟩ hout hlocks (fun x hx9 => (fun h9 => ⟨(congrArg Prod.fst h9).symm, (congrArg Prod.snd h9).symm⟩) (Option.some.inj ((xk_inr hx9).symm.trans hf))) (fun v2 hv2 H locs hH => ?_)
  replace hf := (xk_inl hv2).symm.trans hf
  refine hl_aload_n hx hb dX12_planNext_6 rfl (lv_at hl 0 rfl) ?_
  refine g12_5 hx hb hts hown hKs hH rfl ho m2_224 dX12_planNext_7 ?_
  obtain ⟨a3, ha3, hf⟩ := bnd hf
  replace ha3 := chk_some ha3
  refine gn10_5 hx hb hts hown hKs hH ha3.1 ha3.2 m2_135 dX12_planNext_10 ?_
  refine lv_iload_n hx hb dX12_planNext_13 rfl (lv_at hl 1 rfl) ?_
  obtain ⟨a4, ha4, hf⟩ := bnd hf
  replace ha4 := cha_some ha4
  obtain ⟨j5, hj5, hf⟩ := bnd hf
  refine hw_aald27 hx hb hKs hH ha4.1 ha4.2 hj5 dX12_planNext_14 ?_
  obtain ⟨a6, ha6, hf⟩ := bnd hf
  replace ha6 := chk_some ha6
  refine gn7_0 hx hb hts hown hKs hH ha6.1 ha6.2 m2_71 dX12_planNext_15 ?_
  refine lv_if_eq (tgt := 29) hx hb dX12_planNext_18 (by decide) (fun c7 => ?_) (fun c7 => ?_)
  · replace hf := (if_pos c7).symm.trans hf
    refine hl_aload_n hx hb dX12_planNext_29 rfl (lv_at hl 0 rfl) ?_
    refine g12_11 hx hb hts hown hKs hH rfl ho m2_230 dX12_planNext_30 ?_
    refine hl_aload_n hx hb dX12_planNext_33 rfl (lv_at hl 0 rfl) ?_
    refine g12_5 hx hb hts hown hKs hH rfl ho m2_224 dX12_planNext_34 ?_
    refine lv_iload_n hx hb dX12_planNext_37 rfl (lv_at hl 1 rfl) ?_
    refine lv_iconst (v := 0) hx hb dX12_planNext_38 (by decide) ?_
    obtain ⟨a8, ha8, hf⟩ := bnd hf
    replace ha8 := chk_some ha8
    obtain ⟨q9, hq9, hf⟩ := bnd hf
    refine hcV_i hx hb hml hown hts hKs hT hb0 hH (As := [rv E (wR q1.2 1205 o), .int a_1, .int 0]) (rest := []) (k_X6_findFirst l E K H.size a8 (wR q1.2 1205 o) a_1 0 q1.2 ha8.2 hq9) (gV m5_221 m4_112 m4_113 m1_14 m4_114) hd_X6_findFirst ⟨Nat.le_of_ble_eq_true rfl, Nat.le_of_ble_eq_true rfl, rfl, rfl⟩ ha8.1 ha8.2 rfl rfl rfl hl.1 rfl rc0 rfl dX12_planNext_39 ⟨Nat.le_of_ble_eq_true rfl, Nat.le_of_ble_eq_true rfl⟩ (fun H locs hH => ?_)
    refine lv_if_ne (tgt := 53) hx hb dX12_planNext_42 (by decide) (fun c10 => ?_) (fun c10 => ?_)
    · replace hf := (if_neg c10).symm.trans hf
      refine hl_aload_n hx hb dX12_planNext_53 rfl (lv_at hl 0 rfl) ?_
      obtain ⟨q11, hq11, hf⟩ := bnd hf
      refine hcV_v hx hb hml hown hts hKs hT hb0 hH (As := []) (rest := []) (k_X12_remember l E K H.size o q9.2 ho hq11) (gV m4_83 m4_85 ms_24 m1_1 m4_86) hd_X12_remember ⟨Nat.le_of_ble_eq_true rfl, Nat.le_of_ble_eq_true rfl, rfl, rfl⟩ rfl ho rfl rfl rfl hl.1 rfl rc0 rfl dX12_planNext_54 ⟨Nat.le_of_ble_eq_true rfl, Nat.le_of_ble_eq_true rfl⟩ (fun H locs hH => ?_)
      refine hl_aload_n hx hb dX12_planNext_57 rfl (lv_at hl 0 rfl) ?_
      refine g12_11 hx hb hts hown hKs hH rfl ho m2_230 dX12_planNext_58 ?_
      refine hl_aload_n hx hb dX12_planNext_61 rfl (lv_at hl 0 rfl) ?_
      refine g12_5 hx hb hts hown hKs hH rfl ho m2_224 dX12_planNext_62 ?_
      refine lv_iload_n hx hb dX12_planNext_65 rfl (lv_at hl 1 rfl) ?_
      obtain ⟨a12, ha12, hf⟩ := bnd hf
      replace ha12 := chk_some ha12
      obtain ⟨q13, hq13, hf⟩ := bnd hf
      refine hcV_v hx hb hml hown hts hKs hT hb0 hH (As := [rv E (wR q11 1205 o), .int a_1]) (rest := []) (k_X6_setFound l E K H.size a12 (wR q11 1205 o) a_1 q11 ha12.2 hq13) (gV m6_73 m4_183 m4_184 m1_14 m4_185) hd_X6_setFound ⟨Nat.le_of_ble_eq_true rfl, Nat.le_of_ble_eq_true rfl, rfl, rfl⟩ ha12.1 ha12.2 rfl rfl rfl hl.1 rfl rc0 rfl dX12_planNext_66 ⟨Nat.le_of_ble_eq_true rfl, Nat.le_of_ble_eq_true rfl⟩ (fun H locs hH => ?_)
      refine hl_aload_n hx hb dX12_planNext_69 rfl (lv_at hl 0 rfl) ?_
      refine g12_11 hx hb hts hown hKs hH rfl ho m2_230 dX12_planNext_70 ?_
      obtain ⟨a14, ha14, hf⟩ := bnd hf
      replace ha14 := chk_some ha14
      refine gn6_8 hx hb hts hown hKs hH ha14.1 ha14.2 m2_165 dX12_planNext_73 ?_
      exact hx_iret hx hb (Nat.le_of_ble_eq_true rfl) (Nat.le_of_ble_eq_true rfl) hret hf hH hlocks dX12_planNext_76
    · replace hf := (if_pos c10).symm.trans hf
      exact hx_throw hx hb hls (code := 4) hml hl.1 hown hts hKs hT hb0 hH (by decide) rfl m6_2 m1_30 hat_RX12_305 dX12_planNext_45 dX12_planNext_48 dX12_planNext_49 dX12_planNext_52 hout (Nat.le_of_ble_eq_true rfl) rc0 (Nat.le_of_ble_eq_true rfl) (Nat.le_of_ble_eq_true rfl) (Nat.le_of_ble_eq_true rfl) hlocks hf (Nat.le_of_ble_eq_true rfl) (Nat.le_of_ble_eq_true rfl)
  · replace hf := (if_neg c7).symm.trans hf
    exact hx_throw hx hb hls (code := 3) hml hl.1 hown hts hKs hT hb0 hH (by decide) rfl m5_195 m1_29 hat_RX12_333 dX12_planNext_21 dX12_planNext_24 dX12_planNext_25 dX12_planNext_28 hout (Nat.le_of_ble_eq_true rfl) rc0 (Nat.le_of_ble_eq_true rfl) (Nat.le_of_ble_eq_true rfl) (Nat.le_of_ble_eq_true rfl) hlocks hf (Nat.le_of_ble_eq_true rfl) (Nat.le_of_ble_eq_true rfl)

theorem dX12_planAll_0 : decode cX12_planAll 0 = .ok (.aload_n 0, 1) := by decide +kernel
theorem dX12_planAll_1 : decode cX12_planAll 1 = .ok (.invokevirtual 325, 3) := by decide +kernel
theorem dX12_planAll_4 : decode cX12_planAll 4 = .ok (.aload_n 0, 1) := by decide +kernel
theorem dX12_planAll_5 : decode cX12_planAll 5 = .ok (.getfield 52, 3) := by decide +kernel
theorem dX12_planAll_8 : decode cX12_planAll 8 = .ok (.aload_n 0, 1) := by decide +kernel
theorem dX12_planAll_9 : decode cX12_planAll 9 = .ok (.getfield 35, 3) := by decide +kernel
theorem dX12_planAll_12 : decode cX12_planAll 12 = .ok (.iconst 0, 1) := by decide +kernel
theorem dX12_planAll_13 : decode cX12_planAll 13 = .ok (.invokevirtual 342, 3) := by decide +kernel
theorem dX12_planAll_16 : decode cX12_planAll 16 = .ok (.ireturn, 1) := by decide +kernel
theorem hd_X12_planAll : yX12_planAll.cls = RX12 ∧ yX12_planAll.cls ≠ "java/lang/invoke/MethodHandle" ∧ yX12_planAll.cls ≠ "java/lang/invoke/VarHandle" ∧ (parseMethodDescriptor yX12_planAll.desc).map (fun d => d.parameters.length) = some 0 := by decide +kernel
theorem hs_X12_planAll : yX12_planAll.cls ≠ "java/lang/invoke/MethodHandle" ∧ yX12_planAll.cls ≠ "java/lang/invoke/VarHandle" ∧ (parseMethodDescriptor yX12_planAll.desc).map (fun d => d.parameters.length) = some 0 := by decide +kernel
set_option maxHeartbeats 4000000 in
set_option maxRecDepth 100000 in
theorem k_X12_planAll (l : Launch) (E : Ev) (K : Kd) (z : Nat) (o : Nat) (w : Wd) (ho : K o = some (10, 0)) {r : Int32} {w' : Wd} (hf : f_X12_planAll K o w = some (r, w')) : Met l yX12_planAll (Cond.code yX12_planAll cX12_planAll 1 (Option.some Jvm.ClassFile.FieldType.int) :: bt) ({ frames := 6, cells := 0, slots := 0, locals := 153 } : Room) (va_Pc [rv E (some o)] (HB E K w z)) (QI E K z w' r) 0 0 (hA E) := by
  refine Met.ofW (cc := cX12_planAll) (maxL := 1) (ret := (Option.some Jvm.ClassFile.FieldType.int)) (by decide) rfl ?_
  intro p e s m args below meth c s₁ B hml hv
  obtain ⟨rfl, hz, hP, hKs, hT, hb0⟩ := hv
  have C : CX p l e s m _ meth c cX12_planAll 1 RX12 (Option.some Jvm.ClassFile.FieldType.int) E := ⟨B.exec, B.bytes, hml, findClass_of_methodNamed B.named, fun w h => atoms_spec (ws := Cond.code yX12_planAll cX12_planAll 1 (Option.some Jvm.ClassFile.FieldType.int) :: bt) B.pre w (List.mem_cons_of_mem _ h), hKs, hT, by rw [hz]; exact hb0, B.notSynchronized, B.returns⟩
  have hH : HQ E K z w s s.heap [] := ⟨hP, va_S.rf, hz⟩
  obtain ⟨hx, hb, hml, hown, hts, hKs, hT, hb0, hlocks, hret⟩ := id C
  have hl := lv_entry [rv E (some o)] (n := 1) (by simp [lg_len_nil, lg_len_i, lg_len_j, lg_len_q])
  rw [lg_entry_eq]
  generalize (lg_sl [rv E (some o)] ++ List.replicate (1 - (lg_sl [rv E (some o)]).length) Slot.unset).toArray = ls at hl ⊢
  replace hl : lv_has ls 1 [(0, rv E (some o))] := by simpa only [lv_args, cat_q, cat_i, cat_j, reduceIte, Nat.reduceEqDiff, Nat.reduceAdd, Nat.zero_add] using hl
  generalize s.heap = H at hH ⊢
  unfold f_X12_planAll at hf
  refine hl_aload_n hx hb dX12_planAll_0 rfl (lv_at hl 0 rfl) ?_
  obtain ⟨q1, hq1, hf⟩ := bnd hf
  refine hcV_v hx hb hml hown hts hKs hT hb0 hH (As := []) (rest := []) (k_X12_remember l E K H.size o w ho hq1) (gV m4_83 m4_85 ms_24 m1_1 m4_86) hd_X12_remember ⟨Nat.le_of_ble_eq_true rfl, Nat.le_of_ble_eq_true rfl, rfl, rfl⟩ rfl ho rfl rfl rfl hl.1 rfl rc0 rfl dX12_planAll_1 ⟨Nat.zero_le _, Nat.zero_le _⟩ (fun H locs hH => ?_)
  refine hl_aload_n hx hb dX12_planAll_4 rfl (lv_at hl 0 rfl) ?_
  refine g12_11 hx hb hts hown hKs hH rfl ho m2_230 dX12_planAll_5 ?_
  refine hl_aload_n hx hb dX12_planAll_8 rfl (lv_at hl 0 rfl) ?_
  refine g12_5 hx hb hts hown hKs hH rfl ho m2_224 dX12_planAll_9 ?_
  refine lv_iconst (v := 0) hx hb dX12_planAll_12 (by decide) ?_
  obtain ⟨a2, ha2, hf⟩ := bnd hf
  replace ha2 := chk_some ha2
  obtain ⟨q3, hq3, hf⟩ := bnd hf
  refine hcV_i hx hb hml hown hts hKs hT hb0 hH (As := [rv E (wR q1 1205 o), .int 0]) (rest := []) (k_X6_planWaiting l E K H.size a2 (wR q1 1205 o) 0 q1 ha2.2 hq3) (gV m4_96 m4_97 m4_98 m1_14 m4_99) hd_X6_planWaiting ⟨Nat.le_of_ble_eq_true rfl, Nat.le_of_ble_eq_true rfl, rfl, rfl⟩ ha2.1 ha2.2 rfl rfl rfl hl.1 rfl rc0 rfl dX12_planAll_13 ⟨Nat.zero_le _, Nat.zero_le _⟩ (fun H locs hH => ?_)
  exact hw_iret hx hb hret hf hH hlocks dX12_planAll_16

theorem dX12_forecastPlanned_0 : decode cX12_forecastPlanned 0 = .ok (.aload_n 0, 1) := by decide +kernel
theorem dX12_forecastPlanned_1 : decode cX12_forecastPlanned 1 = .ok (.getfield 42, 3) := by decide +kernel
theorem dX12_forecastPlanned_4 : decode cX12_forecastPlanned 4 = .ok (.aload_n 0, 1) := by decide +kernel
theorem dX12_forecastPlanned_5 : decode cX12_forecastPlanned 5 = .ok (.getfield 35, 3) := by decide +kernel
theorem dX12_forecastPlanned_8 : decode cX12_forecastPlanned 8 = .ok (.invokevirtual 362, 3) := by decide +kernel
theorem dX12_forecastPlanned_11 : decode cX12_forecastPlanned 11 = .ok (.aload_n 0, 1) := by decide +kernel
theorem dX12_forecastPlanned_12 : decode cX12_forecastPlanned 12 = .ok (.getfield 52, 3) := by decide +kernel
theorem dX12_forecastPlanned_15 : decode cX12_forecastPlanned 15 = .ok (.aload_n 0, 1) := by decide +kernel
theorem dX12_forecastPlanned_16 : decode cX12_forecastPlanned 16 = .ok (.getfield 42, 3) := by decide +kernel
theorem dX12_forecastPlanned_19 : decode cX12_forecastPlanned 19 = .ok (.iload_n 1, 1) := by decide +kernel
theorem dX12_forecastPlanned_20 : decode cX12_forecastPlanned 20 = .ok (.invokevirtual 342, 3) := by decide +kernel
theorem dX12_forecastPlanned_23 : decode cX12_forecastPlanned 23 = .ok (.ireturn, 1) := by decide +kernel
theorem hd_X12_forecastPlanned : yX12_forecastPlanned.cls = RX12 ∧ yX12_forecastPlanned.cls ≠ "java/lang/invoke/MethodHandle" ∧ yX12_forecastPlanned.cls ≠ "java/lang/invoke/VarHandle" ∧ (parseMethodDescriptor yX12_forecastPlanned.desc).map (fun d => d.parameters.length) = some 1 := by decide +kernel
theorem hs_X12_forecastPlanned : yX12_forecastPlanned.cls ≠ "java/lang/invoke/MethodHandle" ∧ yX12_forecastPlanned.cls ≠ "java/lang/invoke/VarHandle" ∧ (parseMethodDescriptor yX12_forecastPlanned.desc).map (fun d => d.parameters.length) = some 1 := by decide +kernel
set_option maxHeartbeats 4000000 in
set_option maxRecDepth 100000 in
theorem k_X12_forecastPlanned (l : Launch) (E : Ev) (K : Kd) (z : Nat) (o : Nat) (a_1 : Int32) (w : Wd) (ho : K o = some (10, 0)) {r : Int32} {w' : Wd} (hf : f_X12_forecastPlanned K o a_1 w = some (r, w')) : Met l yX12_forecastPlanned (Cond.code yX12_forecastPlanned cX12_forecastPlanned 2 (Option.some Jvm.ClassFile.FieldType.int) :: bt) ({ frames := 6, cells := 0, slots := 0, locals := 153 } : Room) (va_Pc [rv E (some o), .int a_1] (HB E K w z)) (QI E K z w' r) 0 0 (hA E) := by
  refine Met.ofW (cc := cX12_forecastPlanned) (maxL := 2) (ret := (Option.some Jvm.ClassFile.FieldType.int)) (by decide) rfl ?_
  intro p e s m args below meth c s₁ B hml hv
  obtain ⟨rfl, hz, hP, hKs, hT, hb0⟩ := hv
  have C : CX p l e s m _ meth c cX12_forecastPlanned 2 RX12 (Option.some Jvm.ClassFile.FieldType.int) E := ⟨B.exec, B.bytes, hml, findClass_of_methodNamed B.named, fun w h => atoms_spec (ws := Cond.code yX12_forecastPlanned cX12_forecastPlanned 2 (Option.some Jvm.ClassFile.FieldType.int) :: bt) B.pre w (List.mem_cons_of_mem _ h), hKs, hT, by rw [hz]; exact hb0, B.notSynchronized, B.returns⟩
  have hH : HQ E K z w s s.heap [] := ⟨hP, va_S.rf, hz⟩
  obtain ⟨hx, hb, hml, hown, hts, hKs, hT, hb0, hlocks, hret⟩ := id C
  have hl := lv_entry [rv E (some o), .int a_1] (n := 2) (by simp [lg_len_nil, lg_len_i, lg_len_j, lg_len_q])
  rw [lg_entry_eq]
  generalize (lg_sl [rv E (some o), .int a_1] ++ List.replicate (2 - (lg_sl [rv E (some o), .int a_1]).length) Slot.unset).toArray = ls at hl ⊢
  replace hl : lv_has ls 2 [(0, rv E (some o)), (1, .int a_1)] := by simpa only [lv_args, cat_q, cat_i, cat_j, reduceIte, Nat.reduceEqDiff, Nat.reduceAdd, Nat.zero_add] using hl
  generalize s.heap = H at hH ⊢
  unfold f_X12_forecastPlanned at hf
  refine hl_aload_n hx hb dX12_forecastPlanned_0 rfl (lv_at hl 0 rfl) ?_
  refine g12_8 hx hb hts hown hKs hH rfl ho m2_227 dX12_forecastPlanned_1 ?_
  refine hl_aload_n hx hb dX12_forecastPlanned_4 rfl (lv_at hl 0 rfl) ?_
  refine g12_5 hx hb hts hown hKs hH rfl ho m2_224 dX12_forecastPlanned_5 ?_
  obtain ⟨a1, ha1, hf⟩ := bnd hf
  replace ha1 := chk_some ha1
  obtain ⟨q2, hq2, hf⟩ := bnd hf
  refine hcV_v hx hb hml hown hts hKs hT hb0 hH (As := [rv E (wR w 1205 o)]) (rest := []) (k_X10_copyFrom l E K H.size a1 (wR w 1205 o) w ha1.2 hq2) (gV m4_87 m4_88 m4_89 m1_12 m4_90) hd_X10_copyFrom ⟨Nat.le_of_ble_eq_true rfl, Nat.le_of_ble_eq_true rfl, rfl, rfl⟩ ha1.1 ha1.2 rfl rfl rfl hl.1 rfl rc0 rfl dX12_forecastPlanned_8 ⟨Nat.zero_le _, Nat.zero_le _⟩ (fun H locs hH => ?_)
  refine hl_aload_n hx hb dX12_forecastPlanned_11 rfl (lv_at hl 0 rfl) ?_
  refine g12_11 hx hb hts hown hKs hH rfl ho m2_230 dX12_forecastPlanned_12 ?_
  refine hl_aload_n hx hb dX12_forecastPlanned_15 rfl (lv_at hl 0 rfl) ?_
  refine g12_8 hx hb hts hown hKs hH rfl ho m2_227 dX12_forecastPlanned_16 ?_
  refine lv_iload_n hx hb dX12_forecastPlanned_19 rfl (lv_at hl 1 rfl) ?_
  obtain ⟨a3, ha3, hf⟩ := bnd hf
  replace ha3 := chk_some ha3
  obtain ⟨q4, hq4, hf⟩ := bnd hf
  refine hcV_i hx hb hml hown hts hKs hT hb0 hH (As := [rv E (wR q2 1208 o), .int a_1]) (rest := []) (k_X6_planWaiting l E K H.size a3 (wR q2 1208 o) a_1 q2 ha3.2 hq4) (gV m4_96 m4_97 m4_98 m1_14 m4_99) hd_X6_planWaiting ⟨Nat.le_of_ble_eq_true rfl, Nat.le_of_ble_eq_true rfl, rfl, rfl⟩ ha3.1 ha3.2 rfl rfl rfl hl.1 rfl rc0 rfl dX12_forecastPlanned_20 ⟨Nat.zero_le _, Nat.zero_le _⟩ (fun H locs hH => ?_)
  exact hw_iret hx hb hret hf hH hlocks dX12_forecastPlanned_23

theorem dX12_keyOfficer_0 : decode cX12_keyOfficer 0 = .ok (.aload_n 0, 1) := by decide +kernel
theorem dX12_keyOfficer_1 : decode cX12_keyOfficer 1 = .ok (.iconst 0, 1) := by decide +kernel
theorem dX12_keyOfficer_2 : decode cX12_keyOfficer 2 = .ok (.invokevirtual 366, 3) := by decide +kernel
theorem dX12_keyOfficer_5 : decode cX12_keyOfficer 5 = .ok (.istore_n 1, 1) := by decide +kernel
theorem dX12_keyOfficer_6 : decode cX12_keyOfficer 6 = .ok (.iconst (-1), 1) := by decide +kernel
theorem dX12_keyOfficer_7 : decode cX12_keyOfficer 7 = .ok (.istore_n 2, 1) := by decide +kernel
theorem dX12_keyOfficer_8 : decode cX12_keyOfficer 8 = .ok (.iconst 0, 1) := by decide +kernel
theorem dX12_keyOfficer_9 : decode cX12_keyOfficer 9 = .ok (.istore_n 3, 1) := by decide +kernel
theorem dX12_keyOfficer_10 : decode cX12_keyOfficer 10 = .ok (.iload_n 3, 1) := by decide +kernel
theorem dX12_keyOfficer_11 : decode cX12_keyOfficer 11 = .ok (.aload_n 0, 1) := by decide +kernel
theorem dX12_keyOfficer_12 : decode cX12_keyOfficer 12 = .ok (.getfield 35, 3) := by decide +kernel
theorem dX12_keyOfficer_15 : decode cX12_keyOfficer 15 = .ok (.getfield 87, 3) := by decide +kernel
theorem dX12_keyOfficer_18 : decode cX12_keyOfficer 18 = .ok (.iconst 1, 1) := by decide +kernel
theorem dX12_keyOfficer_19 : decode cX12_keyOfficer 19 = .ok (.invokevirtual 105, 3) := by decide +kernel
theorem dX12_keyOfficer_22 : decode cX12_keyOfficer 22 = .ok (.if_icmp .ge 29, 3) := by decide +kernel
theorem dX12_keyOfficer_25 : decode cX12_keyOfficer 25 = .ok (.aload_n 0, 1) := by decide +kernel
theorem dX12_keyOfficer_26 : decode cX12_keyOfficer 26 = .ok (.iconst 1, 1) := by decide +kernel
theorem dX12_keyOfficer_27 : decode cX12_keyOfficer 27 = .ok (.iload_n 3, 1) := by decide +kernel
theorem dX12_keyOfficer_28 : decode cX12_keyOfficer 28 = .ok (.ishl, 1) := by decide +kernel
theorem dX12_keyOfficer_29 : decode cX12_keyOfficer 29 = .ok (.invokevirtual 366, 3) := by decide +kernel
theorem dX12_keyOfficer_32 : decode cX12_keyOfficer 32 = .ok (.istore 4, 2) := by decide +kernel
theorem dX12_keyOfficer_34 : decode cX12_keyOfficer 34 = .ok (.iload 4, 2) := by decide +kernel
theorem dX12_keyOfficer_36 : decode cX12_keyOfficer 36 = .ok (.iload_n 1, 1) := by decide +kernel
theorem dX12_keyOfficer_37 : decode cX12_keyOfficer 37 = .ok (.if_icmp .ge 8, 3) := by decide +kernel
theorem dX12_keyOfficer_40 : decode cX12_keyOfficer 40 = .ok (.iload 4, 2) := by decide +kernel
theorem dX12_keyOfficer_42 : decode cX12_keyOfficer 42 = .ok (.istore_n 1, 1) := by decide +kernel
theorem dX12_keyOfficer_43 : decode cX12_keyOfficer 43 = .ok (.iload_n 3, 1) := by decide +kernel
theorem dX12_keyOfficer_44 : decode cX12_keyOfficer 44 = .ok (.istore_n 2, 1) := by decide +kernel
theorem dX12_keyOfficer_45 : decode cX12_keyOfficer 45 = .ok (.iinc 3 1, 3) := by decide +kernel
theorem dX12_keyOfficer_48 : decode cX12_keyOfficer 48 = .ok (.goto (-38), 3) := by decide +kernel
theorem dX12_keyOfficer_51 : decode cX12_keyOfficer 51 = .ok (.iload_n 2, 1) := by decide +kernel
theorem dX12_keyOfficer_52 : decode cX12_keyOfficer 52 = .ok (.ireturn, 1) := by decide +kernel
theorem hd_X12_keyOfficer : yX12_keyOfficer.cls = RX12 ∧ yX12_keyOfficer.cls ≠ "java/lang/invoke/MethodHandle" ∧ yX12_keyOfficer.cls ≠ "java/lang/invoke/VarHandle" ∧ (parseMethodDescriptor yX12_keyOfficer.desc).map (fun d => d.parameters.length) = some 0 := by decide +kernel
theorem hs_X12_keyOfficer : yX12_keyOfficer.cls ≠ "java/lang/invoke/MethodHandle" ∧ yX12_keyOfficer.cls ≠ "java/lang/invoke/VarHandle" ∧ (parseMethodDescriptor yX12_keyOfficer.desc).map (fun d => d.parameters.length) = some 0 := by decide +kernel
set_option maxHeartbeats 4000000 in
set_option maxRecDepth 100000 in
theorem l_X12_keyOfficer_L10 (C : CX p l e s m args meth c cX12_keyOfficer 5 RX12 (Option.some Jvm.ClassFile.FieldType.int) E) {o : Nat} (ho : K o = some (10, 0)) {r : Int32} {w' : Wd} (k : Int32 → Int32 → Int32 → Wd → Option (Int32 × Wd)) (hk : ∀ (v1_10 : Int32) (v2_10 : Int32) (v3_10 : Int32) (w : Wd) (H : Heap) (locs : List Loc) (ls : Array Slot), HQ E K z w s H locs → lv_has ls 5 [(1, .int v1_10), (2, .int v2_10), (3, .int v3_10), (0, rv E (some o))] → k v1_10 v2_10 v3_10 w = some (r, w') → W p l e ({ frames := 7, cells := 0, slots := 0, locals := 174 } : Room) s m args below meth c H locs 0 0 (MQ below (QI E K z w' r) args s 0 0 (hA E)) (F0 m 51 ls [])) : ∀ (n : Nat) (v1_10 : Int32) (v2_10 : Int32) (v3_10 : Int32) (w : Wd) (H : Heap) (locs : List Loc) (ls : Array Slot), HQ E K z w s H locs → lv_has ls 5 [(1, .int v1_10), (2, .int v2_10), (3, .int v3_10), (0, rv E (some o))] → f_X12_keyOfficer_L10 K o k n v1_10 v2_10 v3_10 w = some (r, w') → W p l e ({ frames := 7, cells := 0, slots := 0, locals := 174 } : Room) s m args below meth c H locs 0 0 (MQ below (QI E K z w' r) args s 0 0 (hA E)) (F0 m 10 ls []) := by
  obtain ⟨hx, hb, hml, hown, hts, hKs, hT, hb0, hlocks, hret⟩ := id C
  intro n
  induction n with
  | zero =>
    intro v1_10 v2_10 v3_10 w H locs ls hH hl hf
    cases hf
  | succ n ih =>
    intro v1_10 v2_10 v3_10 w H locs ls hH hl hf
    rw [f_X12_keyOfficer_L10] at hf
    refine lv_iload_n hx hb dX12_keyOfficer_10 rfl (lv_at hl 2 rfl) ?_
    refine hl_aload_n hx hb dX12_keyOfficer_11 rfl (lv_at hl 3 rfl) ?_
    refine g12_5 hx hb hts hown hKs hH rfl ho m2_224 dX12_keyOfficer_12 ?_
    obtain ⟨a3, ha3, hf⟩ := bnd hf
    replace ha3 := chk_some ha3
    refine gn10_0 hx hb hts hown hKs hH ha3.1 ha3.2 m2_122 dX12_keyOfficer_15 ?_
    refine lv_iconst (v := 1) hx hb dX12_keyOfficer_18 (by decide) ?_
    obtain ⟨a4, ha4, hf⟩ := bnd hf
    replace ha4 := chk_some ha4
    obtain ⟨q5, hq5, hf⟩ := bnd hf
    refine hcV_i hx hb hml hown hts hKs hT hb0 hH (As := [.int 1]) (rest := [.int v3_10]) (k_X9_size l E K H.size a4 1 w ha4.2 hq5) (gV m3_229 m3_151 m3_152 m1_2 m3_153) hd_X9_size ⟨Nat.le_of_ble_eq_true rfl, Nat.le_of_ble_eq_true rfl, rfl, rfl⟩ ha4.1 ha4.2 rfl rfl rfl hl.1 rfl (rcI rc0) rfl dX12_keyOfficer_19 ⟨Nat.zero_le _, Nat.zero_le _⟩ (fun H locs hH => ?_)
    refine lv_icmp_ge (tgt := 51) hx hb dX12_keyOfficer_22 (by decide) (fun c6 => ?_) (fun c6 => ?_)
    · replace hf := (if_pos c6).symm.trans hf
      exact hk v1_10 v2_10 v3_10 _ _ _ _ hH (lv_sub hl [0, 1, 2, 3] rfl) hf
    · replace hf := (if_neg c6).symm.trans hf
      refine hl_aload_n hx hb dX12_keyOfficer_25 rfl (lv_at hl 3 rfl) ?_
      refine lv_iconst (v := 1) hx hb dX12_keyOfficer_26 (by decide) ?_
      refine lv_iload_n hx hb dX12_keyOfficer_27 rfl (lv_at hl 2 rfl) ?_
      refine lv_ishl hx hb dX12_keyOfficer_28 ?_
      obtain ⟨q7, hq7, hf⟩ := bnd hf
      refine hcV_i hx hb hml hown hts hKs hT hb0 hH (As := [.int ((1 <<< (v3_10 &&& 31)))]) (rest := []) (k_X12_forecastPlanned l E K H.size o (1 <<< (v3_10 &&& 31)) q5.2 ho hq7) (gV m4_194 m4_196 ms_31 m1_1 m4_197) hd_X12_forecastPlanned ⟨Nat.le_of_ble_eq_true rfl, Nat.le_of_ble_eq_true rfl, rfl, rfl⟩ rfl ho rfl rfl rfl hl.1 rfl rc0 rfl dX12_keyOfficer_29 ⟨Nat.zero_le _, Nat.zero_le _⟩ (fun H locs hH => ?_)
      refine lv_istore (lv' := [(4, .int (q7.1)), (1, .int v1_10), (2, .int v2_10), (3, .int v3_10), (0, rv E (some o))]) hx hb dX12_keyOfficer_32 hl (by decide) rfl (fun ls hl => ?_)
      refine lv_iload hx hb dX12_keyOfficer_34 (lv_at hl 0 rfl) ?_
      refine lv_iload_n hx hb dX12_keyOfficer_36 rfl (lv_at hl 1 rfl) ?_
      refine lv_icmp_ge (tgt := 45) hx hb dX12_keyOfficer_37 (by decide) (fun c8 => ?_) (fun c8 => ?_)
      · replace hf := (if_pos c8).symm.trans hf
        refine lv_iinc (v := (v3_10 + 1)) (lv' := [(3, .int ((v3_10 + 1))), (4, .int (q7.1)), (1, .int v1_10), (2, .int v2_10), (0, rv E (some o))]) hx hb dX12_keyOfficer_45 hl (k := 3) rfl rfl (by decide) rfl (fun ls hl => ?_)
        refine lv_goto (tgt := 10) hx hb dX12_keyOfficer_48 (by decide) ?_
        exact ih v1_10 v2_10 (v3_10 + 1) _ _ _ _ hH (lv_sub hl [2, 3, 0, 4] rfl) hf
      · replace hf := (if_neg c8).symm.trans hf
        refine lv_iload hx hb dX12_keyOfficer_40 (lv_at hl 0 rfl) ?_
        refine lv_istore_n (lv' := [(1, .int (q7.1)), (4, .int (q7.1)), (2, .int v2_10), (3, .int v3_10), (0, rv E (some o))]) hx hb dX12_keyOfficer_42 rfl hl (by decide) rfl (fun ls hl => ?_)
        refine lv_iload_n hx hb dX12_keyOfficer_43 rfl (lv_at hl 3 rfl) ?_
        refine lv_istore_n (lv' := [(2, .int v3_10), (1, .int (q7.1)), (4, .int (q7.1)), (3, .int v3_10), (0, rv E (some o))]) hx hb dX12_keyOfficer_44 rfl hl (by decide) rfl (fun ls hl => ?_)
        refine lv_iinc (v := (v3_10 + 1)) (lv' := [(3, .int ((v3_10 + 1))), (2, .int v3_10), (1, .int (q7.1)), (4, .int (q7.1)), (0, rv E (some o))]) hx hb dX12_keyOfficer_45 hl (k := 3) rfl rfl (by decide) rfl (fun ls hl => ?_)
        refine lv_goto (tgt := 10) hx hb dX12_keyOfficer_48 (by decide) ?_
        exact ih q7.1 v3_10 (v3_10 + 1) _ _ _ _ hH (lv_sub hl [2, 1, 0, 4] rfl) hf
set_option maxHeartbeats 4000000 in
set_option maxRecDepth 100000 in
theorem k_X12_keyOfficer (l : Launch) (E : Ev) (K : Kd) (z : Nat) (o : Nat) (w : Wd) (ho : K o = some (10, 0)) {r : Int32} {w' : Wd} (hf : f_X12_keyOfficer K o w = some (r, w')) : Met l yX12_keyOfficer (Cond.code yX12_keyOfficer cX12_keyOfficer 5 (Option.some Jvm.ClassFile.FieldType.int) :: bt) ({ frames := 7, cells := 0, slots := 0, locals := 174 } : Room) (va_Pc [rv E (some o)] (HB E K w z)) (QI E K z w' r) 0 0 (hA E) := by
  refine Met.ofW (cc := cX12_keyOfficer) (maxL := 5) (ret := (Option.some Jvm.ClassFile.FieldType.int)) (by decide) rfl ?_
  intro p e s m args below meth c s₁ B hml hv
  obtain ⟨rfl, hz, hP, hKs, hT, hb0⟩ := hv
  have C : CX p l e s m _ meth c cX12_keyOfficer 5 RX12 (Option.some Jvm.ClassFile.FieldType.int) E := ⟨B.exec, B.bytes, hml, findClass_of_methodNamed B.named, fun w h => atoms_spec (ws := Cond.code yX12_keyOfficer cX12_keyOfficer 5 (Option.some Jvm.ClassFile.FieldType.int) :: bt) B.pre w (List.mem_cons_of_mem _ h), hKs, hT, by rw [hz]; exact hb0, B.notSynchronized, B.returns⟩
  have hH : HQ E K z w s s.heap [] := ⟨hP, va_S.rf, hz⟩
  obtain ⟨hx, hb, hml, hown, hts, hKs, hT, hb0, hlocks, hret⟩ := id C
  have hl := lv_entry [rv E (some o)] (n := 5) (by simp [lg_len_nil, lg_len_i, lg_len_j, lg_len_q])
  rw [lg_entry_eq]
  generalize (lg_sl [rv E (some o)] ++ List.replicate (5 - (lg_sl [rv E (some o)]).length) Slot.unset).toArray = ls at hl ⊢
  replace hl : lv_has ls 5 [(0, rv E (some o))] := by simpa only [lv_args, cat_q, cat_i, cat_j, reduceIte, Nat.reduceEqDiff, Nat.reduceAdd, Nat.zero_add] using hl
  generalize s.heap = H at hH ⊢
  unfold f_X12_keyOfficer at hf
  refine hl_aload_n hx hb dX12_keyOfficer_0 rfl (lv_at hl 0 rfl) ?_
  refine lv_iconst (v := 0) hx hb dX12_keyOfficer_1 (by decide) ?_
  obtain ⟨q1, hq1, hf⟩ := bnd hf
  refine hcV_i hx hb hml hown hts hKs hT hb0 hH (As := [.int 0]) (rest := []) (k_X12_forecastPlanned l E K H.size o 0 w ho hq1) (gV m4_194 m4_196 ms_31 m1_1 m4_197) hd_X12_forecastPlanned ⟨Nat.le_of_ble_eq_true rfl, Nat.le_of_ble_eq_true rfl, rfl, rfl⟩ rfl ho rfl rfl rfl hl.1 rfl rc0 rfl dX12_keyOfficer_2 ⟨Nat.zero_le _, Nat.zero_le _⟩ (fun H locs hH => ?_)
  refine lv_istore_n (lv' := [(1, .int (q1.1)), (0, rv E (some o))]) hx hb dX12_keyOfficer_5 rfl hl (by decide) rfl (fun ls hl => ?_)
  refine lv_iconst (v := (-1)) hx hb dX12_keyOfficer_6 (by decide) ?_
  refine lv_istore_n (lv' := [(2, .int ((-1))), (1, .int (q1.1)), (0, rv E (some o))]) hx hb dX12_keyOfficer_7 rfl hl (by decide) rfl (fun ls hl => ?_)
  refine lv_iconst (v := 0) hx hb dX12_keyOfficer_8 (by decide) ?_
  refine lv_istore_n (lv' := [(3, .int 0), (2, .int ((-1))), (1, .int (q1.1)), (0, rv E (some o))]) hx hb dX12_keyOfficer_9 rfl hl (by decide) rfl (fun ls hl => ?_)
  refine l_X12_keyOfficer_L10  C ho _ (fun v1_10 v2_10 v3_10 w2 H locs ls hH hl hf => ?_) fu q1.1 (-1) 0 q1.2 _ _ _ hH (lv_sub hl [2, 1, 0, 3] rfl) hf
  refine lv_iload_n hx hb dX12_keyOfficer_51 rfl (lv_at hl 1 rfl) ?_
  exact hw_iret hx hb hret hf hH hlocks dX12_keyOfficer_52

theorem dX12_plannable_0 : decode cX12_plannable 0 = .ok (.aload_n 0, 1) := by decide +kernel
theorem dX12_plannable_1 : decode cX12_plannable 1 = .ok (.iconst 0, 1) := by decide +kernel
theorem dX12_plannable_2 : decode cX12_plannable 2 = .ok (.invokevirtual 366, 3) := by decide +kernel
theorem dX12_plannable_5 : decode cX12_plannable 5 = .ok (.ireturn, 1) := by decide +kernel
theorem hd_X12_plannable : yX12_plannable.cls = RX12 ∧ yX12_plannable.cls ≠ "java/lang/invoke/MethodHandle" ∧ yX12_plannable.cls ≠ "java/lang/invoke/VarHandle" ∧ (parseMethodDescriptor yX12_plannable.desc).map (fun d => d.parameters.length) = some 0 := by decide +kernel
theorem hs_X12_plannable : yX12_plannable.cls ≠ "java/lang/invoke/MethodHandle" ∧ yX12_plannable.cls ≠ "java/lang/invoke/VarHandle" ∧ (parseMethodDescriptor yX12_plannable.desc).map (fun d => d.parameters.length) = some 0 := by decide +kernel
set_option maxHeartbeats 4000000 in
set_option maxRecDepth 100000 in
theorem k_X12_plannable (l : Launch) (E : Ev) (K : Kd) (z : Nat) (o : Nat) (w : Wd) (ho : K o = some (10, 0)) {r : Int32} {w' : Wd} (hf : f_X12_plannable K o w = some (r, w')) : Met l yX12_plannable (Cond.code yX12_plannable cX12_plannable 1 (Option.some Jvm.ClassFile.FieldType.int) :: bt) ({ frames := 7, cells := 0, slots := 0, locals := 174 } : Room) (va_Pc [rv E (some o)] (HB E K w z)) (QI E K z w' r) 0 0 (hA E) := by
  refine Met.ofW (cc := cX12_plannable) (maxL := 1) (ret := (Option.some Jvm.ClassFile.FieldType.int)) (by decide) rfl ?_
  intro p e s m args below meth c s₁ B hml hv
  obtain ⟨rfl, hz, hP, hKs, hT, hb0⟩ := hv
  have C : CX p l e s m _ meth c cX12_plannable 1 RX12 (Option.some Jvm.ClassFile.FieldType.int) E := ⟨B.exec, B.bytes, hml, findClass_of_methodNamed B.named, fun w h => atoms_spec (ws := Cond.code yX12_plannable cX12_plannable 1 (Option.some Jvm.ClassFile.FieldType.int) :: bt) B.pre w (List.mem_cons_of_mem _ h), hKs, hT, by rw [hz]; exact hb0, B.notSynchronized, B.returns⟩
  have hH : HQ E K z w s s.heap [] := ⟨hP, va_S.rf, hz⟩
  obtain ⟨hx, hb, hml, hown, hts, hKs, hT, hb0, hlocks, hret⟩ := id C
  have hl := lv_entry [rv E (some o)] (n := 1) (by simp [lg_len_nil, lg_len_i, lg_len_j, lg_len_q])
  rw [lg_entry_eq]
  generalize (lg_sl [rv E (some o)] ++ List.replicate (1 - (lg_sl [rv E (some o)]).length) Slot.unset).toArray = ls at hl ⊢
  replace hl : lv_has ls 1 [(0, rv E (some o))] := by simpa only [lv_args, cat_q, cat_i, cat_j, reduceIte, Nat.reduceEqDiff, Nat.reduceAdd, Nat.zero_add] using hl
  generalize s.heap = H at hH ⊢
  unfold f_X12_plannable at hf
  refine hl_aload_n hx hb dX12_plannable_0 rfl (lv_at hl 0 rfl) ?_
  refine lv_iconst (v := 0) hx hb dX12_plannable_1 (by decide) ?_
  obtain ⟨q1, hq1, hf⟩ := bnd hf
  refine hcV_i hx hb hml hown hts hKs hT hb0 hH (As := [.int 0]) (rest := []) (k_X12_forecastPlanned l E K H.size o 0 w ho hq1) (gV m4_194 m4_196 ms_31 m1_1 m4_197) hd_X12_forecastPlanned ⟨Nat.le_of_ble_eq_true rfl, Nat.le_of_ble_eq_true rfl, rfl, rfl⟩ rfl ho rfl rfl rfl hl.1 rfl rc0 rfl dX12_plannable_2 ⟨Nat.zero_le _, Nat.zero_le _⟩ (fun H locs hH => ?_)
  exact hw_iret hx hb hret hf hH hlocks dX12_plannable_5
end
