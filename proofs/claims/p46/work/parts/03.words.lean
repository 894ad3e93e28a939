/-! the good words of the tables, and each of them by name -/
/-- the private methods of the text builder's class above, called on a text builder -/
def asbs : List MethodName := [yJ5_ensureCapacityInternal_d00df, yJ5_newCapacity_0f7a4, yJ5_putStringAt_47b60, yJ5_inflateIfNeededFor_a7421]
noncomputable def bt : List Cond := asbs.map (fun y => Cond.selects RJ4 y y) ++ lw_tbl.filter goodWord
theorem in_bt {w : Cond} (h : w ∈ lw_tbl) (g : goodWord w = true) : w ∈ bt := List.mem_append_right _ (List.mem_filter.mpr ⟨h, g⟩)
theorem in_asb {y : MethodName} (h : y ∈ asbs) : Cond.selects RJ4 y y ∈ bt := List.mem_append_left _ (List.mem_map.mpr ⟨y, h, rfl⟩)
theorem bt_good {w : Cond} (h : w ∈ bt) : goodWord w = true := by
  rcases List.mem_append.mp h with h | h
  · obtain ⟨y, -, rfl⟩ := List.mem_map.mp h
    rfl
  · exact (List.mem_filter.mp h).2
theorem selP {C : String} {y : MethodName} {s : State} {args : Array Value} {n : Nat} (hy : y.cls ≠ "java/lang/invoke/MethodHandle" ∧ y.cls ≠ "java/lang/invoke/VarHandle")
    (hins : (Cond.instantiable C n).before args s = true) (hpriv : (Cond.privateMethod y).before args s = true) (hinst : (Cond.instanceMethod y).before args s = true) (hsame : (Cond.sameMethod y.cls y.cls y.name y.desc).before args s = true) :
    (Cond.selects C y y).before args s = true := by
  obtain ⟨c, k, hc, hk, -, hniab, -, -⟩ := Cond.instantiable_spec hins
  obtain ⟨mk, methM, hnamed, hmethM, -, -⟩ := Cond.instanceMethod_spec hinst
  have hfound : s.methodFound? y.cls y.name y.desc = some mk := State.methodFound?_of_named hnamed hy
  have hsel : selectMethod {} s.vm c mk = .method mk := selectMethod_private hmethM (Cond.privateMethod_at hpriv mk methM hnamed hmethM)
  obtain ⟨-, k2, hk2, hni2⟩ := Cond.sameMethod_spec (findClass_of_methodNamed hnamed) hfound hsame
  simp only [Cond.before, Cond.holds, Cond.value, hc, hfound, hnamed, hsel]
  simp [hk2, hni2]
theorem asb_ok : ∀ y, y ∈ asbs → (y.cls ≠ "java/lang/invoke/MethodHandle" ∧ y.cls ≠ "java/lang/invoke/VarHandle") ∧ Cond.privateMethod y ∈ lw_tbl ∧ Cond.instanceMethod y ∈ lw_tbl ∧ Cond.sameMethod y.cls y.cls y.name y.desc ∈ lw_tbl := by decide +kernel
theorem bt_hts {s : State} {args : Array Value} (hts : ∀ w ∈ lw_tbl, w.before args s = true) : ∀ w ∈ bt, w.before args s = true := by
  intro w hw
  rcases List.mem_append.mp hw with h | h
  · obtain ⟨y, hy, rfl⟩ := List.mem_map.mp h
    obtain ⟨h1, h2, h3, h4⟩ := asb_ok y hy
    exact selP (n := 4) h1 (hts _ (by decide +kernel)) (hts _ h2) (hts _ h3) (hts _ h4)
  · exact hts w (List.mem_filter.mp h).1
theorem in_t {w : Cond} (h : w ∈ tables_1) : w ∈ lw_tbl := List.mem_append_right _ h
theorem in_t1 {w : Cond} (h : w ∈ tables_1_1) (g : goodWord w = true) : w ∈ bt := in_bt (in_t (List.mem_append_left _ h)) g
theorem in_t2 {w : Cond} (h : w ∈ tables_1_2) (g : goodWord w = true) : w ∈ bt := in_bt (in_t (List.mem_append_right _ (List.mem_append_left _ h))) g
theorem in_t3 {w : Cond} (h : w ∈ tables_1_3) (g : goodWord w = true) : w ∈ bt := in_bt (in_t (List.mem_append_right _ (List.mem_append_right _ (List.mem_append_left _ h)))) g
theorem in_t4 {w : Cond} (h : w ∈ tables_1_4) (g : goodWord w = true) : w ∈ bt := in_bt (in_t (List.mem_append_right _ (List.mem_append_right _ (List.mem_append_right _ (List.mem_append_left _ h))))) g
theorem in_t5 {w : Cond} (h : w ∈ tables_1_5) (g : goodWord w = true) : w ∈ bt := in_bt (in_t (List.mem_append_right _ (List.mem_append_right _ (List.mem_append_right _ (List.mem_append_right _ (List.mem_append_left _ h)))))) g
theorem in_t6 {w : Cond} (h : w ∈ tables_1_6) (g : goodWord w = true) : w ∈ bt := in_bt (in_t (List.mem_append_right _ (List.mem_append_right _ (List.mem_append_right _ (List.mem_append_right _ (List.mem_append_right _ (List.mem_append_left _ h))))))) g
theorem in_t7 {w : Cond} (h : w ∈ tables_1_7) (g : goodWord w = true) : w ∈ bt := in_bt (in_t (List.mem_append_right _ (List.mem_append_right _ (List.mem_append_right _ (List.mem_append_right _ (List.mem_append_right _ (List.mem_append_right _ (h)))))))) g
def isNest : Cond → Bool
  | .fieldLinkNest _ _ _ _ _ _ => true
  | .methodLinkNest _ _ _ _ => true
  | .castable _ _ => true
  | .declares _ => true
  | _ => false
/-- the links between nest mates: they ride in a method's start, not among its words -/
noncomputable def nb : List Cond := lw_tbl.filter isNest
theorem in_nb {w : Cond} (h : w ∈ lw_tbl) (g : isNest w = true) : w ∈ nb := List.mem_filter.mpr ⟨h, g⟩
theorem in_n1 {w : Cond} (h : w ∈ tables_1_1) (g : isNest w = true) : w ∈ nb := in_nb (in_t (List.mem_append_left _ h)) g
theorem in_l1 {w : Cond} (h : w ∈ tables_1_1) : w ∈ lw_tbl := in_t (List.mem_append_left _ h)
theorem in_n2 {w : Cond} (h : w ∈ tables_1_2) (g : isNest w = true) : w ∈ nb := in_nb (in_t (List.mem_append_right _ (List.mem_append_left _ h))) g
theorem in_l2 {w : Cond} (h : w ∈ tables_1_2) : w ∈ lw_tbl := in_t (List.mem_append_right _ (List.mem_append_left _ h))
theorem in_n3 {w : Cond} (h : w ∈ tables_1_3) (g : isNest w = true) : w ∈ nb := in_nb (in_t (List.mem_append_right _ (List.mem_append_right _ (List.mem_append_left _ h)))) g
theorem in_l3 {w : Cond} (h : w ∈ tables_1_3) : w ∈ lw_tbl := in_t (List.mem_append_right _ (List.mem_append_right _ (List.mem_append_left _ h)))
theorem in_n4 {w : Cond} (h : w ∈ tables_1_4) (g : isNest w = true) : w ∈ nb := in_nb (in_t (List.mem_append_right _ (List.mem_append_right _ (List.mem_append_right _ (List.mem_append_left _ h))))) g
theorem in_l4 {w : Cond} (h : w ∈ tables_1_4) : w ∈ lw_tbl := in_t (List.mem_append_right _ (List.mem_append_right _ (List.mem_append_right _ (List.mem_append_left _ h))))
theorem in_n5 {w : Cond} (h : w ∈ tables_1_5) (g : isNest w = true) : w ∈ nb := in_nb (in_t (List.mem_append_right _ (List.mem_append_right _ (List.mem_append_right _ (List.mem_append_right _ (List.mem_append_left _ h)))))) g
theorem in_l5 {w : Cond} (h : w ∈ tables_1_5) : w ∈ lw_tbl := in_t (List.mem_append_right _ (List.mem_append_right _ (List.mem_append_right _ (List.mem_append_right _ (List.mem_append_left _ h)))))
theorem in_n6 {w : Cond} (h : w ∈ tables_1_6) (g : isNest w = true) : w ∈ nb := in_nb (in_t (List.mem_append_right _ (List.mem_append_right _ (List.mem_append_right _ (List.mem_append_right _ (List.mem_append_right _ (List.mem_append_left _ h))))))) g
theorem in_l6 {w : Cond} (h : w ∈ tables_1_6) : w ∈ lw_tbl := in_t (List.mem_append_right _ (List.mem_append_right _ (List.mem_append_right _ (List.mem_append_right _ (List.mem_append_right _ (List.mem_append_left _ h))))))
theorem in_n7 {w : Cond} (h : w ∈ tables_1_7) (g : isNest w = true) : w ∈ nb := in_nb (in_t (List.mem_append_right _ (List.mem_append_right _ (List.mem_append_right _ (List.mem_append_right _ (List.mem_append_right _ (List.mem_append_right _ (h)))))))) g
theorem in_l7 {w : Cond} (h : w ∈ tables_1_7) : w ∈ lw_tbl := in_t (List.mem_append_right _ (List.mem_append_right _ (List.mem_append_right _ (List.mem_append_right _ (List.mem_append_right _ (List.mem_append_right _ (h)))))))
theorem in_ts {w : Cond} (h : w ∈ k2_sels lw_privs) (g : goodWord w = true) : w ∈ bt := in_bt (List.mem_append_left _ h) g
theorem m1_0 : Cond.initialized RL ∈ bt := in_t1 (List.mem_of_getElem? (i := 0) (by decide +kernel)) rfl
theorem m1_1 : Cond.initialized RX12 ∈ bt := in_t1 (List.mem_of_getElem? (i := 1) (by decide +kernel)) rfl
theorem m1_2 : Cond.initialized RX9 ∈ bt := in_t1 (List.mem_of_getElem? (i := 2) (by decide +kernel)) rfl
theorem m1_3 : Cond.initialized RX2 ∈ bt := in_t1 (List.mem_of_getElem? (i := 3) (by decide +kernel)) rfl
theorem m1_4 : Cond.initialized RX4 ∈ bt := in_t1 (List.mem_of_getElem? (i := 4) (by decide +kernel)) rfl
theorem m1_5 : Cond.initialized RJ9 ∈ bt := in_t1 (List.mem_of_getElem? (i := 5) (by decide +kernel)) rfl
theorem m1_6 : Cond.initialized RX3 ∈ bt := in_t1 (List.mem_of_getElem? (i := 6) (by decide +kernel)) rfl
theorem m1_7 : Cond.initialized RJ7 ∈ bt := in_t1 (List.mem_of_getElem? (i := 7) (by decide +kernel)) rfl
theorem m1_8 : Cond.initialized RX5 ∈ bt := in_t1 (List.mem_of_getElem? (i := 8) (by decide +kernel)) rfl
theorem m1_9 : Cond.initialized RX8 ∈ bt := in_t1 (List.mem_of_getElem? (i := 9) (by decide +kernel)) rfl
theorem m1_10 : Cond.initialized RJx29ce0 ∈ bt := in_t1 (List.mem_of_getElem? (i := 10) (by decide +kernel)) rfl
theorem m1_11 : Cond.initialized RX11 ∈ bt := in_t1 (List.mem_of_getElem? (i := 11) (by decide +kernel)) rfl
theorem m1_12 : Cond.initialized RX10 ∈ bt := in_t1 (List.mem_of_getElem? (i := 12) (by decide +kernel)) rfl
theorem m1_13 : Cond.initialized RX7 ∈ bt := in_t1 (List.mem_of_getElem? (i := 13) (by decide +kernel)) rfl
theorem m1_14 : Cond.initialized RX6 ∈ bt := in_t1 (List.mem_of_getElem? (i := 14) (by decide +kernel)) rfl
theorem m1_15 : Cond.initialized RX1 ∈ bt := in_t1 (List.mem_of_getElem? (i := 15) (by decide +kernel)) rfl
theorem m1_16 : Cond.initialized RJ5 ∈ bt := in_t1 (List.mem_of_getElem? (i := 16) (by decide +kernel)) rfl
theorem m1_17 : Cond.initialized RJ4 ∈ bt := in_t1 (List.mem_of_getElem? (i := 17) (by decide +kernel)) rfl
theorem m1_18 : Cond.initialized RJ0 ∈ bt := in_t1 (List.mem_of_getElem? (i := 18) (by decide +kernel)) rfl
theorem m1_19 : Cond.initialized RJ2 ∈ bt := in_t1 (List.mem_of_getElem? (i := 19) (by decide +kernel)) rfl
theorem m1_20 : Cond.initialized RJ8 ∈ bt := in_t1 (List.mem_of_getElem? (i := 20) (by decide +kernel)) rfl
theorem m1_21 : Cond.initialized RJ10 ∈ bt := in_t1 (List.mem_of_getElem? (i := 21) (by decide +kernel)) rfl
theorem m1_22 : Cond.initialized RJ3 ∈ bt := in_t1 (List.mem_of_getElem? (i := 22) (by decide +kernel)) rfl
theorem m1_23 : Cond.initialized RJ1 ∈ bt := in_t1 (List.mem_of_getElem? (i := 23) (by decide +kernel)) rfl
theorem m1_24 : Cond.initialized RJxd2413 ∈ bt := in_t1 (List.mem_of_getElem? (i := 24) (by decide +kernel)) rfl
theorem m1_25 : Cond.initialized RJ6 ∈ bt := in_t1 (List.mem_of_getElem? (i := 25) (by decide +kernel)) rfl
theorem m1_26 : Cond.initialized "java/lang/Throwable" ∈ bt := in_t1 (List.mem_of_getElem? (i := 26) (by decide +kernel)) rfl
theorem m1_27 : Cond.initialized "java/lang/Exception" ∈ bt := in_t1 (List.mem_of_getElem? (i := 27) (by decide +kernel)) rfl
theorem m1_28 : Cond.initialized "java/lang/RuntimeException" ∈ bt := in_t1 (List.mem_of_getElem? (i := 28) (by decide +kernel)) rfl
theorem m1_29 : Cond.initialized "java/lang/IllegalArgumentException" ∈ bt := in_t1 (List.mem_of_getElem? (i := 29) (by decide +kernel)) rfl
theorem m1_30 : Cond.initialized RX0 ∈ bt := in_t1 (List.mem_of_getElem? (i := 30) (by decide +kernel)) rfl
theorem m1_31 : Cond.initialized "java/lang/IndexOutOfBoundsException" ∈ bt := in_t1 (List.mem_of_getElem? (i := 31) (by decide +kernel)) rfl
theorem m1_32 : Cond.initialized "java/lang/IllegalStateException" ∈ bt := in_t1 (List.mem_of_getElem? (i := 32) (by decide +kernel)) rfl
theorem m1_33 : Cond.initialized "java/util/NoSuchElementException" ∈ bt := in_t1 (List.mem_of_getElem? (i := 33) (by decide +kernel)) rfl
theorem m1_34 : Cond.classLink RL 26 RX12 ∈ bt := in_t1 (List.mem_of_getElem? (i := 34) (by decide +kernel)) rfl
theorem m1_35 : Cond.instantiable RX12 16 ∈ bt := in_t1 (List.mem_of_getElem? (i := 35) (by decide +kernel)) rfl
theorem m1_36 : Cond.methodLink RL 168 yX12_init ∈ bt := in_t1 (List.mem_of_getElem? (i := 36) (by decide +kernel)) rfl
theorem m1_37 : Cond.instanceMethod yX12_init ∈ bt := in_t1 (List.mem_of_getElem? (i := 37) (by decide +kernel)) rfl
theorem m1_38 : Cond.code yX12_init cX12_init 3 (Option.none : Option Jvm.ClassFile.FieldType) ∈ bt := in_t1 (List.mem_of_getElem? (i := 38) (by decide +kernel)) rfl
theorem m1_39 : Cond.methodLink RX12 3 ({ cls := "java/lang/Object", name := "<init>", desc := "()V" } : Jvm.MethodName) ∈ bt := in_t1 (List.mem_of_getElem? (i := 39) (by decide +kernel)) rfl
theorem m1_40 : Cond.instanceMethod ({ cls := "java/lang/Object", name := "<init>", desc := "()V" } : Jvm.MethodName) ∈ bt := in_t1 (List.mem_of_getElem? (i := 40) (by decide +kernel)) rfl
theorem m1_41 : Cond.code ({ cls := "java/lang/Object", name := "<init>", desc := "()V" } : Jvm.MethodName) object_method_1_code 1 (Option.none : Option Jvm.ClassFile.FieldType) ∈ bt := in_t1 (List.mem_of_getElem? (i := 41) (by decide +kernel)) rfl
theorem m1_42 : Cond.classLink RX12 9 RX9 ∈ bt := in_t1 (List.mem_of_getElem? (i := 42) (by decide +kernel)) rfl
theorem m1_43 : Cond.instantiable RX9 15 ∈ bt := in_t1 (List.mem_of_getElem? (i := 43) (by decide +kernel)) rfl
theorem m1_44 : Cond.methodLink RX12 11 yX9_init ∈ bt := in_t1 (List.mem_of_getElem? (i := 44) (by decide +kernel)) rfl
theorem m1_45 : Cond.instanceMethod yX9_init ∈ bt := in_t1 (List.mem_of_getElem? (i := 45) (by decide +kernel)) rfl
theorem m1_46 : Cond.code yX9_init cX9_init 2 (Option.none : Option Jvm.ClassFile.FieldType) ∈ bt := in_t1 (List.mem_of_getElem? (i := 46) (by decide +kernel)) rfl
theorem m1_47 : Cond.methodLink RX9 3 ({ cls := "java/lang/Object", name := "<init>", desc := "()V" } : Jvm.MethodName) ∈ bt := in_t1 (List.mem_of_getElem? (i := 47) (by decide +kernel)) rfl
theorem m1_48 : Cond.classLink RX9 9 RX4 ∈ bt := in_t1 (List.mem_of_getElem? (i := 48) (by decide +kernel)) rfl
theorem m1_49 : Cond.arrayOver (Jvm.ClassFile.FieldType.object RX4) ∈ lw_tbl := in_l1 (List.mem_of_getElem? (i := 49) (by decide +kernel))
theorem m1_50 : Cond.classLink RX9 42 RX3 ∈ bt := in_t1 (List.mem_of_getElem? (i := 50) (by decide +kernel)) rfl
theorem m1_51 : Cond.arrayOver (Jvm.ClassFile.FieldType.object RX3) ∈ lw_tbl := in_l1 (List.mem_of_getElem? (i := 51) (by decide +kernel))
theorem m1_52 : Cond.classLink RX9 48 RX2 ∈ bt := in_t1 (List.mem_of_getElem? (i := 52) (by decide +kernel)) rfl
theorem m1_53 : Cond.instantiable RX2 2 ∈ bt := in_t1 (List.mem_of_getElem? (i := 53) (by decide +kernel)) rfl
theorem m1_54 : Cond.methodLinkNest RX9 50 yX2_init RX12 ∈ nb := in_n1 (List.mem_of_getElem? (i := 54) (by decide +kernel)) rfl
theorem m1_55 : Cond.instanceMethod yX2_init ∈ bt := in_t1 (List.mem_of_getElem? (i := 55) (by decide +kernel)) rfl
theorem m1_56 : Cond.code yX2_init cX2_init 1 (Option.none : Option Jvm.ClassFile.FieldType) ∈ bt := in_t1 (List.mem_of_getElem? (i := 56) (by decide +kernel)) rfl
theorem m1_57 : Cond.methodLink RX2 3 ({ cls := "java/lang/Object", name := "<init>", desc := "()V" } : Jvm.MethodName) ∈ bt := in_t1 (List.mem_of_getElem? (i := 57) (by decide +kernel)) rfl
theorem m1_58 : Cond.fieldLink RX2 9 RX2 "bits" "[I" ∈ bt := in_t1 (List.mem_of_getElem? (i := 58) (by decide +kernel)) rfl
theorem m1_59 : Cond.fieldLink RX2 19 RX2 "size" "I" ∈ bt := in_t1 (List.mem_of_getElem? (i := 59) (by decide +kernel)) rfl
theorem m1_60 : Cond.fieldLinkNest RX5 107 RX2 "size" "I" RX12 ∈ nb := in_n1 (List.mem_of_getElem? (i := 60) (by decide +kernel)) rfl
theorem m1_61 : Cond.fieldLinkNest RX12 113 RX2 "size" "I" RX12 ∈ nb := in_n1 (List.mem_of_getElem? (i := 61) (by decide +kernel)) rfl
theorem m1_62 : Cond.laysFinal RX2 RX2 "bits" "[I" ∈ bt := in_t1 (List.mem_of_getElem? (i := 62) (by decide +kernel)) rfl
theorem m1_64 : Cond.lays RX2 RX2 "size" "I" ∈ bt := in_t1 (List.mem_of_getElem? (i := 64) (by decide +kernel)) rfl
theorem m1_66 : Cond.superclass RX2 "java/lang/Object" ∈ bt := in_t1 (List.mem_of_getElem? (i := 66) (by decide +kernel)) rfl
theorem m1_67 : Cond.arrayClass Jvm.ClassFile.FieldType.int ∈ bt := in_t1 (List.mem_of_getElem? (i := 67) (by decide +kernel)) rfl
theorem m1_68 : Cond.instantiable RX4 2 ∈ bt := in_t1 (List.mem_of_getElem? (i := 68) (by decide +kernel)) rfl
theorem m1_69 : Cond.methodLink RX9 58 yX4_init ∈ bt := in_t1 (List.mem_of_getElem? (i := 69) (by decide +kernel)) rfl
theorem m1_70 : Cond.instanceMethod yX4_init ∈ bt := in_t1 (List.mem_of_getElem? (i := 70) (by decide +kernel)) rfl
theorem m1_71 : Cond.code yX4_init cX4_init 2 (Option.none : Option Jvm.ClassFile.FieldType) ∈ bt := in_t1 (List.mem_of_getElem? (i := 71) (by decide +kernel)) rfl
theorem m1_72 : Cond.methodLink RX4 3 ({ cls := "java/lang/Object", name := "<init>", desc := "()V" } : Jvm.MethodName) ∈ bt := in_t1 (List.mem_of_getElem? (i := 72) (by decide +kernel)) rfl
theorem m1_73 : Cond.methodLink RX4 9 yJ9_max_7cf53 ∈ bt := in_t1 (List.mem_of_getElem? (i := 73) (by decide +kernel)) rfl
theorem m1_74 : Cond.static yJ9_max_7cf53 ∈ bt := in_t1 (List.mem_of_getElem? (i := 74) (by decide +kernel)) rfl
theorem m1_75 : Cond.code yJ9_max_7cf53 cJ9_max_7cf53 2 (Option.some Jvm.ClassFile.FieldType.int) ∈ bt := in_t1 (List.mem_of_getElem? (i := 75) (by decide +kernel)) rfl
theorem m1_76 : Cond.fieldLink RX4 15 RX4 "packed" "[J" ∈ bt := in_t1 (List.mem_of_getElem? (i := 76) (by decide +kernel)) rfl
theorem m1_77 : Cond.fieldLink RX4 21 RX4 "size" "I" ∈ bt := in_t1 (List.mem_of_getElem? (i := 77) (by decide +kernel)) rfl
theorem m1_78 : Cond.fieldLinkNest RX9 65 RX4 "size" "I" RX12 ∈ nb := in_n1 (List.mem_of_getElem? (i := 78) (by decide +kernel)) rfl
theorem m1_79 : Cond.laysFinal RX4 RX4 "packed" "[J" ∈ bt := in_t1 (List.mem_of_getElem? (i := 79) (by decide +kernel)) rfl
theorem m1_81 : Cond.lays RX4 RX4 "size" "I" ∈ bt := in_t1 (List.mem_of_getElem? (i := 81) (by decide +kernel)) rfl
theorem m1_83 : Cond.superclass RX4 "java/lang/Object" ∈ bt := in_t1 (List.mem_of_getElem? (i := 83) (by decide +kernel)) rfl
theorem m1_84 : Cond.arrayClass Jvm.ClassFile.FieldType.long ∈ bt := in_t1 (List.mem_of_getElem? (i := 84) (by decide +kernel)) rfl
theorem m1_85 : Cond.instantiable RX3 7 ∈ bt := in_t1 (List.mem_of_getElem? (i := 85) (by decide +kernel)) rfl
theorem m1_86 : Cond.methodLinkNest RX9 61 yX3_init RX12 ∈ nb := in_n1 (List.mem_of_getElem? (i := 86) (by decide +kernel)) rfl
theorem m1_87 : Cond.instanceMethod yX3_init ∈ bt := in_t1 (List.mem_of_getElem? (i := 87) (by decide +kernel)) rfl
theorem m1_88 : Cond.code yX3_init cX3_init 1 (Option.none : Option Jvm.ClassFile.FieldType) ∈ bt := in_t1 (List.mem_of_getElem? (i := 88) (by decide +kernel)) rfl
theorem m1_89 : Cond.methodLink RX3 1 ({ cls := "java/lang/Object", name := "<init>", desc := "()V" } : Jvm.MethodName) ∈ bt := in_t1 (List.mem_of_getElem? (i := 89) (by decide +kernel)) rfl
theorem m1_90 : Cond.fieldLink RX3 7 RX3 "filed" "I" ∈ bt := in_t1 (List.mem_of_getElem? (i := 90) (by decide +kernel)) rfl
theorem m1_91 : Cond.fieldLinkNest RX6 40 RX3 "filed" "I" RX12 ∈ nb := in_n1 (List.mem_of_getElem? (i := 91) (by decide +kernel)) rfl
theorem m1_92 : Cond.fieldLinkNest RX10 81 RX3 "filed" "I" RX12 ∈ nb := in_n1 (List.mem_of_getElem? (i := 92) (by decide +kernel)) rfl
theorem m1_93 : Cond.fieldLinkNest RX5 189 RX3 "filed" "I" RX12 ∈ nb := in_n1 (List.mem_of_getElem? (i := 93) (by decide +kernel)) rfl
theorem m1_94 : Cond.fieldLinkNest RX12 217 RX3 "filed" "I" RX12 ∈ nb := in_n1 (List.mem_of_getElem? (i := 94) (by decide +kernel)) rfl
theorem m1_95 : Cond.fieldLink RX3 13 RX3 "slots" "I" ∈ bt := in_t1 (List.mem_of_getElem? (i := 95) (by decide +kernel)) rfl
theorem m1_96 : Cond.fieldLinkNest RX6 61 RX3 "slots" "I" RX12 ∈ nb := in_n1 (List.mem_of_getElem? (i := 96) (by decide +kernel)) rfl
theorem m1_97 : Cond.fieldLinkNest RX5 194 RX3 "slots" "I" RX12 ∈ nb := in_n1 (List.mem_of_getElem? (i := 97) (by decide +kernel)) rfl
theorem m1_98 : Cond.fieldLinkNest RX10 113 RX3 "slots" "I" RX12 ∈ nb := in_n1 (List.mem_of_getElem? (i := 98) (by decide +kernel)) rfl
theorem m1_99 : Cond.fieldLinkNest RX12 222 RX3 "slots" "I" RX12 ∈ nb := in_n1 (List.mem_of_getElem? (i := 99) (by decide +kernel)) rfl
theorem m1_100 : Cond.fieldLink RX3 16 RX3 "limit" "I" ∈ bt := in_t1 (List.mem_of_getElem? (i := 100) (by decide +kernel)) rfl
theorem m1_101 : Cond.fieldLinkNest RX10 75 RX3 "limit" "I" RX12 ∈ nb := in_n1 (List.mem_of_getElem? (i := 101) (by decide +kernel)) rfl
theorem m1_102 : Cond.fieldLinkNest RX5 200 RX3 "limit" "I" RX12 ∈ nb := in_n1 (List.mem_of_getElem? (i := 102) (by decide +kernel)) rfl
theorem m1_103 : Cond.fieldLinkNest RX12 225 RX3 "limit" "I" RX12 ∈ nb := in_n1 (List.mem_of_getElem? (i := 103) (by decide +kernel)) rfl
theorem m1_104 : Cond.fieldLink RX3 19 RX3 "custody" "Z" ∈ bt := in_t1 (List.mem_of_getElem? (i := 104) (by decide +kernel)) rfl
theorem m1_105 : Cond.fieldLinkNest RX5 206 RX3 "custody" "Z" RX12 ∈ nb := in_n1 (List.mem_of_getElem? (i := 105) (by decide +kernel)) rfl
theorem m1_106 : Cond.fieldLinkNest RX10 151 RX3 "custody" "Z" RX12 ∈ nb := in_n1 (List.mem_of_getElem? (i := 106) (by decide +kernel)) rfl
theorem m1_107 : Cond.fieldLinkNest RX12 239 RX3 "custody" "Z" RX12 ∈ nb := in_n1 (List.mem_of_getElem? (i := 107) (by decide +kernel)) rfl
theorem m1_108 : Cond.fieldLink RX3 23 RX3 "needs" "I" ∈ bt := in_t1 (List.mem_of_getElem? (i := 108) (by decide +kernel)) rfl
theorem m1_109 : Cond.fieldLinkNest RX5 220 RX3 "needs" "I" RX12 ∈ nb := in_n1 (List.mem_of_getElem? (i := 109) (by decide +kernel)) rfl
theorem m1_110 : Cond.fieldLinkNest RX6 153 RX3 "needs" "I" RX12 ∈ nb := in_n1 (List.mem_of_getElem? (i := 110) (by decide +kernel)) rfl
theorem m1_111 : Cond.fieldLinkNest RX12 245 RX3 "needs" "I" RX12 ∈ nb := in_n1 (List.mem_of_getElem? (i := 111) (by decide +kernel)) rfl
theorem m1_112 : Cond.fieldLink RX3 26 RX3 "conflicts" "I" ∈ bt := in_t1 (List.mem_of_getElem? (i := 112) (by decide +kernel)) rfl
theorem m1_113 : Cond.fieldLinkNest RX9 94 RX3 "conflicts" "I" RX12 ∈ nb := in_n1 (List.mem_of_getElem? (i := 113) (by decide +kernel)) rfl
theorem m1_114 : Cond.fieldLinkNest RX5 229 RX3 "conflicts" "I" RX12 ∈ nb := in_n1 (List.mem_of_getElem? (i := 114) (by decide +kernel)) rfl
theorem m1_115 : Cond.fieldLinkNest RX10 132 RX3 "conflicts" "I" RX12 ∈ nb := in_n1 (List.mem_of_getElem? (i := 115) (by decide +kernel)) rfl
theorem m1_116 : Cond.fieldLinkNest RX12 253 RX3 "conflicts" "I" RX12 ∈ nb := in_n1 (List.mem_of_getElem? (i := 116) (by decide +kernel)) rfl
theorem m1_117 : Cond.fieldLink RX3 29 RX3 "bars" "I" ∈ bt := in_t1 (List.mem_of_getElem? (i := 117) (by decide +kernel)) rfl
theorem m1_118 : Cond.fieldLinkNest RX10 61 RX3 "bars" "I" RX12 ∈ nb := in_n1 (List.mem_of_getElem? (i := 118) (by decide +kernel)) rfl
theorem m1_119 : Cond.fieldLinkNest RX5 226 RX3 "bars" "I" RX12 ∈ nb := in_n1 (List.mem_of_getElem? (i := 119) (by decide +kernel)) rfl
theorem m1_120 : Cond.lays RX3 RX3 "filed" "I" ∈ bt := in_t1 (List.mem_of_getElem? (i := 120) (by decide +kernel)) rfl
theorem m1_122 : Cond.lays RX3 RX3 "slots" "I" ∈ bt := in_t1 (List.mem_of_getElem? (i := 122) (by decide +kernel)) rfl
theorem m1_124 : Cond.lays RX3 RX3 "limit" "I" ∈ bt := in_t1 (List.mem_of_getElem? (i := 124) (by decide +kernel)) rfl
theorem m1_126 : Cond.lays RX3 RX3 "custody" "Z" ∈ bt := in_t1 (List.mem_of_getElem? (i := 126) (by decide +kernel)) rfl
theorem m1_128 : Cond.lays RX3 RX3 "needs" "I" ∈ bt := in_t1 (List.mem_of_getElem? (i := 128) (by decide +kernel)) rfl
theorem m1_130 : Cond.lays RX3 RX3 "conflicts" "I" ∈ bt := in_t1 (List.mem_of_getElem? (i := 130) (by decide +kernel)) rfl
theorem m1_132 : Cond.lays RX3 RX3 "bars" "I" ∈ bt := in_t1 (List.mem_of_getElem? (i := 132) (by decide +kernel)) rfl
theorem m1_134 : Cond.superclass RX3 "java/lang/Object" ∈ bt := in_t1 (List.mem_of_getElem? (i := 134) (by decide +kernel)) rfl
theorem m1_135 : Cond.methodLink RX9 62 yX9_clear ∈ bt := in_t1 (List.mem_of_getElem? (i := 135) (by decide +kernel)) rfl
theorem m1_136 : Cond.instanceMethod yX9_clear ∈ bt := in_t1 (List.mem_of_getElem? (i := 136) (by decide +kernel)) rfl
theorem m1_137 : Cond.selects RX9 yX9_clear yX9_clear ∈ bt := in_t1 (List.mem_of_getElem? (i := 137) (by decide +kernel)) rfl
theorem m1_138 : Cond.code yX9_clear cX9_clear 2 (Option.none : Option Jvm.ClassFile.FieldType) ∈ bt := in_t1 (List.mem_of_getElem? (i := 138) (by decide +kernel)) rfl
theorem m1_139 : Cond.methodLink RX9 69 yX3_clear ∈ bt := in_t1 (List.mem_of_getElem? (i := 139) (by decide +kernel)) rfl
theorem m1_140 : Cond.instanceMethod yX3_clear ∈ bt := in_t1 (List.mem_of_getElem? (i := 140) (by decide +kernel)) rfl
theorem m1_141 : Cond.selects RX3 yX3_clear yX3_clear ∈ bt := in_t1 (List.mem_of_getElem? (i := 141) (by decide +kernel)) rfl
theorem m1_142 : Cond.code yX3_clear cX3_clear 1 (Option.none : Option Jvm.ClassFile.FieldType) ∈ bt := in_t1 (List.mem_of_getElem? (i := 142) (by decide +kernel)) rfl
theorem m1_143 : Cond.methodLink RX9 70 yJ7_fill_53178 ∈ bt := in_t1 (List.mem_of_getElem? (i := 143) (by decide +kernel)) rfl
theorem m1_144 : Cond.static yJ7_fill_53178 ∈ bt := in_t1 (List.mem_of_getElem? (i := 144) (by decide +kernel)) rfl
theorem m1_145 : Cond.code yJ7_fill_53178 cJ7_fill_53178 4 (Option.none : Option Jvm.ClassFile.FieldType) ∈ bt := in_t1 (List.mem_of_getElem? (i := 145) (by decide +kernel)) rfl
theorem m1_146 : Cond.methodLink RX9 76 yX2_clear ∈ bt := in_t1 (List.mem_of_getElem? (i := 146) (by decide +kernel)) rfl
theorem m1_147 : Cond.instanceMethod yX2_clear ∈ bt := in_t1 (List.mem_of_getElem? (i := 147) (by decide +kernel)) rfl
theorem m1_148 : Cond.selects RX2 yX2_clear yX2_clear ∈ bt := in_t1 (List.mem_of_getElem? (i := 148) (by decide +kernel)) rfl
theorem m1_149 : Cond.code yX2_clear cX2_clear 1 (Option.none : Option Jvm.ClassFile.FieldType) ∈ bt := in_t1 (List.mem_of_getElem? (i := 149) (by decide +kernel)) rfl
theorem m1_150 : Cond.methodLink RX2 23 yJ7_fill_53178 ∈ bt := in_t1 (List.mem_of_getElem? (i := 150) (by decide +kernel)) rfl
theorem m1_151 : Cond.fieldLink RX9 11 RX9 "names" "[LCourtCalendar$Names;" ∈ bt := in_t1 (List.mem_of_getElem? (i := 151) (by decide +kernel)) rfl
theorem m1_152 : Cond.fieldLinkNest RX5 244 RX9 "names" "[LCourtCalendar$Names;" RX12 ∈ nb := in_n1 (List.mem_of_getElem? (i := 152) (by decide +kernel)) rfl
theorem m1_153 : Cond.fieldLink RX9 17 RX9 "roomSlots" "[I" ∈ bt := in_t1 (List.mem_of_getElem? (i := 153) (by decide +kernel)) rfl
theorem m1_154 : Cond.fieldLinkNest RX6 68 RX9 "roomSlots" "[I" RX12 ∈ nb := in_n1 (List.mem_of_getElem? (i := 154) (by decide +kernel)) rfl
theorem m1_155 : Cond.fieldLinkNest RX5 138 RX9 "roomSlots" "[I" RX12 ∈ nb := in_n1 (List.mem_of_getElem? (i := 155) (by decide +kernel)) rfl
theorem m1_156 : Cond.fieldLink RX9 21 RX9 "offs" "[I" ∈ bt := in_t1 (List.mem_of_getElem? (i := 156) (by decide +kernel)) rfl
theorem m1_157 : Cond.fieldLink RX9 24 RX9 "firstOffs" "[I" ∈ bt := in_t1 (List.mem_of_getElem? (i := 157) (by decide +kernel)) rfl
theorem m1_158 : Cond.fieldLink RX9 27 RX9 "lastOffs" "[I" ∈ bt := in_t1 (List.mem_of_getElem? (i := 158) (by decide +kernel)) rfl
theorem m1_159 : Cond.fieldLink RX9 30 RX9 "firstDays" "[I" ∈ bt := in_t1 (List.mem_of_getElem? (i := 159) (by decide +kernel)) rfl
theorem m1_160 : Cond.fieldLinkNest RX5 164 RX9 "firstDays" "[I" RX12 ∈ nb := in_n1 (List.mem_of_getElem? (i := 160) (by decide +kernel)) rfl
theorem m1_161 : Cond.fieldLinkNest RX10 135 RX9 "firstDays" "[I" RX12 ∈ nb := in_n1 (List.mem_of_getElem? (i := 161) (by decide +kernel)) rfl
theorem m1_162 : Cond.fieldLink RX9 33 RX9 "lastDays" "[I" ∈ bt := in_t1 (List.mem_of_getElem? (i := 162) (by decide +kernel)) rfl
theorem m1_163 : Cond.fieldLinkNest RX10 50 RX9 "lastDays" "[I" RX12 ∈ nb := in_n1 (List.mem_of_getElem? (i := 163) (by decide +kernel)) rfl
theorem m1_164 : Cond.fieldLinkNest RX5 167 RX9 "lastDays" "[I" RX12 ∈ nb := in_n1 (List.mem_of_getElem? (i := 164) (by decide +kernel)) rfl
theorem m1_165 : Cond.fieldLink RX9 36 RX9 "firstSlots" "[I" ∈ bt := in_t1 (List.mem_of_getElem? (i := 165) (by decide +kernel)) rfl
theorem m1_166 : Cond.fieldLinkNest RX5 170 RX9 "firstSlots" "[I" RX12 ∈ nb := in_n1 (List.mem_of_getElem? (i := 166) (by decide +kernel)) rfl
theorem m1_167 : Cond.fieldLinkNest RX10 138 RX9 "firstSlots" "[I" RX12 ∈ nb := in_n1 (List.mem_of_getElem? (i := 167) (by decide +kernel)) rfl
theorem m1_168 : Cond.fieldLink RX9 39 RX9 "lastSlots" "[I" ∈ bt := in_t1 (List.mem_of_getElem? (i := 168) (by decide +kernel)) rfl
theorem m1_169 : Cond.fieldLinkNest RX5 173 RX9 "lastSlots" "[I" RX12 ∈ nb := in_n1 (List.mem_of_getElem? (i := 169) (by decide +kernel)) rfl
theorem m1_170 : Cond.fieldLinkNest RX10 141 RX9 "lastSlots" "[I" RX12 ∈ nb := in_n1 (List.mem_of_getElem? (i := 170) (by decide +kernel)) rfl
theorem m1_171 : Cond.fieldLink RX9 44 RX9 "matters" "[LCourtCalendar$Matter;" ∈ bt := in_t1 (List.mem_of_getElem? (i := 171) (by decide +kernel)) rfl
theorem m1_172 : Cond.fieldLinkNest RX6 30 RX9 "matters" "[LCourtCalendar$Matter;" RX12 ∈ nb := in_n1 (List.mem_of_getElem? (i := 172) (by decide +kernel)) rfl
theorem m1_173 : Cond.fieldLinkNest RX10 57 RX9 "matters" "[LCourtCalendar$Matter;" RX12 ∈ nb := in_n1 (List.mem_of_getElem? (i := 173) (by decide +kernel)) rfl
theorem m1_174 : Cond.fieldLinkNest RX5 176 RX9 "matters" "[LCourtCalendar$Matter;" RX12 ∈ nb := in_n1 (List.mem_of_getElem? (i := 174) (by decide +kernel)) rfl
theorem m1_175 : Cond.fieldLinkNest RX12 209 RX9 "matters" "[LCourtCalendar$Matter;" RX12 ∈ nb := in_n1 (List.mem_of_getElem? (i := 175) (by decide +kernel)) rfl
theorem m1_176 : Cond.fieldLink RX9 51 RX9 "holidays" "LCourtCalendar$Days;" ∈ bt := in_t1 (List.mem_of_getElem? (i := 176) (by decide +kernel)) rfl
theorem m1_177 : Cond.fieldLinkNest RX10 43 RX9 "holidays" "LCourtCalendar$Days;" RX12 ∈ nb := in_n1 (List.mem_of_getElem? (i := 177) (by decide +kernel)) rfl
theorem m1_178 : Cond.fieldLinkNest RX5 103 RX9 "holidays" "LCourtCalendar$Days;" RX12 ∈ nb := in_n1 (List.mem_of_getElem? (i := 178) (by decide +kernel)) rfl
theorem m1_179 : Cond.fieldLink RX9 55 RX9 "reasonDays" "[I" ∈ bt := in_t1 (List.mem_of_getElem? (i := 179) (by decide +kernel)) rfl
theorem m1_180 : Cond.fieldLinkNest RX5 235 RX9 "reasonDays" "[I" RX12 ∈ nb := in_n1 (List.mem_of_getElem? (i := 180) (by decide +kernel)) rfl
theorem m1_181 : Cond.fieldLinkNest RX10 158 RX9 "reasonDays" "[I" RX12 ∈ nb := in_n1 (List.mem_of_getElem? (i := 181) (by decide +kernel)) rfl
theorem m1_182 : Cond.fieldLink RX9 77 RX9 "toldReasons" "I" ∈ bt := in_t1 (List.mem_of_getElem? (i := 182) (by decide +kernel)) rfl
theorem m1_183 : Cond.fieldLinkNest RX5 232 RX9 "toldReasons" "I" RX12 ∈ nb := in_n1 (List.mem_of_getElem? (i := 183) (by decide +kernel)) rfl
theorem m1_184 : Cond.fieldLink RX9 80 RX9 "cap" "I" ∈ bt := in_t1 (List.mem_of_getElem? (i := 184) (by decide +kernel)) rfl
theorem m1_185 : Cond.fieldLinkNest RX12 127 RX9 "cap" "I" RX12 ∈ nb := in_n1 (List.mem_of_getElem? (i := 185) (by decide +kernel)) rfl
theorem m1_186 : Cond.fieldLinkNest RX5 241 RX9 "cap" "I" RX12 ∈ nb := in_n1 (List.mem_of_getElem? (i := 186) (by decide +kernel)) rfl
theorem m1_187 : Cond.fieldLinkNest RX10 161 RX9 "cap" "I" RX12 ∈ nb := in_n1 (List.mem_of_getElem? (i := 187) (by decide +kernel)) rfl
theorem m1_188 : Cond.fieldLink RX9 83 RX9 "toldCap" "Z" ∈ bt := in_t1 (List.mem_of_getElem? (i := 188) (by decide +kernel)) rfl
theorem m1_189 : Cond.fieldLinkNest RX5 238 RX9 "toldCap" "Z" RX12 ∈ nb := in_n1 (List.mem_of_getElem? (i := 189) (by decide +kernel)) rfl
theorem m1_190 : Cond.laysFinal RX9 RX9 "names" "[LCourtCalendar$Names;" ∈ bt := in_t1 (List.mem_of_getElem? (i := 190) (by decide +kernel)) rfl
theorem m1_192 : Cond.laysFinal RX9 RX9 "roomSlots" "[I" ∈ bt := in_t1 (List.mem_of_getElem? (i := 192) (by decide +kernel)) rfl
theorem m1_194 : Cond.laysFinal RX9 RX9 "offs" "[I" ∈ bt := in_t1 (List.mem_of_getElem? (i := 194) (by decide +kernel)) rfl
theorem m1_196 : Cond.laysFinal RX9 RX9 "firstOffs" "[I" ∈ bt := in_t1 (List.mem_of_getElem? (i := 196) (by decide +kernel)) rfl
theorem m1_198 : Cond.laysFinal RX9 RX9 "lastOffs" "[I" ∈ bt := in_t1 (List.mem_of_getElem? (i := 198) (by decide +kernel)) rfl
theorem m1_200 : Cond.laysFinal RX9 RX9 "firstDays" "[I" ∈ bt := in_t1 (List.mem_of_getElem? (i := 200) (by decide +kernel)) rfl
theorem m1_202 : Cond.laysFinal RX9 RX9 "lastDays" "[I" ∈ bt := in_t1 (List.mem_of_getElem? (i := 202) (by decide +kernel)) rfl
theorem m1_204 : Cond.laysFinal RX9 RX9 "firstSlots" "[I" ∈ bt := in_t1 (List.mem_of_getElem? (i := 204) (by decide +kernel)) rfl
theorem m1_206 : Cond.laysFinal RX9 RX9 "lastSlots" "[I" ∈ bt := in_t1 (List.mem_of_getElem? (i := 206) (by decide +kernel)) rfl
theorem m1_208 : Cond.laysFinal RX9 RX9 "matters" "[LCourtCalendar$Matter;" ∈ bt := in_t1 (List.mem_of_getElem? (i := 208) (by decide +kernel)) rfl
theorem m1_210 : Cond.laysFinal RX9 RX9 "holidays" "LCourtCalendar$Days;" ∈ bt := in_t1 (List.mem_of_getElem? (i := 210) (by decide +kernel)) rfl
theorem m1_212 : Cond.laysFinal RX9 RX9 "reasonDays" "[I" ∈ bt := in_t1 (List.mem_of_getElem? (i := 212) (by decide +kernel)) rfl
theorem m1_214 : Cond.lays RX9 RX9 "toldReasons" "I" ∈ bt := in_t1 (List.mem_of_getElem? (i := 214) (by decide +kernel)) rfl
theorem m1_216 : Cond.lays RX9 RX9 "cap" "I" ∈ bt := in_t1 (List.mem_of_getElem? (i := 216) (by decide +kernel)) rfl
theorem m1_218 : Cond.lays RX9 RX9 "toldCap" "Z" ∈ bt := in_t1 (List.mem_of_getElem? (i := 218) (by decide +kernel)) rfl
theorem m1_220 : Cond.superclass RX9 "java/lang/Object" ∈ bt := in_t1 (List.mem_of_getElem? (i := 220) (by decide +kernel)) rfl
theorem m1_221 : Cond.classLink RX12 16 RX5 ∈ bt := in_t1 (List.mem_of_getElem? (i := 221) (by decide +kernel)) rfl
theorem m1_222 : Cond.instantiable RX5 7 ∈ bt := in_t1 (List.mem_of_getElem? (i := 222) (by decide +kernel)) rfl
theorem m1_223 : Cond.methodLinkNest RX12 18 yX5_init RX12 ∈ nb := in_n1 (List.mem_of_getElem? (i := 223) (by decide +kernel)) rfl
theorem m1_224 : Cond.instanceMethod yX5_init ∈ bt := in_t1 (List.mem_of_getElem? (i := 224) (by decide +kernel)) rfl
theorem m1_225 : Cond.code yX5_init cX5_init 1 (Option.none : Option Jvm.ClassFile.FieldType) ∈ bt := in_t1 (List.mem_of_getElem? (i := 225) (by decide +kernel)) rfl
theorem m1_226 : Cond.methodLink RX5 3 ({ cls := "java/lang/Object", name := "<init>", desc := "()V" } : Jvm.MethodName) ∈ bt := in_t1 (List.mem_of_getElem? (i := 226) (by decide +kernel)) rfl
theorem m1_227 : Cond.classLink RX5 9 RX8 ∈ bt := in_t1 (List.mem_of_getElem? (i := 227) (by decide +kernel)) rfl
theorem m1_228 : Cond.instantiable RX8 7 ∈ bt := in_t1 (List.mem_of_getElem? (i := 228) (by decide +kernel)) rfl
theorem m1_229 : Cond.methodLinkNest RX5 11 yX8_init RX12 ∈ nb := in_n1 (List.mem_of_getElem? (i := 229) (by decide +kernel)) rfl
theorem m1_230 : Cond.instanceMethod yX8_init ∈ bt := in_t1 (List.mem_of_getElem? (i := 230) (by decide +kernel)) rfl
theorem m1_231 : Cond.code yX8_init cX8_init 1 (Option.none : Option Jvm.ClassFile.FieldType) ∈ bt := in_t1 (List.mem_of_getElem? (i := 231) (by decide +kernel)) rfl
theorem m1_232 : Cond.methodLink RX8 3 ({ cls := "java/lang/Object", name := "<init>", desc := "()V" } : Jvm.MethodName) ∈ bt := in_t1 (List.mem_of_getElem? (i := 232) (by decide +kernel)) rfl
theorem m1_233 : Cond.fieldLink RX8 15 RX11 "END" "LCourtCalendar$Token;" ∈ bt := in_t1 (List.mem_of_getElem? (i := 233) (by decide +kernel)) rfl
theorem m1_234 : Cond.laysStatic RX11 "END" "LCourtCalendar$Token;" ∈ lw_tbl := in_l1 (List.mem_of_getElem? (i := 234) (by decide +kernel))
theorem m1_235 : Cond.fieldLink RX8 9 RX8 "text" "[B" ∈ bt := in_t1 (List.mem_of_getElem? (i := 235) (by decide +kernel)) rfl
theorem m1_236 : Cond.fieldLink RX8 30 RX8 "length" "I" ∈ bt := in_t1 (List.mem_of_getElem? (i := 236) (by decide +kernel)) rfl
theorem m1_237 : Cond.fieldLink RX8 40 RX8 "start" "I" ∈ bt := in_t1 (List.mem_of_getElem? (i := 237) (by decide +kernel)) rfl
theorem m1_238 : Cond.fieldLinkNest RX5 59 RX8 "start" "I" RX12 ∈ nb := in_n1 (List.mem_of_getElem? (i := 238) (by decide +kernel)) rfl
theorem m1_239 : Cond.fieldLink RX8 34 RX8 "end" "I" ∈ bt := in_t1 (List.mem_of_getElem? (i := 239) (by decide +kernel)) rfl
theorem m2_0 : Cond.fieldLink RX8 21 RX8 "token" "LCourtCalendar$Token;" ∈ bt := in_t2 (List.mem_of_getElem? (i := 0) (by decide +kernel)) rfl
theorem m2_1 : Cond.fieldLinkNest RX5 39 RX8 "token" "LCourtCalendar$Token;" RX12 ∈ nb := in_n2 (List.mem_of_getElem? (i := 1) (by decide +kernel)) rfl
theorem m2_2 : Cond.fieldLink RX8 43 RX8 "word" "J" ∈ bt := in_t2 (List.mem_of_getElem? (i := 2) (by decide +kernel)) rfl
theorem m2_3 : Cond.fieldLinkNest RX5 256 RX8 "word" "J" RX12 ∈ nb := in_n2 (List.mem_of_getElem? (i := 3) (by decide +kernel)) rfl
theorem m2_4 : Cond.fieldLink RX8 47 RX8 "number" "I" ∈ bt := in_t2 (List.mem_of_getElem? (i := 4) (by decide +kernel)) rfl
theorem m2_5 : Cond.fieldLinkNest RX5 119 RX8 "number" "I" RX12 ∈ nb := in_n2 (List.mem_of_getElem? (i := 5) (by decide +kernel)) rfl
theorem m2_6 : Cond.lays RX8 RX8 "text" "[B" ∈ bt := in_t2 (List.mem_of_getElem? (i := 6) (by decide +kernel)) rfl
theorem m2_8 : Cond.lays RX8 RX8 "length" "I" ∈ bt := in_t2 (List.mem_of_getElem? (i := 8) (by decide +kernel)) rfl
theorem m2_10 : Cond.lays RX8 RX8 "start" "I" ∈ bt := in_t2 (List.mem_of_getElem? (i := 10) (by decide +kernel)) rfl
theorem m2_12 : Cond.lays RX8 RX8 "end" "I" ∈ bt := in_t2 (List.mem_of_getElem? (i := 12) (by decide +kernel)) rfl
theorem m2_14 : Cond.lays RX8 RX8 "token" "LCourtCalendar$Token;" ∈ bt := in_t2 (List.mem_of_getElem? (i := 14) (by decide +kernel)) rfl
theorem m2_16 : Cond.lays RX8 RX8 "word" "J" ∈ bt := in_t2 (List.mem_of_getElem? (i := 16) (by decide +kernel)) rfl
theorem m2_18 : Cond.lays RX8 RX8 "number" "I" ∈ bt := in_t2 (List.mem_of_getElem? (i := 18) (by decide +kernel)) rfl
theorem m2_20 : Cond.superclass RX8 "java/lang/Object" ∈ bt := in_t2 (List.mem_of_getElem? (i := 20) (by decide +kernel)) rfl
theorem m2_21 : Cond.arrayClass Jvm.ClassFile.FieldType.byte ∈ bt := in_t2 (List.mem_of_getElem? (i := 21) (by decide +kernel)) rfl
theorem m2_22 : Cond.classLink RX5 18 RX9 ∈ bt := in_t2 (List.mem_of_getElem? (i := 22) (by decide +kernel)) rfl
theorem m2_23 : Cond.methodLink RX5 20 yX9_init ∈ bt := in_t2 (List.mem_of_getElem? (i := 23) (by decide +kernel)) rfl
theorem m2_24 : Cond.fieldLink RX5 12 RX5 "scanner" "LCourtCalendar$Scanner;" ∈ bt := in_t2 (List.mem_of_getElem? (i := 24) (by decide +kernel)) rfl
theorem m2_25 : Cond.fieldLink RX5 21 RX5 "setup" "LCourtCalendar$Setup;" ∈ bt := in_t2 (List.mem_of_getElem? (i := 25) (by decide +kernel)) rfl
theorem m2_26 : Cond.fieldLink RX5 29 RX5 "code" "I" ∈ bt := in_t2 (List.mem_of_getElem? (i := 26) (by decide +kernel)) rfl
theorem m2_27 : Cond.fieldLinkNest RX12 81 RX5 "code" "I" RX12 ∈ nb := in_n2 (List.mem_of_getElem? (i := 27) (by decide +kernel)) rfl
theorem m2_28 : Cond.fieldLink RX5 25 RX5 "offset" "I" ∈ bt := in_t2 (List.mem_of_getElem? (i := 28) (by decide +kernel)) rfl
theorem m2_29 : Cond.fieldLinkNest RX12 84 RX5 "offset" "I" RX12 ∈ nb := in_n2 (List.mem_of_getElem? (i := 29) (by decide +kernel)) rfl
theorem m2_30 : Cond.fieldLink RX5 186 RX5 "taken" "I" ∈ bt := in_t2 (List.mem_of_getElem? (i := 30) (by decide +kernel)) rfl
theorem m2_31 : Cond.fieldLink RX5 144 RX5 "first" "I" ∈ bt := in_t2 (List.mem_of_getElem? (i := 31) (by decide +kernel)) rfl
theorem m2_32 : Cond.fieldLink RX5 147 RX5 "last" "I" ∈ bt := in_t2 (List.mem_of_getElem? (i := 32) (by decide +kernel)) rfl
theorem m2_33 : Cond.laysFinal RX5 RX5 "scanner" "LCourtCalendar$Scanner;" ∈ bt := in_t2 (List.mem_of_getElem? (i := 33) (by decide +kernel)) rfl
theorem m2_35 : Cond.lays RX5 RX5 "setup" "LCourtCalendar$Setup;" ∈ bt := in_t2 (List.mem_of_getElem? (i := 35) (by decide +kernel)) rfl
theorem m2_37 : Cond.lays RX5 RX5 "code" "I" ∈ bt := in_t2 (List.mem_of_getElem? (i := 37) (by decide +kernel)) rfl
theorem m2_39 : Cond.lays RX5 RX5 "offset" "I" ∈ bt := in_t2 (List.mem_of_getElem? (i := 39) (by decide +kernel)) rfl
theorem m2_41 : Cond.lays RX5 RX5 "taken" "I" ∈ bt := in_t2 (List.mem_of_getElem? (i := 41) (by decide +kernel)) rfl
theorem m2_43 : Cond.lays RX5 RX5 "first" "I" ∈ bt := in_t2 (List.mem_of_getElem? (i := 43) (by decide +kernel)) rfl
theorem m2_45 : Cond.lays RX5 RX5 "last" "I" ∈ bt := in_t2 (List.mem_of_getElem? (i := 45) (by decide +kernel)) rfl
theorem m2_47 : Cond.superclass RX5 "java/lang/Object" ∈ bt := in_t2 (List.mem_of_getElem? (i := 47) (by decide +kernel)) rfl
theorem m2_48 : Cond.classLink RX12 30 RX10 ∈ bt := in_t2 (List.mem_of_getElem? (i := 48) (by decide +kernel)) rfl
theorem m2_49 : Cond.instantiable RX10 6 ∈ bt := in_t2 (List.mem_of_getElem? (i := 49) (by decide +kernel)) rfl
theorem m2_50 : Cond.methodLink RX12 32 yX10_init ∈ bt := in_t2 (List.mem_of_getElem? (i := 50) (by decide +kernel)) rfl
theorem m2_51 : Cond.instanceMethod yX10_init ∈ bt := in_t2 (List.mem_of_getElem? (i := 51) (by decide +kernel)) rfl
theorem m2_52 : Cond.code yX10_init cX10_init 3 (Option.none : Option Jvm.ClassFile.FieldType) ∈ bt := in_t2 (List.mem_of_getElem? (i := 52) (by decide +kernel)) rfl
theorem m2_53 : Cond.methodLink RX10 3 ({ cls := "java/lang/Object", name := "<init>", desc := "()V" } : Jvm.MethodName) ∈ bt := in_t2 (List.mem_of_getElem? (i := 53) (by decide +kernel)) rfl
theorem m2_54 : Cond.classLink RX10 9 RX2 ∈ bt := in_t2 (List.mem_of_getElem? (i := 54) (by decide +kernel)) rfl
theorem m2_55 : Cond.methodLinkNest RX10 11 yX2_init RX12 ∈ nb := in_n2 (List.mem_of_getElem? (i := 55) (by decide +kernel)) rfl
theorem m2_56 : Cond.classLink RX10 25 RX7 ∈ bt := in_t2 (List.mem_of_getElem? (i := 56) (by decide +kernel)) rfl
theorem m2_57 : Cond.arrayOver (Jvm.ClassFile.FieldType.object RX7) ∈ lw_tbl := in_l2 (List.mem_of_getElem? (i := 57) (by decide +kernel))
theorem m2_58 : Cond.instantiable RX7 8 ∈ bt := in_t2 (List.mem_of_getElem? (i := 58) (by decide +kernel)) rfl
theorem m2_59 : Cond.methodLinkNest RX10 35 yX7_init RX12 ∈ nb := in_n2 (List.mem_of_getElem? (i := 59) (by decide +kernel)) rfl
theorem m2_60 : Cond.instanceMethod yX7_init ∈ bt := in_t2 (List.mem_of_getElem? (i := 60) (by decide +kernel)) rfl
theorem m2_61 : Cond.code yX7_init cX7_init 1 (Option.none : Option Jvm.ClassFile.FieldType) ∈ bt := in_t2 (List.mem_of_getElem? (i := 61) (by decide +kernel)) rfl
theorem m2_62 : Cond.methodLink RX7 3 ({ cls := "java/lang/Object", name := "<init>", desc := "()V" } : Jvm.MethodName) ∈ bt := in_t2 (List.mem_of_getElem? (i := 62) (by decide +kernel)) rfl
theorem m2_63 : Cond.fieldLink RX7 25 RX7 "phase" "I" ∈ bt := in_t2 (List.mem_of_getElem? (i := 63) (by decide +kernel)) rfl
theorem m2_64 : Cond.fieldLinkNest RX10 95 RX7 "phase" "I" RX12 ∈ nb := in_n2 (List.mem_of_getElem? (i := 64) (by decide +kernel)) rfl
theorem m2_65 : Cond.fieldLinkNest RX12 236 RX7 "phase" "I" RX12 ∈ nb := in_n2 (List.mem_of_getElem? (i := 65) (by decide +kernel)) rfl
theorem m2_66 : Cond.fieldLink RX7 15 RX7 "lengthening" "I" ∈ bt := in_t2 (List.mem_of_getElem? (i := 66) (by decide +kernel)) rfl
theorem m2_67 : Cond.fieldLinkNest RX10 78 RX7 "lengthening" "I" RX12 ∈ nb := in_n2 (List.mem_of_getElem? (i := 67) (by decide +kernel)) rfl
theorem m2_68 : Cond.fieldLinkNest RX12 228 RX7 "lengthening" "I" RX12 ∈ nb := in_n2 (List.mem_of_getElem? (i := 68) (by decide +kernel)) rfl
theorem m2_69 : Cond.fieldLink RX7 28 RX7 "day" "I" ∈ bt := in_t2 (List.mem_of_getElem? (i := 69) (by decide +kernel)) rfl
theorem m2_70 : Cond.fieldLinkNest RX12 256 RX7 "day" "I" RX12 ∈ nb := in_n2 (List.mem_of_getElem? (i := 70) (by decide +kernel)) rfl
theorem m2_71 : Cond.fieldLinkNest RX10 119 RX7 "day" "I" RX12 ∈ nb := in_n2 (List.mem_of_getElem? (i := 71) (by decide +kernel)) rfl
theorem m2_72 : Cond.fieldLink RX7 31 RX7 "slot" "I" ∈ bt := in_t2 (List.mem_of_getElem? (i := 72) (by decide +kernel)) rfl
theorem m2_73 : Cond.fieldLinkNest RX10 126 RX7 "slot" "I" RX12 ∈ nb := in_n2 (List.mem_of_getElem? (i := 73) (by decide +kernel)) rfl
theorem m2_74 : Cond.fieldLinkNest RX12 257 RX7 "slot" "I" RX12 ∈ nb := in_n2 (List.mem_of_getElem? (i := 74) (by decide +kernel)) rfl
theorem m2_75 : Cond.fieldLink RX7 34 RX7 "room" "I" ∈ bt := in_t2 (List.mem_of_getElem? (i := 75) (by decide +kernel)) rfl
theorem m2_76 : Cond.fieldLinkNest RX10 116 RX7 "room" "I" RX12 ∈ nb := in_n2 (List.mem_of_getElem? (i := 76) (by decide +kernel)) rfl
theorem m2_77 : Cond.fieldLinkNest RX6 174 RX7 "room" "I" RX12 ∈ nb := in_n2 (List.mem_of_getElem? (i := 77) (by decide +kernel)) rfl
theorem m2_78 : Cond.fieldLinkNest RX12 260 RX7 "room" "I" RX12 ∈ nb := in_n2 (List.mem_of_getElem? (i := 78) (by decide +kernel)) rfl
theorem m2_79 : Cond.fieldLink RX7 37 RX7 "officer" "I" ∈ bt := in_t2 (List.mem_of_getElem? (i := 79) (by decide +kernel)) rfl
theorem m2_80 : Cond.fieldLinkNest RX10 110 RX7 "officer" "I" RX12 ∈ nb := in_n2 (List.mem_of_getElem? (i := 80) (by decide +kernel)) rfl
theorem m2_81 : Cond.fieldLinkNest RX6 179 RX7 "officer" "I" RX12 ∈ nb := in_n2 (List.mem_of_getElem? (i := 81) (by decide +kernel)) rfl
theorem m2_82 : Cond.fieldLinkNest RX12 263 RX7 "officer" "I" RX12 ∈ nb := in_n2 (List.mem_of_getElem? (i := 82) (by decide +kernel)) rfl
theorem m2_83 : Cond.fieldLink RX7 19 RX7 "adjournments" "I" ∈ bt := in_t2 (List.mem_of_getElem? (i := 83) (by decide +kernel)) rfl
theorem m2_84 : Cond.fieldLinkNest RX12 242 RX7 "adjournments" "I" RX12 ∈ nb := in_n2 (List.mem_of_getElem? (i := 84) (by decide +kernel)) rfl
theorem m2_85 : Cond.fieldLinkNest RX10 155 RX7 "adjournments" "I" RX12 ∈ nb := in_n2 (List.mem_of_getElem? (i := 85) (by decide +kernel)) rfl
theorem m2_86 : Cond.fieldLink RX7 9 RX7 "log" "[I" ∈ bt := in_t2 (List.mem_of_getElem? (i := 86) (by decide +kernel)) rfl
theorem m2_87 : Cond.fieldLinkNest RX12 266 RX7 "log" "[I" RX12 ∈ nb := in_n2 (List.mem_of_getElem? (i := 87) (by decide +kernel)) rfl
theorem m2_88 : Cond.lays RX7 RX7 "phase" "I" ∈ bt := in_t2 (List.mem_of_getElem? (i := 88) (by decide +kernel)) rfl
theorem m2_90 : Cond.lays RX7 RX7 "lengthening" "I" ∈ bt := in_t2 (List.mem_of_getElem? (i := 90) (by decide +kernel)) rfl
theorem m2_92 : Cond.lays RX7 RX7 "day" "I" ∈ bt := in_t2 (List.mem_of_getElem? (i := 92) (by decide +kernel)) rfl
theorem m2_94 : Cond.lays RX7 RX7 "slot" "I" ∈ bt := in_t2 (List.mem_of_getElem? (i := 94) (by decide +kernel)) rfl
theorem m2_96 : Cond.lays RX7 RX7 "room" "I" ∈ bt := in_t2 (List.mem_of_getElem? (i := 96) (by decide +kernel)) rfl
theorem m2_98 : Cond.lays RX7 RX7 "officer" "I" ∈ bt := in_t2 (List.mem_of_getElem? (i := 98) (by decide +kernel)) rfl
theorem m2_100 : Cond.lays RX7 RX7 "adjournments" "I" ∈ bt := in_t2 (List.mem_of_getElem? (i := 100) (by decide +kernel)) rfl
theorem m2_102 : Cond.laysFinal RX7 RX7 "log" "[I" ∈ bt := in_t2 (List.mem_of_getElem? (i := 102) (by decide +kernel)) rfl
theorem m2_104 : Cond.superclass RX7 "java/lang/Object" ∈ bt := in_t2 (List.mem_of_getElem? (i := 104) (by decide +kernel)) rfl
theorem m2_105 : Cond.methodLink RX10 36 yX7_clear ∈ bt := in_t2 (List.mem_of_getElem? (i := 105) (by decide +kernel)) rfl
theorem m2_106 : Cond.instanceMethod yX7_clear ∈ bt := in_t2 (List.mem_of_getElem? (i := 106) (by decide +kernel)) rfl
theorem m2_107 : Cond.selects RX7 yX7_clear yX7_clear ∈ bt := in_t2 (List.mem_of_getElem? (i := 107) (by decide +kernel)) rfl
theorem m2_108 : Cond.code yX7_clear cX7_clear 1 (Option.none : Option Jvm.ClassFile.FieldType) ∈ bt := in_t2 (List.mem_of_getElem? (i := 108) (by decide +kernel)) rfl
theorem m2_109 : Cond.methodLink RX7 22 yX7_dropHearing ∈ bt := in_t2 (List.mem_of_getElem? (i := 109) (by decide +kernel)) rfl
theorem m2_110 : Cond.instanceMethod yX7_dropHearing ∈ bt := in_t2 (List.mem_of_getElem? (i := 110) (by decide +kernel)) rfl
theorem m2_111 : Cond.selects RX7 yX7_dropHearing yX7_dropHearing ∈ bt := in_t2 (List.mem_of_getElem? (i := 111) (by decide +kernel)) rfl
theorem m2_112 : Cond.code yX7_dropHearing cX7_dropHearing 1 (Option.none : Option Jvm.ClassFile.FieldType) ∈ bt := in_t2 (List.mem_of_getElem? (i := 112) (by decide +kernel)) rfl
theorem m2_113 : Cond.fieldLink RX10 31 RX10 "setup" "LCourtCalendar$Setup;" ∈ bt := in_t2 (List.mem_of_getElem? (i := 113) (by decide +kernel)) rfl
theorem m2_114 : Cond.fieldLinkNest RX6 24 RX10 "setup" "LCourtCalendar$Setup;" RX12 ∈ nb := in_n2 (List.mem_of_getElem? (i := 114) (by decide +kernel)) rfl
theorem m2_115 : Cond.fieldLinkNest RX12 87 RX10 "setup" "LCourtCalendar$Setup;" RX12 ∈ nb := in_n2 (List.mem_of_getElem? (i := 115) (by decide +kernel)) rfl
theorem m2_116 : Cond.fieldLink RX10 39 RX10 "day" "I" ∈ bt := in_t2 (List.mem_of_getElem? (i := 116) (by decide +kernel)) rfl
theorem m2_117 : Cond.fieldLinkNest RX6 36 RX10 "day" "I" RX12 ∈ nb := in_n2 (List.mem_of_getElem? (i := 117) (by decide +kernel)) rfl
theorem m2_118 : Cond.fieldLinkNest RX12 124 RX10 "day" "I" RX12 ∈ nb := in_n2 (List.mem_of_getElem? (i := 118) (by decide +kernel)) rfl
theorem m2_119 : Cond.fieldLink RX10 12 RX10 "holidays" "LCourtCalendar$Days;" ∈ bt := in_t2 (List.mem_of_getElem? (i := 119) (by decide +kernel)) rfl
theorem m2_120 : Cond.fieldLinkNest RX12 109 RX10 "holidays" "LCourtCalendar$Days;" RX12 ∈ nb := in_n2 (List.mem_of_getElem? (i := 120) (by decide +kernel)) rfl
theorem m2_121 : Cond.fieldLink RX10 18 RX10 "lastDays" "[I" ∈ bt := in_t2 (List.mem_of_getElem? (i := 121) (by decide +kernel)) rfl
theorem m2_122 : Cond.fieldLinkNest RX12 181 RX10 "lastDays" "[I" RX12 ∈ nb := in_n2 (List.mem_of_getElem? (i := 122) (by decide +kernel)) rfl
theorem m2_123 : Cond.fieldLink RX10 22 RX10 "bars" "[I" ∈ bt := in_t2 (List.mem_of_getElem? (i := 123) (by decide +kernel)) rfl
theorem m2_124 : Cond.fieldLinkNest RX12 359 RX10 "bars" "[I" RX12 ∈ nb := in_n2 (List.mem_of_getElem? (i := 124) (by decide +kernel)) rfl
theorem m2_125 : Cond.fieldLink RX10 27 RX10 "progress" "[LCourtCalendar$Progress;" ∈ bt := in_t2 (List.mem_of_getElem? (i := 125) (by decide +kernel)) rfl
theorem m2_126 : Cond.fieldLinkNest RX6 98 RX10 "progress" "[LCourtCalendar$Progress;" RX12 ∈ nb := in_n2 (List.mem_of_getElem? (i := 126) (by decide +kernel)) rfl
theorem m2_127 : Cond.fieldLinkNest RX12 213 RX10 "progress" "[LCourtCalendar$Progress;" RX12 ∈ nb := in_n2 (List.mem_of_getElem? (i := 127) (by decide +kernel)) rfl
theorem m2_128 : Cond.lays RX10 RX10 "setup" "LCourtCalendar$Setup;" ∈ bt := in_t2 (List.mem_of_getElem? (i := 128) (by decide +kernel)) rfl
theorem m2_130 : Cond.lays RX10 RX10 "day" "I" ∈ bt := in_t2 (List.mem_of_getElem? (i := 130) (by decide +kernel)) rfl
theorem m2_132 : Cond.laysFinal RX10 RX10 "holidays" "LCourtCalendar$Days;" ∈ bt := in_t2 (List.mem_of_getElem? (i := 132) (by decide +kernel)) rfl
theorem m2_134 : Cond.laysFinal RX10 RX10 "lastDays" "[I" ∈ bt := in_t2 (List.mem_of_getElem? (i := 134) (by decide +kernel)) rfl
theorem m2_136 : Cond.laysFinal RX10 RX10 "bars" "[I" ∈ bt := in_t2 (List.mem_of_getElem? (i := 136) (by decide +kernel)) rfl
theorem m2_138 : Cond.laysFinal RX10 RX10 "progress" "[LCourtCalendar$Progress;" ∈ bt := in_t2 (List.mem_of_getElem? (i := 138) (by decide +kernel)) rfl
theorem m2_140 : Cond.superclass RX10 "java/lang/Object" ∈ bt := in_t2 (List.mem_of_getElem? (i := 140) (by decide +kernel)) rfl
theorem m2_141 : Cond.arrayOver (Jvm.ClassFile.FieldType.object RX10) ∈ lw_tbl := in_l2 (List.mem_of_getElem? (i := 141) (by decide +kernel))
theorem m2_142 : Cond.classLink RX12 49 RX6 ∈ bt := in_t2 (List.mem_of_getElem? (i := 142) (by decide +kernel)) rfl
theorem m2_143 : Cond.instantiable RX6 12 ∈ bt := in_t2 (List.mem_of_getElem? (i := 143) (by decide +kernel)) rfl
theorem m2_144 : Cond.methodLinkNest RX12 51 yX6_init RX12 ∈ nb := in_n2 (List.mem_of_getElem? (i := 144) (by decide +kernel)) rfl
theorem m2_145 : Cond.instanceMethod yX6_init ∈ bt := in_t2 (List.mem_of_getElem? (i := 145) (by decide +kernel)) rfl
theorem m2_146 : Cond.code yX6_init cX6_init 1 (Option.none : Option Jvm.ClassFile.FieldType) ∈ bt := in_t2 (List.mem_of_getElem? (i := 146) (by decide +kernel)) rfl
theorem m2_147 : Cond.methodLink RX6 3 ({ cls := "java/lang/Object", name := "<init>", desc := "()V" } : Jvm.MethodName) ∈ bt := in_t2 (List.mem_of_getElem? (i := 147) (by decide +kernel)) rfl
theorem m2_148 : Cond.fieldLink RX6 9 RX6 "roomTaken" "[I" ∈ bt := in_t2 (List.mem_of_getElem? (i := 148) (by decide +kernel)) rfl
theorem m2_149 : Cond.fieldLink RX6 15 RX6 "officerTaken" "[I" ∈ bt := in_t2 (List.mem_of_getElem? (i := 149) (by decide +kernel)) rfl
theorem m2_150 : Cond.fieldLink RX6 18 RX6 "loads" "[I" ∈ bt := in_t2 (List.mem_of_getElem? (i := 150) (by decide +kernel)) rfl
theorem m2_151 : Cond.fieldLink RX6 21 RX6 "order" "[I" ∈ bt := in_t2 (List.mem_of_getElem? (i := 151) (by decide +kernel)) rfl
theorem m2_152 : Cond.fieldLink RX6 78 RX6 "barred" "I" ∈ bt := in_t2 (List.mem_of_getElem? (i := 152) (by decide +kernel)) rfl
theorem m2_153 : Cond.fieldLink RX6 71 RX6 "away" "I" ∈ bt := in_t2 (List.mem_of_getElem? (i := 153) (by decide +kernel)) rfl
theorem m2_154 : Cond.fieldLink RX6 81 RX6 "outside" "I" ∈ bt := in_t2 (List.mem_of_getElem? (i := 154) (by decide +kernel)) rfl
theorem m2_155 : Cond.fieldLink RX6 84 RX6 "witnessTaken" "I" ∈ bt := in_t2 (List.mem_of_getElem? (i := 155) (by decide +kernel)) rfl
theorem m2_156 : Cond.fieldLink RX6 102 RX6 "day" "I" ∈ bt := in_t2 (List.mem_of_getElem? (i := 156) (by decide +kernel)) rfl
theorem m2_157 : Cond.fieldLinkNest RX12 291 RX6 "day" "I" RX12 ∈ nb := in_n2 (List.mem_of_getElem? (i := 157) (by decide +kernel)) rfl
theorem m2_158 : Cond.fieldLink RX6 103 RX6 "slot" "I" ∈ bt := in_t2 (List.mem_of_getElem? (i := 158) (by decide +kernel)) rfl
theorem m2_159 : Cond.fieldLinkNest RX12 292 RX6 "slot" "I" RX12 ∈ nb := in_n2 (List.mem_of_getElem? (i := 159) (by decide +kernel)) rfl
theorem m2_160 : Cond.fieldLink RX6 106 RX6 "room" "I" ∈ bt := in_t2 (List.mem_of_getElem? (i := 160) (by decide +kernel)) rfl
theorem m2_161 : Cond.fieldLinkNest RX12 293 RX6 "room" "I" RX12 ∈ nb := in_n2 (List.mem_of_getElem? (i := 161) (by decide +kernel)) rfl
theorem m2_162 : Cond.fieldLink RX6 109 RX6 "officer" "I" ∈ bt := in_t2 (List.mem_of_getElem? (i := 162) (by decide +kernel)) rfl
theorem m2_163 : Cond.fieldLinkNest RX12 294 RX6 "officer" "I" RX12 ∈ nb := in_n2 (List.mem_of_getElem? (i := 163) (by decide +kernel)) rfl
theorem m2_164 : Cond.laysFinal RX6 RX6 "roomTaken" "[I" ∈ bt := in_t2 (List.mem_of_getElem? (i := 164) (by decide +kernel)) rfl
theorem m2_166 : Cond.laysFinal RX6 RX6 "officerTaken" "[I" ∈ bt := in_t2 (List.mem_of_getElem? (i := 166) (by decide +kernel)) rfl
theorem m2_168 : Cond.laysFinal RX6 RX6 "loads" "[I" ∈ bt := in_t2 (List.mem_of_getElem? (i := 168) (by decide +kernel)) rfl
theorem m2_170 : Cond.laysFinal RX6 RX6 "order" "[I" ∈ bt := in_t2 (List.mem_of_getElem? (i := 170) (by decide +kernel)) rfl
theorem m2_172 : Cond.lays RX6 RX6 "barred" "I" ∈ bt := in_t2 (List.mem_of_getElem? (i := 172) (by decide +kernel)) rfl
theorem m2_174 : Cond.lays RX6 RX6 "away" "I" ∈ bt := in_t2 (List.mem_of_getElem? (i := 174) (by decide +kernel)) rfl
theorem m2_176 : Cond.lays RX6 RX6 "outside" "I" ∈ bt := in_t2 (List.mem_of_getElem? (i := 176) (by decide +kernel)) rfl
theorem m2_178 : Cond.lays RX6 RX6 "witnessTaken" "I" ∈ bt := in_t2 (List.mem_of_getElem? (i := 178) (by decide +kernel)) rfl
theorem m2_180 : Cond.lays RX6 RX6 "day" "I" ∈ bt := in_t2 (List.mem_of_getElem? (i := 180) (by decide +kernel)) rfl
theorem m2_182 : Cond.lays RX6 RX6 "slot" "I" ∈ bt := in_t2 (List.mem_of_getElem? (i := 182) (by decide +kernel)) rfl
theorem m2_184 : Cond.lays RX6 RX6 "room" "I" ∈ bt := in_t2 (List.mem_of_getElem? (i := 184) (by decide +kernel)) rfl
theorem m2_186 : Cond.lays RX6 RX6 "officer" "I" ∈ bt := in_t2 (List.mem_of_getElem? (i := 186) (by decide +kernel)) rfl
theorem m2_188 : Cond.superclass RX6 "java/lang/Object" ∈ bt := in_t2 (List.mem_of_getElem? (i := 188) (by decide +kernel)) rfl
theorem m2_189 : Cond.classLink RX12 56 RX1 ∈ bt := in_t2 (List.mem_of_getElem? (i := 189) (by decide +kernel)) rfl
theorem m2_190 : Cond.instantiable RX1 5 ∈ bt := in_t2 (List.mem_of_getElem? (i := 190) (by decide +kernel)) rfl
theorem m2_191 : Cond.methodLinkNest RX12 58 yX1_init RX12 ∈ nb := in_n2 (List.mem_of_getElem? (i := 191) (by decide +kernel)) rfl
theorem m2_192 : Cond.instanceMethod yX1_init ∈ bt := in_t2 (List.mem_of_getElem? (i := 192) (by decide +kernel)) rfl
theorem m2_193 : Cond.code yX1_init cX1_init 1 (Option.none : Option Jvm.ClassFile.FieldType) ∈ bt := in_t2 (List.mem_of_getElem? (i := 193) (by decide +kernel)) rfl
theorem m2_194 : Cond.methodLink RX1 3 ({ cls := "java/lang/Object", name := "<init>", desc := "()V" } : Jvm.MethodName) ∈ bt := in_t2 (List.mem_of_getElem? (i := 194) (by decide +kernel)) rfl
theorem m2_195 : Cond.fieldLink RX1 9 RX1 "conflicts" "[I" ∈ bt := in_t2 (List.mem_of_getElem? (i := 195) (by decide +kernel)) rfl
theorem m2_196 : Cond.fieldLink RX1 15 RX1 "permittedCases" "[I" ∈ bt := in_t2 (List.mem_of_getElem? (i := 196) (by decide +kernel)) rfl
theorem m2_197 : Cond.fieldLink RX1 18 RX1 "choices" "[I" ∈ bt := in_t2 (List.mem_of_getElem? (i := 197) (by decide +kernel)) rfl
theorem m2_198 : Cond.laysFinal RX1 RX1 "conflicts" "[I" ∈ bt := in_t2 (List.mem_of_getElem? (i := 198) (by decide +kernel)) rfl
theorem m2_200 : Cond.laysFinal RX1 RX1 "permittedCases" "[I" ∈ bt := in_t2 (List.mem_of_getElem? (i := 200) (by decide +kernel)) rfl
theorem m2_202 : Cond.laysFinal RX1 RX1 "choices" "[I" ∈ bt := in_t2 (List.mem_of_getElem? (i := 202) (by decide +kernel)) rfl
theorem m2_204 : Cond.lays RX1 RX1 "cases" "I" ∈ bt := in_t2 (List.mem_of_getElem? (i := 204) (by decide +kernel)) rfl
theorem m2_206 : Cond.lays RX1 RX1 "officers" "I" ∈ bt := in_t2 (List.mem_of_getElem? (i := 206) (by decide +kernel)) rfl
theorem m2_208 : Cond.superclass RX1 "java/lang/Object" ∈ bt := in_t2 (List.mem_of_getElem? (i := 208) (by decide +kernel)) rfl
theorem m2_209 : Cond.fieldLink RX12 12 RX12 "buffer" "[B" ∈ bt := in_t2 (List.mem_of_getElem? (i := 209) (by decide +kernel)) rfl
theorem m2_210 : Cond.fieldLink RX12 70 RX12 "length" "I" ∈ bt := in_t2 (List.mem_of_getElem? (i := 210) (by decide +kernel)) rfl
theorem m2_211 : Cond.fieldLink RX12 19 RX12 "parser" "LCourtCalendar$Parser;" ∈ bt := in_t2 (List.mem_of_getElem? (i := 211) (by decide +kernel)) rfl
theorem m2_212 : Cond.fieldLink RX12 23 RX12 "errorCode" "I" ∈ bt := in_t2 (List.mem_of_getElem? (i := 212) (by decide +kernel)) rfl
theorem m2_213 : Cond.fieldLink RX12 27 RX12 "errorOffset" "I" ∈ bt := in_t2 (List.mem_of_getElem? (i := 213) (by decide +kernel)) rfl
theorem m2_214 : Cond.fieldLink RX12 35 RX12 "state" "LCourtCalendar$State;" ∈ bt := in_t2 (List.mem_of_getElem? (i := 214) (by decide +kernel)) rfl
theorem m2_215 : Cond.fieldLink RX12 39 RX12 "saved" "LCourtCalendar$State;" ∈ bt := in_t2 (List.mem_of_getElem? (i := 215) (by decide +kernel)) rfl
theorem m2_216 : Cond.fieldLink RX12 98 RX12 "hasSaved" "Z" ∈ bt := in_t2 (List.mem_of_getElem? (i := 216) (by decide +kernel)) rfl
theorem m2_217 : Cond.fieldLink RX12 42 RX12 "forecast" "LCourtCalendar$State;" ∈ bt := in_t2 (List.mem_of_getElem? (i := 217) (by decide +kernel)) rfl
theorem m2_218 : Cond.fieldLink RX12 45 RX12 "past" "[LCourtCalendar$State;" ∈ bt := in_t2 (List.mem_of_getElem? (i := 218) (by decide +kernel)) rfl
theorem m2_219 : Cond.fieldLink RX12 102 RX12 "pastSize" "I" ∈ bt := in_t2 (List.mem_of_getElem? (i := 219) (by decide +kernel)) rfl
theorem m2_220 : Cond.fieldLink RX12 52 RX12 "planner" "LCourtCalendar$Planner;" ∈ bt := in_t2 (List.mem_of_getElem? (i := 220) (by decide +kernel)) rfl
theorem m2_221 : Cond.fieldLink RX12 59 RX12 "bench" "LCourtCalendar$Bench;" ∈ bt := in_t2 (List.mem_of_getElem? (i := 221) (by decide +kernel)) rfl
theorem m2_222 : Cond.fieldLink RX12 63 RX12 "order" "[I" ∈ bt := in_t2 (List.mem_of_getElem? (i := 222) (by decide +kernel)) rfl
theorem m2_223 : Cond.fieldLink RX12 67 RX12 "output" "[B" ∈ bt := in_t2 (List.mem_of_getElem? (i := 223) (by decide +kernel)) rfl
theorem m2_224 : Cond.laysFinal RX12 RX12 "buffer" "[B" ∈ bt := in_t2 (List.mem_of_getElem? (i := 224) (by decide +kernel)) rfl
theorem m2_226 : Cond.lays RX12 RX12 "length" "I" ∈ bt := in_t2 (List.mem_of_getElem? (i := 226) (by decide +kernel)) rfl
theorem m2_228 : Cond.laysFinal RX12 RX12 "parser" "LCourtCalendar$Parser;" ∈ bt := in_t2 (List.mem_of_getElem? (i := 228) (by decide +kernel)) rfl
theorem m2_230 : Cond.lays RX12 RX12 "errorCode" "I" ∈ bt := in_t2 (List.mem_of_getElem? (i := 230) (by decide +kernel)) rfl
theorem m2_232 : Cond.lays RX12 RX12 "errorOffset" "I" ∈ bt := in_t2 (List.mem_of_getElem? (i := 232) (by decide +kernel)) rfl
theorem m2_234 : Cond.laysFinal RX12 RX12 "state" "LCourtCalendar$State;" ∈ bt := in_t2 (List.mem_of_getElem? (i := 234) (by decide +kernel)) rfl
theorem m2_236 : Cond.laysFinal RX12 RX12 "saved" "LCourtCalendar$State;" ∈ bt := in_t2 (List.mem_of_getElem? (i := 236) (by decide +kernel)) rfl
theorem m2_238 : Cond.lays RX12 RX12 "hasSaved" "Z" ∈ bt := in_t2 (List.mem_of_getElem? (i := 238) (by decide +kernel)) rfl
theorem m3_0 : Cond.laysFinal RX12 RX12 "forecast" "LCourtCalendar$State;" ∈ bt := in_t3 (List.mem_of_getElem? (i := 0) (by decide +kernel)) rfl
theorem m3_2 : Cond.laysFinal RX12 RX12 "past" "[LCourtCalendar$State;" ∈ bt := in_t3 (List.mem_of_getElem? (i := 2) (by decide +kernel)) rfl
theorem m3_4 : Cond.lays RX12 RX12 "pastSize" "I" ∈ bt := in_t3 (List.mem_of_getElem? (i := 4) (by decide +kernel)) rfl
theorem m3_6 : Cond.laysFinal RX12 RX12 "planner" "LCourtCalendar$Planner;" ∈ bt := in_t3 (List.mem_of_getElem? (i := 6) (by decide +kernel)) rfl
theorem m3_8 : Cond.laysFinal RX12 RX12 "bench" "LCourtCalendar$Bench;" ∈ bt := in_t3 (List.mem_of_getElem? (i := 8) (by decide +kernel)) rfl
theorem m3_10 : Cond.laysFinal RX12 RX12 "order" "[I" ∈ bt := in_t3 (List.mem_of_getElem? (i := 10) (by decide +kernel)) rfl
theorem m3_12 : Cond.laysFinal RX12 RX12 "output" "[B" ∈ bt := in_t3 (List.mem_of_getElem? (i := 12) (by decide +kernel)) rfl
theorem m3_14 : Cond.lays RX12 RX12 "outputLength" "I" ∈ bt := in_t3 (List.mem_of_getElem? (i := 14) (by decide +kernel)) rfl
theorem m3_16 : Cond.superclass RX12 "java/lang/Object" ∈ bt := in_t3 (List.mem_of_getElem? (i := 16) (by decide +kernel)) rfl
theorem m3_17 : Cond.methodLink RL 140 yX12_count ∈ bt := in_t3 (List.mem_of_getElem? (i := 17) (by decide +kernel)) rfl
theorem m3_18 : Cond.instanceMethod yX12_count ∈ bt := in_t3 (List.mem_of_getElem? (i := 18) (by decide +kernel)) rfl
theorem m3_19 : Cond.selects RX12 yX12_count yX12_count ∈ bt := in_t3 (List.mem_of_getElem? (i := 19) (by decide +kernel)) rfl
theorem m3_20 : Cond.code yX12_count cX12_count 2 (Option.some Jvm.ClassFile.FieldType.int) ∈ bt := in_t3 (List.mem_of_getElem? (i := 20) (by decide +kernel)) rfl
theorem m3_21 : Cond.methodLink RX12 105 yX9_size ∈ bt := in_t3 (List.mem_of_getElem? (i := 21) (by decide +kernel)) rfl
theorem m3_22 : Cond.instanceMethod yX9_size ∈ bt := in_t3 (List.mem_of_getElem? (i := 22) (by decide +kernel)) rfl
theorem m3_23 : Cond.selects RX9 yX9_size yX9_size ∈ bt := in_t3 (List.mem_of_getElem? (i := 23) (by decide +kernel)) rfl
theorem m3_24 : Cond.code yX9_size cX9_size 2 (Option.some Jvm.ClassFile.FieldType.int) ∈ bt := in_t3 (List.mem_of_getElem? (i := 24) (by decide +kernel)) rfl
theorem m3_25 : Cond.methodLink RX12 117 yX10_countBars ∈ bt := in_t3 (List.mem_of_getElem? (i := 25) (by decide +kernel)) rfl
theorem m3_26 : Cond.instanceMethod yX10_countBars ∈ bt := in_t3 (List.mem_of_getElem? (i := 26) (by decide +kernel)) rfl
theorem m3_27 : Cond.selects RX10 yX10_countBars yX10_countBars ∈ bt := in_t3 (List.mem_of_getElem? (i := 27) (by decide +kernel)) rfl
theorem m3_28 : Cond.code yX10_countBars cX10_countBars 3 (Option.some Jvm.ClassFile.FieldType.int) ∈ bt := in_t3 (List.mem_of_getElem? (i := 28) (by decide +kernel)) rfl
theorem m3_29 : Cond.methodLink RX10 92 yX9_size ∈ bt := in_t3 (List.mem_of_getElem? (i := 29) (by decide +kernel)) rfl
theorem m3_30 : Cond.methodLink RX10 98 yJ6_bitCount_0f7a4 ∈ bt := in_t3 (List.mem_of_getElem? (i := 30) (by decide +kernel)) rfl
theorem m3_31 : Cond.static yJ6_bitCount_0f7a4 ∈ bt := in_t3 (List.mem_of_getElem? (i := 31) (by decide +kernel)) rfl
theorem m3_32 : Cond.code yJ6_bitCount_0f7a4 cJ6_bitCount_0f7a4 1 (Option.some Jvm.ClassFile.FieldType.int) ∈ bt := in_t3 (List.mem_of_getElem? (i := 32) (by decide +kernel)) rfl
theorem m3_33 : Cond.constant RJ6 265 (1431655765 : Int32) ∈ bt := in_t3 (List.mem_of_getElem? (i := 33) (by decide +kernel)) rfl
theorem m3_34 : Cond.constant RJ6 266 (858993459 : Int32) ∈ bt := in_t3 (List.mem_of_getElem? (i := 34) (by decide +kernel)) rfl
theorem m3_35 : Cond.constant RJ6 267 (252645135 : Int32) ∈ bt := in_t3 (List.mem_of_getElem? (i := 35) (by decide +kernel)) rfl
theorem m3_36 : Cond.methodLink RX12 121 yX9_countConflicts ∈ bt := in_t3 (List.mem_of_getElem? (i := 36) (by decide +kernel)) rfl
theorem m3_37 : Cond.instanceMethod yX9_countConflicts ∈ bt := in_t3 (List.mem_of_getElem? (i := 37) (by decide +kernel)) rfl
theorem m3_38 : Cond.selects RX9 yX9_countConflicts yX9_countConflicts ∈ bt := in_t3 (List.mem_of_getElem? (i := 38) (by decide +kernel)) rfl
theorem m3_39 : Cond.code yX9_countConflicts cX9_countConflicts 3 (Option.some Jvm.ClassFile.FieldType.int) ∈ bt := in_t3 (List.mem_of_getElem? (i := 39) (by decide +kernel)) rfl
theorem m3_40 : Cond.methodLink RX9 87 yX9_size ∈ bt := in_t3 (List.mem_of_getElem? (i := 40) (by decide +kernel)) rfl
theorem m3_41 : Cond.methodLink RX9 97 yJ6_bitCount_0f7a4 ∈ bt := in_t3 (List.mem_of_getElem? (i := 41) (by decide +kernel)) rfl
theorem m3_42 : Cond.methodLink RX12 130 yX10_countPhase ∈ bt := in_t3 (List.mem_of_getElem? (i := 42) (by decide +kernel)) rfl
theorem m3_43 : Cond.instanceMethod yX10_countPhase ∈ bt := in_t3 (List.mem_of_getElem? (i := 43) (by decide +kernel)) rfl
theorem m3_44 : Cond.selects RX10 yX10_countPhase yX10_countPhase ∈ bt := in_t3 (List.mem_of_getElem? (i := 44) (by decide +kernel)) rfl
theorem m3_45 : Cond.code yX10_countPhase cX10_countPhase 4 (Option.some Jvm.ClassFile.FieldType.int) ∈ bt := in_t3 (List.mem_of_getElem? (i := 45) (by decide +kernel)) rfl
theorem m3_46 : Cond.methodLink RL 137 yX12_pass ∈ bt := in_t3 (List.mem_of_getElem? (i := 46) (by decide +kernel)) rfl
theorem m3_47 : Cond.instanceMethod yX12_pass ∈ bt := in_t3 (List.mem_of_getElem? (i := 47) (by decide +kernel)) rfl
theorem m3_48 : Cond.selects RX12 yX12_pass yX12_pass ∈ bt := in_t3 (List.mem_of_getElem? (i := 48) (by decide +kernel)) rfl
theorem m3_49 : Cond.code yX12_pass cX12_pass 2 (Option.some Jvm.ClassFile.FieldType.int) ∈ bt := in_t3 (List.mem_of_getElem? (i := 49) (by decide +kernel)) rfl
theorem m3_50 : Cond.methodLink RX12 322 yX12_requirePassable ∈ bt := in_t3 (List.mem_of_getElem? (i := 50) (by decide +kernel)) rfl
theorem m3_52 : Cond.instanceMethod yX12_requirePassable ∈ bt := in_t3 (List.mem_of_getElem? (i := 52) (by decide +kernel)) rfl
theorem m3_53 : Cond.code yX12_requirePassable cX12_requirePassable 2 (Option.none : Option Jvm.ClassFile.FieldType) ∈ bt := in_t3 (List.mem_of_getElem? (i := 53) (by decide +kernel)) rfl
theorem m3_54 : Cond.classLink RX12 133 "java/lang/IllegalArgumentException" ∈ bt := in_t3 (List.mem_of_getElem? (i := 54) (by decide +kernel)) rfl
theorem m3_55 : Cond.instantiable "java/lang/IllegalArgumentException" 6 ∈ bt := in_t3 (List.mem_of_getElem? (i := 55) (by decide +kernel)) rfl
theorem m3_56 : Cond.castable "java/lang/IllegalArgumentException" "java/lang/IllegalArgumentException" ∈ nb := in_n3 (List.mem_of_getElem? (i := 56) (by decide +kernel)) rfl
theorem m3_63 : Cond.selects "java/lang/IllegalArgumentException" ({ cls := "java/lang/Throwable", name := "fillInStackTrace", desc := "(I)Ljava/lang/Throwable;" } : Jvm.MethodName) ({ cls := "java/lang/Throwable", name := "fillInStackTrace", desc := "(I)Ljava/lang/Throwable;" } : Jvm.MethodName) ∈ bt := in_t3 (List.mem_of_getElem? (i := 63) (by decide +kernel)) rfl
theorem m3_64 : Cond.selects "java/lang/IllegalArgumentException" ({ cls := "java/lang/Throwable", name := "fillInStackTrace", desc := "()Ljava/lang/Throwable;" } : Jvm.MethodName) ({ cls := "java/lang/Throwable", name := "fillInStackTrace", desc := "()Ljava/lang/Throwable;" } : Jvm.MethodName) ∈ bt := in_t3 (List.mem_of_getElem? (i := 64) (by decide +kernel)) rfl
theorem m3_65 : Cond.lays "java/lang/IllegalArgumentException" "java/lang/Throwable" "cause" "Ljava/lang/Throwable;" ∈ bt := in_t3 (List.mem_of_getElem? (i := 65) (by decide +kernel)) rfl
theorem m3_66 : Cond.lays "java/lang/Throwable" "java/lang/Throwable" "cause" "Ljava/lang/Throwable;" ∈ bt := in_t3 (List.mem_of_getElem? (i := 66) (by decide +kernel)) rfl
theorem m3_67 : Cond.lays "java/lang/IllegalArgumentException" "java/lang/Throwable" "stackTrace" "[Ljava/lang/StackTraceElement;" ∈ bt := in_t3 (List.mem_of_getElem? (i := 67) (by decide +kernel)) rfl
theorem m3_68 : Cond.lays "java/lang/Throwable" "java/lang/Throwable" "stackTrace" "[Ljava/lang/StackTraceElement;" ∈ bt := in_t3 (List.mem_of_getElem? (i := 68) (by decide +kernel)) rfl
theorem m3_69 : Cond.lays "java/lang/IllegalArgumentException" "java/lang/Throwable" "suppressedExceptions" "Ljava/util/List;" ∈ bt := in_t3 (List.mem_of_getElem? (i := 69) (by decide +kernel)) rfl
theorem m3_70 : Cond.lays "java/lang/Throwable" "java/lang/Throwable" "suppressedExceptions" "Ljava/util/List;" ∈ bt := in_t3 (List.mem_of_getElem? (i := 70) (by decide +kernel)) rfl
theorem m3_71 : Cond.lays "java/lang/IllegalArgumentException" "java/lang/Throwable" "detailMessage" "Ljava/lang/String;" ∈ bt := in_t3 (List.mem_of_getElem? (i := 71) (by decide +kernel)) rfl
theorem m3_72 : Cond.lays "java/lang/Throwable" "java/lang/Throwable" "detailMessage" "Ljava/lang/String;" ∈ bt := in_t3 (List.mem_of_getElem? (i := 72) (by decide +kernel)) rfl
theorem m3_73 : Cond.lays "java/lang/IllegalArgumentException" "java/lang/Throwable" "backtrace" "Ljava/lang/Object;" ∈ bt := in_t3 (List.mem_of_getElem? (i := 73) (by decide +kernel)) rfl
theorem m3_74 : Cond.lays "java/lang/Throwable" "java/lang/Throwable" "backtrace" "Ljava/lang/Object;" ∈ bt := in_t3 (List.mem_of_getElem? (i := 74) (by decide +kernel)) rfl
theorem m3_75 : Cond.fieldLink "java/lang/Throwable" 198 "java/lang/Throwable" "backtrace" "Ljava/lang/Object;" ∈ bt := in_t3 (List.mem_of_getElem? (i := 75) (by decide +kernel)) rfl
theorem m3_76 : Cond.superclass "java/lang/Throwable" "java/lang/Object" ∈ bt := in_t3 (List.mem_of_getElem? (i := 76) (by decide +kernel)) rfl
theorem m3_77 : Cond.instanceMethod ({ cls := "java/lang/Throwable", name := "<init>", desc := "()V" } : Jvm.MethodName) ∈ bt := in_t3 (List.mem_of_getElem? (i := 77) (by decide +kernel)) rfl
theorem m3_78 : Cond.code ({ cls := "java/lang/Throwable", name := "<init>", desc := "()V" } : Jvm.MethodName) prog_36_method_1_code 1 (Option.none : Option Jvm.ClassFile.FieldType) ∈ bt := in_t3 (List.mem_of_getElem? (i := 78) (by decide +kernel)) rfl
theorem m3_79 : Cond.methodLink "java/lang/Throwable" 1 ({ cls := "java/lang/Object", name := "<init>", desc := "()V" } : Jvm.MethodName) ∈ bt := in_t3 (List.mem_of_getElem? (i := 79) (by decide +kernel)) rfl
theorem m3_80 : Cond.fieldLink "java/lang/Throwable" 13 "java/lang/Throwable" "UNASSIGNED_STACK" "[Ljava/lang/StackTraceElement;" ∈ bt := in_t3 (List.mem_of_getElem? (i := 80) (by decide +kernel)) rfl
theorem m3_81 : Cond.laysStatic "java/lang/Throwable" "UNASSIGNED_STACK" "[Ljava/lang/StackTraceElement;" ∈ lw_tbl := in_l3 (List.mem_of_getElem? (i := 81) (by decide +kernel))
theorem m3_82 : Cond.fieldLink "java/lang/Throwable" 20 "java/lang/Throwable" "SUPPRESSED_SENTINEL" "Ljava/util/List;" ∈ bt := in_t3 (List.mem_of_getElem? (i := 82) (by decide +kernel)) rfl
theorem m3_83 : Cond.laysStatic "java/lang/Throwable" "SUPPRESSED_SENTINEL" "Ljava/util/List;" ∈ lw_tbl := in_l3 (List.mem_of_getElem? (i := 83) (by decide +kernel))
theorem m3_84 : Cond.methodLink "java/lang/Throwable" 27 ({ cls := "java/lang/Throwable", name := "fillInStackTrace", desc := "()Ljava/lang/Throwable;" } : Jvm.MethodName) ∈ bt := in_t3 (List.mem_of_getElem? (i := 84) (by decide +kernel)) rfl
theorem m3_85 : Cond.instanceMethod ({ cls := "java/lang/Throwable", name := "fillInStackTrace", desc := "()Ljava/lang/Throwable;" } : Jvm.MethodName) ∈ bt := in_t3 (List.mem_of_getElem? (i := 85) (by decide +kernel)) rfl
theorem m3_86 : Cond.sameMethod "java/lang/Throwable" "java/lang/Throwable" "fillInStackTrace" "()Ljava/lang/Throwable;" ∈ bt := in_t3 (List.mem_of_getElem? (i := 86) (by decide +kernel)) rfl
theorem m3_87 : Cond.selects "java/lang/IllegalStateException" ({ cls := "java/lang/Throwable", name := "fillInStackTrace", desc := "()Ljava/lang/Throwable;" } : Jvm.MethodName) ({ cls := "java/lang/Throwable", name := "fillInStackTrace", desc := "()Ljava/lang/Throwable;" } : Jvm.MethodName) ∈ bt := in_t3 (List.mem_of_getElem? (i := 87) (by decide +kernel)) rfl
theorem m3_88 : Cond.selects "java/lang/IndexOutOfBoundsException" ({ cls := "java/lang/Throwable", name := "fillInStackTrace", desc := "()Ljava/lang/Throwable;" } : Jvm.MethodName) ({ cls := "java/lang/Throwable", name := "fillInStackTrace", desc := "()Ljava/lang/Throwable;" } : Jvm.MethodName) ∈ bt := in_t3 (List.mem_of_getElem? (i := 88) (by decide +kernel)) rfl
theorem m3_89 : Cond.selects "java/util/NoSuchElementException" ({ cls := "java/lang/Throwable", name := "fillInStackTrace", desc := "()Ljava/lang/Throwable;" } : Jvm.MethodName) ({ cls := "java/lang/Throwable", name := "fillInStackTrace", desc := "()Ljava/lang/Throwable;" } : Jvm.MethodName) ∈ bt := in_t3 (List.mem_of_getElem? (i := 89) (by decide +kernel)) rfl
theorem m3_90 : Cond.codeSync ({ cls := "java/lang/Throwable", name := "fillInStackTrace", desc := "()Ljava/lang/Throwable;" } : Jvm.MethodName) prog_36_method_18_code 1 (Option.some (Jvm.ClassFile.FieldType.object "java/lang/Throwable")) ∈ lw_tbl := in_l3 (List.mem_of_getElem? (i := 90) (by decide +kernel))
theorem m3_91 : Cond.methodLink "java/lang/Throwable" 202 ({ cls := "java/lang/Throwable", name := "fillInStackTrace", desc := "(I)Ljava/lang/Throwable;" } : Jvm.MethodName) ∈ bt := in_t3 (List.mem_of_getElem? (i := 91) (by decide +kernel)) rfl
theorem m3_93 : Cond.instanceMethod ({ cls := "java/lang/Throwable", name := "fillInStackTrace", desc := "(I)Ljava/lang/Throwable;" } : Jvm.MethodName) ∈ bt := in_t3 (List.mem_of_getElem? (i := 93) (by decide +kernel)) rfl
theorem m3_94 : Cond.instantiable "java/lang/Throwable" 6 ∈ bt := in_t3 (List.mem_of_getElem? (i := 94) (by decide +kernel)) rfl
theorem m3_95 : Cond.native ({ cls := "java/lang/Throwable", name := "fillInStackTrace", desc := "(I)Ljava/lang/Throwable;" } : Jvm.MethodName) ∈ lw_tbl := in_l3 (List.mem_of_getElem? (i := 95) (by decide +kernel))
theorem m3_96 : Cond.methodLink RX12 135 ({ cls := "java/lang/IllegalArgumentException", name := "<init>", desc := "()V" } : Jvm.MethodName) ∈ bt := in_t3 (List.mem_of_getElem? (i := 96) (by decide +kernel)) rfl
theorem m3_97 : Cond.instanceMethod ({ cls := "java/lang/IllegalArgumentException", name := "<init>", desc := "()V" } : Jvm.MethodName) ∈ bt := in_t3 (List.mem_of_getElem? (i := 97) (by decide +kernel)) rfl
theorem m3_98 : Cond.code ({ cls := "java/lang/IllegalArgumentException", name := "<init>", desc := "()V" } : Jvm.MethodName) prog_24_method_1_code 1 (Option.none : Option Jvm.ClassFile.FieldType) ∈ bt := in_t3 (List.mem_of_getElem? (i := 98) (by decide +kernel)) rfl
theorem m3_99 : Cond.methodLink "java/lang/IllegalArgumentException" 1 ({ cls := "java/lang/RuntimeException", name := "<init>", desc := "()V" } : Jvm.MethodName) ∈ bt := in_t3 (List.mem_of_getElem? (i := 99) (by decide +kernel)) rfl
theorem m3_100 : Cond.instanceMethod ({ cls := "java/lang/RuntimeException", name := "<init>", desc := "()V" } : Jvm.MethodName) ∈ bt := in_t3 (List.mem_of_getElem? (i := 100) (by decide +kernel)) rfl
theorem m3_101 : Cond.code ({ cls := "java/lang/RuntimeException", name := "<init>", desc := "()V" } : Jvm.MethodName) prog_30_method_1_code 1 (Option.none : Option Jvm.ClassFile.FieldType) ∈ bt := in_t3 (List.mem_of_getElem? (i := 101) (by decide +kernel)) rfl
theorem m3_102 : Cond.methodLink "java/lang/RuntimeException" 1 ({ cls := "java/lang/Exception", name := "<init>", desc := "()V" } : Jvm.MethodName) ∈ bt := in_t3 (List.mem_of_getElem? (i := 102) (by decide +kernel)) rfl
theorem m3_103 : Cond.instanceMethod ({ cls := "java/lang/Exception", name := "<init>", desc := "()V" } : Jvm.MethodName) ∈ bt := in_t3 (List.mem_of_getElem? (i := 103) (by decide +kernel)) rfl
theorem m3_104 : Cond.code ({ cls := "java/lang/Exception", name := "<init>", desc := "()V" } : Jvm.MethodName) prog_23_method_1_code 1 (Option.none : Option Jvm.ClassFile.FieldType) ∈ bt := in_t3 (List.mem_of_getElem? (i := 104) (by decide +kernel)) rfl
theorem m3_105 : Cond.methodLink "java/lang/Exception" 1 ({ cls := "java/lang/Throwable", name := "<init>", desc := "()V" } : Jvm.MethodName) ∈ bt := in_t3 (List.mem_of_getElem? (i := 105) (by decide +kernel)) rfl
theorem m3_107 : Cond.fieldLink "java/lang/Throwable" 31 "java/lang/Throwable" "detailMessage" "Ljava/lang/String;" ∈ bt := in_t3 (List.mem_of_getElem? (i := 107) (by decide +kernel)) rfl
theorem m3_108 : Cond.fieldLink "java/lang/Throwable" 7 "java/lang/Throwable" "cause" "Ljava/lang/Throwable;" ∈ bt := in_t3 (List.mem_of_getElem? (i := 108) (by decide +kernel)) rfl
theorem m3_109 : Cond.fieldLink "java/lang/Throwable" 17 "java/lang/Throwable" "stackTrace" "[Ljava/lang/StackTraceElement;" ∈ bt := in_t3 (List.mem_of_getElem? (i := 109) (by decide +kernel)) rfl
theorem m3_110 : Cond.fieldLink "java/lang/Throwable" 24 "java/lang/Throwable" "suppressedExceptions" "Ljava/util/List;" ∈ bt := in_t3 (List.mem_of_getElem? (i := 110) (by decide +kernel)) rfl
theorem m3_115 : Cond.lays "java/lang/IllegalArgumentException" "java/lang/Throwable" "depth" "I" ∈ bt := in_t3 (List.mem_of_getElem? (i := 115) (by decide +kernel)) rfl
theorem m3_118 : Cond.superclass "java/lang/IllegalArgumentException" "java/lang/RuntimeException" ∈ bt := in_t3 (List.mem_of_getElem? (i := 118) (by decide +kernel)) rfl
theorem m3_119 : Cond.methodLink RX12 325 yX12_remember ∈ bt := in_t3 (List.mem_of_getElem? (i := 119) (by decide +kernel)) rfl
theorem m3_121 : Cond.instanceMethod yX12_remember ∈ bt := in_t3 (List.mem_of_getElem? (i := 121) (by decide +kernel)) rfl
theorem m3_122 : Cond.code yX12_remember cX12_remember 3 (Option.none : Option Jvm.ClassFile.FieldType) ∈ bt := in_t3 (List.mem_of_getElem? (i := 122) (by decide +kernel)) rfl
theorem m3_123 : Cond.methodLink RX12 362 yX10_copyFrom ∈ bt := in_t3 (List.mem_of_getElem? (i := 123) (by decide +kernel)) rfl
theorem m3_124 : Cond.instanceMethod yX10_copyFrom ∈ bt := in_t3 (List.mem_of_getElem? (i := 124) (by decide +kernel)) rfl
theorem m3_125 : Cond.selects RX10 yX10_copyFrom yX10_copyFrom ∈ bt := in_t3 (List.mem_of_getElem? (i := 125) (by decide +kernel)) rfl
theorem m3_126 : Cond.code yX10_copyFrom cX10_copyFrom 3 (Option.none : Option Jvm.ClassFile.FieldType) ∈ bt := in_t3 (List.mem_of_getElem? (i := 126) (by decide +kernel)) rfl
theorem m3_127 : Cond.methodLink RX10 46 yX2_copyFrom ∈ bt := in_t3 (List.mem_of_getElem? (i := 127) (by decide +kernel)) rfl
theorem m3_128 : Cond.instanceMethod yX2_copyFrom ∈ bt := in_t3 (List.mem_of_getElem? (i := 128) (by decide +kernel)) rfl
theorem m3_129 : Cond.selects RX2 yX2_copyFrom yX2_copyFrom ∈ bt := in_t3 (List.mem_of_getElem? (i := 129) (by decide +kernel)) rfl
theorem m3_130 : Cond.code yX2_copyFrom cX2_copyFrom 2 (Option.none : Option Jvm.ClassFile.FieldType) ∈ bt := in_t3 (List.mem_of_getElem? (i := 130) (by decide +kernel)) rfl
theorem m3_131 : Cond.methodLink RX2 29 ({ cls := RJ10, name := "arraycopy", desc := "(Ljava/lang/Object;ILjava/lang/Object;II)V" } : Jvm.MethodName) ∈ bt := in_t3 (List.mem_of_getElem? (i := 131) (by decide +kernel)) rfl
theorem m3_132 : Cond.static ({ cls := RJ10, name := "arraycopy", desc := "(Ljava/lang/Object;ILjava/lang/Object;II)V" } : Jvm.MethodName) ∈ bt := in_t3 (List.mem_of_getElem? (i := 132) (by decide +kernel)) rfl
theorem m3_133 : Cond.native ({ cls := RJ10, name := "arraycopy", desc := "(Ljava/lang/Object;ILjava/lang/Object;II)V" } : Jvm.MethodName) ∈ lw_tbl := in_l3 (List.mem_of_getElem? (i := 133) (by decide +kernel))
theorem m3_134 : Cond.methodLink RX10 51 ({ cls := RJ10, name := "arraycopy", desc := "(Ljava/lang/Object;ILjava/lang/Object;II)V" } : Jvm.MethodName) ∈ bt := in_t3 (List.mem_of_getElem? (i := 134) (by decide +kernel)) rfl
theorem m3_135 : Cond.methodLink RX10 65 yX7_copyFrom ∈ bt := in_t3 (List.mem_of_getElem? (i := 135) (by decide +kernel)) rfl
theorem m3_136 : Cond.instanceMethod yX7_copyFrom ∈ bt := in_t3 (List.mem_of_getElem? (i := 136) (by decide +kernel)) rfl
theorem m3_137 : Cond.selects RX7 yX7_copyFrom yX7_copyFrom ∈ bt := in_t3 (List.mem_of_getElem? (i := 137) (by decide +kernel)) rfl
theorem m3_138 : Cond.code yX7_copyFrom cX7_copyFrom 2 (Option.none : Option Jvm.ClassFile.FieldType) ∈ bt := in_t3 (List.mem_of_getElem? (i := 138) (by decide +kernel)) rfl
theorem m3_139 : Cond.methodLink RX7 40 ({ cls := RJ10, name := "arraycopy", desc := "(Ljava/lang/Object;ILjava/lang/Object;II)V" } : Jvm.MethodName) ∈ bt := in_t3 (List.mem_of_getElem? (i := 139) (by decide +kernel)) rfl
theorem m3_140 : Cond.methodLink RX12 328 yX10_passDays ∈ bt := in_t3 (List.mem_of_getElem? (i := 140) (by decide +kernel)) rfl
theorem m3_141 : Cond.instanceMethod yX10_passDays ∈ bt := in_t3 (List.mem_of_getElem? (i := 141) (by decide +kernel)) rfl
theorem m3_142 : Cond.selects RX10 yX10_passDays yX10_passDays ∈ bt := in_t3 (List.mem_of_getElem? (i := 142) (by decide +kernel)) rfl
theorem m3_143 : Cond.code yX10_passDays cX10_passDays 4 (Option.some Jvm.ClassFile.FieldType.int) ∈ bt := in_t3 (List.mem_of_getElem? (i := 143) (by decide +kernel)) rfl
theorem m3_144 : Cond.methodLink RX10 84 yX10_limitDay ∈ bt := in_t3 (List.mem_of_getElem? (i := 144) (by decide +kernel)) rfl
theorem m3_145 : Cond.instanceMethod yX10_limitDay ∈ bt := in_t3 (List.mem_of_getElem? (i := 145) (by decide +kernel)) rfl
theorem m3_146 : Cond.selects RX10 yX10_limitDay yX10_limitDay ∈ bt := in_t3 (List.mem_of_getElem? (i := 146) (by decide +kernel)) rfl
theorem m3_147 : Cond.code yX10_limitDay cX10_limitDay 5 (Option.some Jvm.ClassFile.FieldType.int) ∈ bt := in_t3 (List.mem_of_getElem? (i := 147) (by decide +kernel)) rfl
theorem m3_148 : Cond.methodLink RX10 72 yX10_works ∈ bt := in_t3 (List.mem_of_getElem? (i := 148) (by decide +kernel)) rfl
theorem m3_149 : Cond.instanceMethod yX10_works ∈ bt := in_t3 (List.mem_of_getElem? (i := 149) (by decide +kernel)) rfl
theorem m3_150 : Cond.selects RX10 yX10_works yX10_works ∈ bt := in_t3 (List.mem_of_getElem? (i := 150) (by decide +kernel)) rfl
theorem m3_151 : Cond.code yX10_works cX10_works 2 (Option.some Jvm.ClassFile.FieldType.boolean) ∈ bt := in_t3 (List.mem_of_getElem? (i := 151) (by decide +kernel)) rfl
theorem m3_152 : Cond.methodLink RX10 68 yX2_contains ∈ bt := in_t3 (List.mem_of_getElem? (i := 152) (by decide +kernel)) rfl
theorem m3_153 : Cond.instanceMethod yX2_contains ∈ bt := in_t3 (List.mem_of_getElem? (i := 153) (by decide +kernel)) rfl
theorem m3_154 : Cond.selects RX2 yX2_contains yX2_contains ∈ bt := in_t3 (List.mem_of_getElem? (i := 154) (by decide +kernel)) rfl
theorem m3_155 : Cond.code yX2_contains cX2_contains 2 (Option.some Jvm.ClassFile.FieldType.boolean) ∈ bt := in_t3 (List.mem_of_getElem? (i := 155) (by decide +kernel)) rfl
theorem m3_156 : Cond.methodLink RL 134 yX12_planAll ∈ bt := in_t3 (List.mem_of_getElem? (i := 156) (by decide +kernel)) rfl
theorem m3_157 : Cond.instanceMethod yX12_planAll ∈ bt := in_t3 (List.mem_of_getElem? (i := 157) (by decide +kernel)) rfl
theorem m3_158 : Cond.selects RX12 yX12_planAll yX12_planAll ∈ bt := in_t3 (List.mem_of_getElem? (i := 158) (by decide +kernel)) rfl
theorem m3_159 : Cond.code yX12_planAll cX12_planAll 1 (Option.some Jvm.ClassFile.FieldType.int) ∈ bt := in_t3 (List.mem_of_getElem? (i := 159) (by decide +kernel)) rfl
theorem m3_160 : Cond.methodLink RX12 342 yX6_planWaiting ∈ bt := in_t3 (List.mem_of_getElem? (i := 160) (by decide +kernel)) rfl
theorem m3_161 : Cond.instanceMethod yX6_planWaiting ∈ bt := in_t3 (List.mem_of_getElem? (i := 161) (by decide +kernel)) rfl
theorem m3_162 : Cond.selects RX6 yX6_planWaiting yX6_planWaiting ∈ bt := in_t3 (List.mem_of_getElem? (i := 162) (by decide +kernel)) rfl
theorem m3_163 : Cond.code yX6_planWaiting cX6_planWaiting 6 (Option.some Jvm.ClassFile.FieldType.int) ∈ bt := in_t3 (List.mem_of_getElem? (i := 163) (by decide +kernel)) rfl
theorem m3_164 : Cond.methodLink RX6 118 yX10_sortWaiting ∈ bt := in_t3 (List.mem_of_getElem? (i := 164) (by decide +kernel)) rfl
theorem m3_165 : Cond.instanceMethod yX10_sortWaiting ∈ bt := in_t3 (List.mem_of_getElem? (i := 165) (by decide +kernel)) rfl
theorem m3_166 : Cond.selects RX10 yX10_sortWaiting yX10_sortWaiting ∈ bt := in_t3 (List.mem_of_getElem? (i := 166) (by decide +kernel)) rfl
theorem m3_167 : Cond.code yX10_sortWaiting cX10_sortWaiting 4 (Option.some Jvm.ClassFile.FieldType.int) ∈ bt := in_t3 (List.mem_of_getElem? (i := 167) (by decide +kernel)) rfl
theorem m3_168 : Cond.methodLink RX10 144 yX10_urgencyKey ∈ bt := in_t3 (List.mem_of_getElem? (i := 168) (by decide +kernel)) rfl
theorem m3_170 : Cond.instanceMethod yX10_urgencyKey ∈ bt := in_t3 (List.mem_of_getElem? (i := 170) (by decide +kernel)) rfl
theorem m3_171 : Cond.code yX10_urgencyKey cX10_urgencyKey 3 (Option.some Jvm.ClassFile.FieldType.int) ∈ bt := in_t3 (List.mem_of_getElem? (i := 171) (by decide +kernel)) rfl
theorem m3_172 : Cond.methodLink RX10 147 yX10_insert ∈ bt := in_t3 (List.mem_of_getElem? (i := 172) (by decide +kernel)) rfl
theorem m3_173 : Cond.static yX10_insert ∈ bt := in_t3 (List.mem_of_getElem? (i := 173) (by decide +kernel)) rfl
theorem m3_174 : Cond.code yX10_insert cX10_insert 4 (Option.none : Option Jvm.ClassFile.FieldType) ∈ bt := in_t3 (List.mem_of_getElem? (i := 174) (by decide +kernel)) rfl
theorem m3_175 : Cond.methodLink RX6 122 yX6_findFirst ∈ bt := in_t3 (List.mem_of_getElem? (i := 175) (by decide +kernel)) rfl
theorem m3_176 : Cond.instanceMethod yX6_findFirst ∈ bt := in_t3 (List.mem_of_getElem? (i := 176) (by decide +kernel)) rfl
theorem m3_177 : Cond.selects RX6 yX6_findFirst yX6_findFirst ∈ bt := in_t3 (List.mem_of_getElem? (i := 177) (by decide +kernel)) rfl
theorem m3_178 : Cond.code yX6_findFirst cX6_findFirst 6 (Option.some Jvm.ClassFile.FieldType.boolean) ∈ bt := in_t3 (List.mem_of_getElem? (i := 178) (by decide +kernel)) rfl
theorem m3_179 : Cond.methodLink RX6 53 yX6_lookAtOfficers ∈ bt := in_t3 (List.mem_of_getElem? (i := 179) (by decide +kernel)) rfl
theorem m3_181 : Cond.instanceMethod yX6_lookAtOfficers ∈ bt := in_t3 (List.mem_of_getElem? (i := 181) (by decide +kernel)) rfl
theorem m3_182 : Cond.code yX6_lookAtOfficers cX6_lookAtOfficers 4 (Option.none : Option Jvm.ClassFile.FieldType) ∈ bt := in_t3 (List.mem_of_getElem? (i := 182) (by decide +kernel)) rfl
theorem m3_183 : Cond.methodLink RX6 147 yX10_barredOfficers ∈ bt := in_t3 (List.mem_of_getElem? (i := 183) (by decide +kernel)) rfl
theorem m3_184 : Cond.instanceMethod yX10_barredOfficers ∈ bt := in_t3 (List.mem_of_getElem? (i := 184) (by decide +kernel)) rfl
theorem m3_185 : Cond.selects RX10 yX10_barredOfficers yX10_barredOfficers ∈ bt := in_t3 (List.mem_of_getElem? (i := 185) (by decide +kernel)) rfl
theorem m3_186 : Cond.code yX10_barredOfficers cX10_barredOfficers 5 (Option.some Jvm.ClassFile.FieldType.int) ∈ bt := in_t3 (List.mem_of_getElem? (i := 186) (by decide +kernel)) rfl
theorem m3_187 : Cond.methodLinkNest RX10 106 yX12_has RX12 ∈ nb := in_n3 (List.mem_of_getElem? (i := 187) (by decide +kernel)) rfl
theorem m3_188 : Cond.static yX12_has ∈ bt := in_t3 (List.mem_of_getElem? (i := 188) (by decide +kernel)) rfl
theorem m3_189 : Cond.code yX12_has cX12_has 2 (Option.some Jvm.ClassFile.FieldType.boolean) ∈ bt := in_t3 (List.mem_of_getElem? (i := 189) (by decide +kernel)) rfl
theorem m3_190 : Cond.methodLink RX6 141 yX9_size ∈ bt := in_t3 (List.mem_of_getElem? (i := 190) (by decide +kernel)) rfl
theorem m3_191 : Cond.methodLink RX6 150 yX10_loadOf ∈ bt := in_t3 (List.mem_of_getElem? (i := 191) (by decide +kernel)) rfl
theorem m3_192 : Cond.instanceMethod yX10_loadOf ∈ bt := in_t3 (List.mem_of_getElem? (i := 192) (by decide +kernel)) rfl
theorem m3_193 : Cond.selects RX10 yX10_loadOf yX10_loadOf ∈ bt := in_t3 (List.mem_of_getElem? (i := 193) (by decide +kernel)) rfl
theorem m3_194 : Cond.code yX10_loadOf cX10_loadOf 4 (Option.some Jvm.ClassFile.FieldType.int) ∈ bt := in_t3 (List.mem_of_getElem? (i := 194) (by decide +kernel)) rfl
theorem m3_195 : Cond.methodLink RX6 87 yX6_lastDay ∈ bt := in_t3 (List.mem_of_getElem? (i := 195) (by decide +kernel)) rfl
theorem m3_196 : Cond.static yX6_lastDay ∈ bt := in_t3 (List.mem_of_getElem? (i := 196) (by decide +kernel)) rfl
theorem m3_197 : Cond.code yX6_lastDay cX6_lastDay 2 (Option.some Jvm.ClassFile.FieldType.int) ∈ bt := in_t3 (List.mem_of_getElem? (i := 197) (by decide +kernel)) rfl
theorem m3_198 : Cond.methodLink RX6 49 yX10_limitDay ∈ bt := in_t3 (List.mem_of_getElem? (i := 198) (by decide +kernel)) rfl
theorem m3_199 : Cond.methodLink RX6 134 yJ9_min_7cf53 ∈ bt := in_t3 (List.mem_of_getElem? (i := 199) (by decide +kernel)) rfl
theorem m3_200 : Cond.static yJ9_min_7cf53 ∈ bt := in_t3 (List.mem_of_getElem? (i := 200) (by decide +kernel)) rfl
theorem m3_201 : Cond.code yJ9_min_7cf53 cJ9_min_7cf53 2 (Option.some Jvm.ClassFile.FieldType.int) ∈ bt := in_t3 (List.mem_of_getElem? (i := 201) (by decide +kernel)) rfl
theorem m3_202 : Cond.methodLink RX6 91 yX6_firstDay ∈ bt := in_t3 (List.mem_of_getElem? (i := 202) (by decide +kernel)) rfl
theorem m3_203 : Cond.static yX6_firstDay ∈ bt := in_t3 (List.mem_of_getElem? (i := 203) (by decide +kernel)) rfl
theorem m3_204 : Cond.code yX6_firstDay cX6_firstDay 2 (Option.some Jvm.ClassFile.FieldType.int) ∈ bt := in_t3 (List.mem_of_getElem? (i := 204) (by decide +kernel)) rfl
theorem m3_205 : Cond.methodLink RX6 129 yJ9_max_7cf53 ∈ bt := in_t3 (List.mem_of_getElem? (i := 205) (by decide +kernel)) rfl
theorem m3_206 : Cond.methodLink RX6 94 yX6_findOn ∈ bt := in_t3 (List.mem_of_getElem? (i := 206) (by decide +kernel)) rfl
theorem m3_208 : Cond.instanceMethod yX6_findOn ∈ bt := in_t3 (List.mem_of_getElem? (i := 208) (by decide +kernel)) rfl
theorem m3_209 : Cond.code yX6_findOn cX6_findOn 8 (Option.some Jvm.ClassFile.FieldType.boolean) ∈ bt := in_t3 (List.mem_of_getElem? (i := 209) (by decide +kernel)) rfl
theorem m3_210 : Cond.methodLink RX6 45 yX10_works ∈ bt := in_t3 (List.mem_of_getElem? (i := 210) (by decide +kernel)) rfl
theorem m3_211 : Cond.methodLink RX6 57 yX6_lookAtDay ∈ bt := in_t3 (List.mem_of_getElem? (i := 211) (by decide +kernel)) rfl
theorem m3_213 : Cond.instanceMethod yX6_lookAtDay ∈ bt := in_t3 (List.mem_of_getElem? (i := 213) (by decide +kernel)) rfl
theorem m3_214 : Cond.code yX6_lookAtDay cX6_lookAtDay 10 (Option.none : Option Jvm.ClassFile.FieldType) ∈ bt := in_t3 (List.mem_of_getElem? (i := 214) (by decide +kernel)) rfl
theorem m3_215 : Cond.methodLink RX6 156 yJ7_fill_53178 ∈ bt := in_t3 (List.mem_of_getElem? (i := 215) (by decide +kernel)) rfl
theorem m3_216 : Cond.methodLink RX6 162 yX9_awayOfficers ∈ bt := in_t3 (List.mem_of_getElem? (i := 216) (by decide +kernel)) rfl
theorem m3_217 : Cond.instanceMethod yX9_awayOfficers ∈ bt := in_t3 (List.mem_of_getElem? (i := 217) (by decide +kernel)) rfl
theorem m3_218 : Cond.selects RX9 yX9_awayOfficers yX9_awayOfficers ∈ bt := in_t3 (List.mem_of_getElem? (i := 218) (by decide +kernel)) rfl
theorem m3_219 : Cond.code yX9_awayOfficers cX9_awayOfficers 4 (Option.some Jvm.ClassFile.FieldType.int) ∈ bt := in_t3 (List.mem_of_getElem? (i := 219) (by decide +kernel)) rfl
theorem m3_220 : Cond.methodLink RX9 90 yX9_isAway ∈ bt := in_t3 (List.mem_of_getElem? (i := 220) (by decide +kernel)) rfl
theorem m3_221 : Cond.instanceMethod yX9_isAway ∈ bt := in_t3 (List.mem_of_getElem? (i := 221) (by decide +kernel)) rfl
theorem m3_222 : Cond.selects RX9 yX9_isAway yX9_isAway ∈ bt := in_t3 (List.mem_of_getElem? (i := 222) (by decide +kernel)) rfl
theorem m3_223 : Cond.code yX9_isAway cX9_isAway 5 (Option.some Jvm.ClassFile.FieldType.boolean) ∈ bt := in_t3 (List.mem_of_getElem? (i := 223) (by decide +kernel)) rfl
theorem m3_224 : Cond.methodLink RX6 165 yX10_slotsOutside ∈ bt := in_t3 (List.mem_of_getElem? (i := 224) (by decide +kernel)) rfl
theorem m3_225 : Cond.instanceMethod yX10_slotsOutside ∈ bt := in_t3 (List.mem_of_getElem? (i := 225) (by decide +kernel)) rfl
theorem m3_226 : Cond.selects RX10 yX10_slotsOutside yX10_slotsOutside ∈ bt := in_t3 (List.mem_of_getElem? (i := 226) (by decide +kernel)) rfl
theorem m3_227 : Cond.code yX10_slotsOutside cX10_slotsOutside 7 (Option.some Jvm.ClassFile.FieldType.int) ∈ bt := in_t3 (List.mem_of_getElem? (i := 227) (by decide +kernel)) rfl
theorem m3_228 : Cond.methodLinkNest RX10 129 yX12_slotSet RX12 ∈ nb := in_n3 (List.mem_of_getElem? (i := 228) (by decide +kernel)) rfl
theorem m3_229 : Cond.static yX12_slotSet ∈ bt := in_t3 (List.mem_of_getElem? (i := 229) (by decide +kernel)) rfl
theorem m3_230 : Cond.code yX12_slotSet cX12_slotSet 2 (Option.some Jvm.ClassFile.FieldType.int) ∈ bt := in_t3 (List.mem_of_getElem? (i := 230) (by decide +kernel)) rfl
theorem m3_231 : Cond.methodLink RX6 168 yX7_isOn ∈ bt := in_t3 (List.mem_of_getElem? (i := 231) (by decide +kernel)) rfl
theorem m3_232 : Cond.instanceMethod yX7_isOn ∈ bt := in_t3 (List.mem_of_getElem? (i := 232) (by decide +kernel)) rfl
theorem m3_233 : Cond.selects RX7 yX7_isOn yX7_isOn ∈ bt := in_t3 (List.mem_of_getElem? (i := 233) (by decide +kernel)) rfl
theorem m3_234 : Cond.code yX7_isOn cX7_isOn 2 (Option.some Jvm.ClassFile.FieldType.boolean) ∈ bt := in_t3 (List.mem_of_getElem? (i := 234) (by decide +kernel)) rfl
theorem m3_235 : Cond.methodLink RX6 171 yX10_slotsOf ∈ bt := in_t3 (List.mem_of_getElem? (i := 235) (by decide +kernel)) rfl
theorem m3_236 : Cond.instanceMethod yX10_slotsOf ∈ bt := in_t3 (List.mem_of_getElem? (i := 236) (by decide +kernel)) rfl
theorem m3_237 : Cond.selects RX10 yX10_slotsOf yX10_slotsOf ∈ bt := in_t3 (List.mem_of_getElem? (i := 237) (by decide +kernel)) rfl
theorem m3_238 : Cond.code yX10_slotsOf cX10_slotsOf 2 (Option.some Jvm.ClassFile.FieldType.int) ∈ bt := in_t3 (List.mem_of_getElem? (i := 238) (by decide +kernel)) rfl
theorem m3_239 : Cond.methodLink RX6 175 yX6_take ∈ bt := in_t3 (List.mem_of_getElem? (i := 239) (by decide +kernel)) rfl
theorem m4_0 : Cond.static yX6_take ∈ bt := in_t4 (List.mem_of_getElem? (i := 0) (by decide +kernel)) rfl
theorem m4_1 : Cond.code yX6_take cX6_take 3 (Option.none : Option Jvm.ClassFile.FieldType) ∈ bt := in_t4 (List.mem_of_getElem? (i := 1) (by decide +kernel)) rfl
theorem m4_2 : Cond.methodLinkNest RX6 64 yX12_slotSet RX12 ∈ nb := in_n4 (List.mem_of_getElem? (i := 2) (by decide +kernel)) rfl
theorem m4_3 : Cond.methodLink RX6 137 yX6_findIn ∈ bt := in_t4 (List.mem_of_getElem? (i := 3) (by decide +kernel)) rfl
theorem m4_5 : Cond.instanceMethod yX6_findIn ∈ bt := in_t4 (List.mem_of_getElem? (i := 5) (by decide +kernel)) rfl
theorem m4_6 : Cond.code yX6_findIn cX6_findIn 5 (Option.some Jvm.ClassFile.FieldType.boolean) ∈ bt := in_t4 (List.mem_of_getElem? (i := 6) (by decide +kernel)) rfl
theorem m4_7 : Cond.methodLink RX6 144 yX6_leastLoaded ∈ bt := in_t4 (List.mem_of_getElem? (i := 7) (by decide +kernel)) rfl
theorem m4_9 : Cond.instanceMethod yX6_leastLoaded ∈ bt := in_t4 (List.mem_of_getElem? (i := 9) (by decide +kernel)) rfl
theorem m4_10 : Cond.code yX6_leastLoaded cX6_leastLoaded 6 (Option.some Jvm.ClassFile.FieldType.int) ∈ bt := in_t4 (List.mem_of_getElem? (i := 10) (by decide +kernel)) rfl
theorem m4_11 : Cond.methodLinkNest RX6 74 yX12_has RX12 ∈ nb := in_n4 (List.mem_of_getElem? (i := 11) (by decide +kernel)) rfl
theorem m4_12 : Cond.methodLink RX6 126 yX6_setFound ∈ bt := in_t4 (List.mem_of_getElem? (i := 12) (by decide +kernel)) rfl
theorem m4_13 : Cond.instanceMethod yX6_setFound ∈ bt := in_t4 (List.mem_of_getElem? (i := 13) (by decide +kernel)) rfl
theorem m4_14 : Cond.selects RX6 yX6_setFound yX6_setFound ∈ bt := in_t4 (List.mem_of_getElem? (i := 14) (by decide +kernel)) rfl
theorem m4_15 : Cond.code yX6_setFound cX6_setFound 3 (Option.none : Option Jvm.ClassFile.FieldType) ∈ bt := in_t4 (List.mem_of_getElem? (i := 15) (by decide +kernel)) rfl
theorem m4_16 : Cond.methodLink RX6 112 yX7_setHearing ∈ bt := in_t4 (List.mem_of_getElem? (i := 16) (by decide +kernel)) rfl
theorem m4_17 : Cond.instanceMethod yX7_setHearing ∈ bt := in_t4 (List.mem_of_getElem? (i := 17) (by decide +kernel)) rfl
theorem m4_18 : Cond.selects RX7 yX7_setHearing yX7_setHearing ∈ bt := in_t4 (List.mem_of_getElem? (i := 18) (by decide +kernel)) rfl
theorem m4_19 : Cond.code yX7_setHearing cX7_setHearing 5 (Option.none : Option Jvm.ClassFile.FieldType) ∈ bt := in_t4 (List.mem_of_getElem? (i := 19) (by decide +kernel)) rfl
theorem m4_20 : Cond.methodLink RL 201 yX12_undo ∈ bt := in_t4 (List.mem_of_getElem? (i := 20) (by decide +kernel)) rfl
theorem m4_21 : Cond.instanceMethod yX12_undo ∈ bt := in_t4 (List.mem_of_getElem? (i := 21) (by decide +kernel)) rfl
theorem m4_22 : Cond.selects RX12 yX12_undo yX12_undo ∈ bt := in_t4 (List.mem_of_getElem? (i := 22) (by decide +kernel)) rfl
theorem m4_23 : Cond.code yX12_undo cX12_undo 1 (Option.some Jvm.ClassFile.FieldType.int) ∈ bt := in_t4 (List.mem_of_getElem? (i := 23) (by decide +kernel)) rfl
theorem m4_24 : Cond.classLink RX12 331 "java/lang/IllegalStateException" ∈ bt := in_t4 (List.mem_of_getElem? (i := 24) (by decide +kernel)) rfl
theorem m4_25 : Cond.instantiable "java/lang/IllegalStateException" 6 ∈ bt := in_t4 (List.mem_of_getElem? (i := 25) (by decide +kernel)) rfl
theorem m4_26 : Cond.castable "java/lang/IllegalStateException" "java/lang/IllegalStateException" ∈ nb := in_n4 (List.mem_of_getElem? (i := 26) (by decide +kernel)) rfl
theorem m4_27 : Cond.selects "java/lang/IllegalStateException" ({ cls := "java/lang/Throwable", name := "fillInStackTrace", desc := "(I)Ljava/lang/Throwable;" } : Jvm.MethodName) ({ cls := "java/lang/Throwable", name := "fillInStackTrace", desc := "(I)Ljava/lang/Throwable;" } : Jvm.MethodName) ∈ bt := in_t4 (List.mem_of_getElem? (i := 27) (by decide +kernel)) rfl
theorem m4_28 : Cond.lays "java/lang/IllegalStateException" "java/lang/Throwable" "cause" "Ljava/lang/Throwable;" ∈ bt := in_t4 (List.mem_of_getElem? (i := 28) (by decide +kernel)) rfl
theorem m4_29 : Cond.lays "java/lang/IllegalStateException" "java/lang/Throwable" "stackTrace" "[Ljava/lang/StackTraceElement;" ∈ bt := in_t4 (List.mem_of_getElem? (i := 29) (by decide +kernel)) rfl
theorem m4_30 : Cond.lays "java/lang/IllegalStateException" "java/lang/Throwable" "suppressedExceptions" "Ljava/util/List;" ∈ bt := in_t4 (List.mem_of_getElem? (i := 30) (by decide +kernel)) rfl
theorem m4_31 : Cond.lays "java/lang/IllegalStateException" "java/lang/Throwable" "detailMessage" "Ljava/lang/String;" ∈ bt := in_t4 (List.mem_of_getElem? (i := 31) (by decide +kernel)) rfl
theorem m4_32 : Cond.lays "java/lang/IllegalStateException" "java/lang/Throwable" "backtrace" "Ljava/lang/Object;" ∈ bt := in_t4 (List.mem_of_getElem? (i := 32) (by decide +kernel)) rfl
theorem m4_33 : Cond.methodLink RX12 333 ({ cls := "java/lang/IllegalStateException", name := "<init>", desc := "()V" } : Jvm.MethodName) ∈ bt := in_t4 (List.mem_of_getElem? (i := 33) (by decide +kernel)) rfl
theorem m4_34 : Cond.instanceMethod ({ cls := "java/lang/IllegalStateException", name := "<init>", desc := "()V" } : Jvm.MethodName) ∈ bt := in_t4 (List.mem_of_getElem? (i := 34) (by decide +kernel)) rfl
theorem m4_35 : Cond.code ({ cls := "java/lang/IllegalStateException", name := "<init>", desc := "()V" } : Jvm.MethodName) prog_25_method_1_code 1 (Option.none : Option Jvm.ClassFile.FieldType) ∈ bt := in_t4 (List.mem_of_getElem? (i := 35) (by decide +kernel)) rfl
theorem m4_36 : Cond.methodLink "java/lang/IllegalStateException" 1 ({ cls := "java/lang/RuntimeException", name := "<init>", desc := "()V" } : Jvm.MethodName) ∈ bt := in_t4 (List.mem_of_getElem? (i := 36) (by decide +kernel)) rfl
theorem m4_37 : Cond.lays "java/lang/IllegalStateException" "java/lang/Throwable" "depth" "I" ∈ bt := in_t4 (List.mem_of_getElem? (i := 37) (by decide +kernel)) rfl
theorem m4_38 : Cond.superclass "java/lang/IllegalStateException" "java/lang/RuntimeException" ∈ bt := in_t4 (List.mem_of_getElem? (i := 38) (by decide +kernel)) rfl
theorem m4_39 : Cond.methodLink RL 189 yX12_lapsesIn ∈ bt := in_t4 (List.mem_of_getElem? (i := 39) (by decide +kernel)) rfl
theorem m4_40 : Cond.instanceMethod yX12_lapsesIn ∈ bt := in_t4 (List.mem_of_getElem? (i := 40) (by decide +kernel)) rfl
theorem m4_41 : Cond.selects RX12 yX12_lapsesIn yX12_lapsesIn ∈ bt := in_t4 (List.mem_of_getElem? (i := 41) (by decide +kernel)) rfl
theorem m4_42 : Cond.code yX12_lapsesIn cX12_lapsesIn 3 (Option.some Jvm.ClassFile.FieldType.int) ∈ bt := in_t4 (List.mem_of_getElem? (i := 42) (by decide +kernel)) rfl
theorem m4_43 : Cond.methodLink RL 192 yX12_plannable ∈ bt := in_t4 (List.mem_of_getElem? (i := 43) (by decide +kernel)) rfl
theorem m4_44 : Cond.instanceMethod yX12_plannable ∈ bt := in_t4 (List.mem_of_getElem? (i := 44) (by decide +kernel)) rfl
theorem m4_45 : Cond.selects RX12 yX12_plannable yX12_plannable ∈ bt := in_t4 (List.mem_of_getElem? (i := 45) (by decide +kernel)) rfl
theorem m4_46 : Cond.code yX12_plannable cX12_plannable 1 (Option.some Jvm.ClassFile.FieldType.int) ∈ bt := in_t4 (List.mem_of_getElem? (i := 46) (by decide +kernel)) rfl
theorem m4_47 : Cond.methodLink RX12 366 yX12_forecastPlanned ∈ bt := in_t4 (List.mem_of_getElem? (i := 47) (by decide +kernel)) rfl
theorem m4_49 : Cond.instanceMethod yX12_forecastPlanned ∈ bt := in_t4 (List.mem_of_getElem? (i := 49) (by decide +kernel)) rfl
theorem m4_50 : Cond.code yX12_forecastPlanned cX12_forecastPlanned 2 (Option.some Jvm.ClassFile.FieldType.int) ∈ bt := in_t4 (List.mem_of_getElem? (i := 50) (by decide +kernel)) rfl
theorem m4_51 : Cond.methodLink RL 195 yX12_saveState ∈ bt := in_t4 (List.mem_of_getElem? (i := 51) (by decide +kernel)) rfl
theorem m4_52 : Cond.instanceMethod yX12_saveState ∈ bt := in_t4 (List.mem_of_getElem? (i := 52) (by decide +kernel)) rfl
theorem m4_53 : Cond.selects RX12 yX12_saveState yX12_saveState ∈ bt := in_t4 (List.mem_of_getElem? (i := 53) (by decide +kernel)) rfl
theorem m4_54 : Cond.code yX12_saveState cX12_saveState 1 (Option.some Jvm.ClassFile.FieldType.int) ∈ bt := in_t4 (List.mem_of_getElem? (i := 54) (by decide +kernel)) rfl
theorem m4_55 : Cond.methodLink RL 198 yX12_restoreState ∈ bt := in_t4 (List.mem_of_getElem? (i := 55) (by decide +kernel)) rfl
theorem m4_56 : Cond.instanceMethod yX12_restoreState ∈ bt := in_t4 (List.mem_of_getElem? (i := 56) (by decide +kernel)) rfl
theorem m4_57 : Cond.selects RX12 yX12_restoreState yX12_restoreState ∈ bt := in_t4 (List.mem_of_getElem? (i := 57) (by decide +kernel)) rfl
theorem m4_58 : Cond.code yX12_restoreState cX12_restoreState 1 (Option.some Jvm.ClassFile.FieldType.int) ∈ bt := in_t4 (List.mem_of_getElem? (i := 58) (by decide +kernel)) rfl
theorem m4_59 : Cond.methodLink RL 79 yL_draw ∈ bt := in_t4 (List.mem_of_getElem? (i := 59) (by decide +kernel)) rfl
theorem m4_60 : Cond.static yL_draw ∈ bt := in_t4 (List.mem_of_getElem? (i := 60) (by decide +kernel)) rfl
theorem m4_61 : Cond.code yL_draw cL_draw 4 (Option.some Jvm.ClassFile.FieldType.int) ∈ bt := in_t4 (List.mem_of_getElem? (i := 61) (by decide +kernel)) rfl
theorem m4_62 : Cond.methodLink RL 8 yL_cell ∈ bt := in_t4 (List.mem_of_getElem? (i := 62) (by decide +kernel)) rfl
theorem m4_63 : Cond.static yL_cell ∈ bt := in_t4 (List.mem_of_getElem? (i := 63) (by decide +kernel)) rfl
theorem m4_64 : Cond.code yL_cell cL_cell 2 (Option.some Jvm.ClassFile.FieldType.int) ∈ bt := in_t4 (List.mem_of_getElem? (i := 64) (by decide +kernel)) rfl
theorem m4_65 : Cond.constant RL 7 (1013904223 : Int32) ∈ bt := in_t4 (List.mem_of_getElem? (i := 65) (by decide +kernel)) rfl
theorem m4_66 : Cond.constant RL 14 (2147483647 : Int32) ∈ bt := in_t4 (List.mem_of_getElem? (i := 66) (by decide +kernel)) rfl
theorem m4_67 : Cond.methodLink RL 173 yL_parsed ∈ bt := in_t4 (List.mem_of_getElem? (i := 67) (by decide +kernel)) rfl
theorem m4_68 : Cond.static yL_parsed ∈ bt := in_t4 (List.mem_of_getElem? (i := 68) (by decide +kernel)) rfl
theorem m4_69 : Cond.code yL_parsed cL_parsed 2 (Option.some Jvm.ClassFile.FieldType.int) ∈ bt := in_t4 (List.mem_of_getElem? (i := 69) (by decide +kernel)) rfl
theorem m4_70 : Cond.methodLink RL 35 yL_feed ∈ bt := in_t4 (List.mem_of_getElem? (i := 70) (by decide +kernel)) rfl
theorem m4_71 : Cond.static yL_feed ∈ bt := in_t4 (List.mem_of_getElem? (i := 71) (by decide +kernel)) rfl
theorem m4_72 : Cond.code yL_feed cL_feed 5 (Option.none : Option Jvm.ClassFile.FieldType) ∈ bt := in_t4 (List.mem_of_getElem? (i := 72) (by decide +kernel)) rfl
theorem m4_73 : Cond.methodLink RL 15 yJ0_length_8abf5 ∈ bt := in_t4 (List.mem_of_getElem? (i := 73) (by decide +kernel)) rfl
theorem m4_74 : Cond.instanceMethod yJ0_length_8abf5 ∈ bt := in_t4 (List.mem_of_getElem? (i := 74) (by decide +kernel)) rfl
theorem m4_75 : Cond.selects RJ0 yJ0_length_8abf5 yJ0_length_8abf5 ∈ bt := in_t4 (List.mem_of_getElem? (i := 75) (by decide +kernel)) rfl
theorem m4_76 : Cond.code yJ0_length_8abf5 cJ0_length_8abf5 1 (Option.some Jvm.ClassFile.FieldType.int) ∈ bt := in_t4 (List.mem_of_getElem? (i := 76) (by decide +kernel)) rfl
theorem m4_77 : Cond.methodLink RJ0 335 yJ0_coder_7d493 ∈ bt := in_t4 (List.mem_of_getElem? (i := 77) (by decide +kernel)) rfl
theorem m4_78 : Cond.instanceMethod yJ0_coder_7d493 ∈ bt := in_t4 (List.mem_of_getElem? (i := 78) (by decide +kernel)) rfl
theorem m4_79 : Cond.selects RJ0 yJ0_coder_7d493 yJ0_coder_7d493 ∈ bt := in_t4 (List.mem_of_getElem? (i := 79) (by decide +kernel)) rfl
theorem m4_80 : Cond.code yJ0_coder_7d493 cJ0_coder_7d493 1 (Option.some Jvm.ClassFile.FieldType.byte) ∈ bt := in_t4 (List.mem_of_getElem? (i := 80) (by decide +kernel)) rfl
theorem m4_81 : Cond.fieldLink RJ0 38 RJ0 "COMPACT_STRINGS" "Z" ∈ bt := in_t4 (List.mem_of_getElem? (i := 81) (by decide +kernel)) rfl
theorem m4_82 : Cond.laysStatic RJ0 "COMPACT_STRINGS" "Z" ∈ lw_tbl := in_l4 (List.mem_of_getElem? (i := 82) (by decide +kernel))
theorem m4_83 : Cond.methodLink RL 21 yJ0_charAt_5068e ∈ bt := in_t4 (List.mem_of_getElem? (i := 83) (by decide +kernel)) rfl
theorem m4_84 : Cond.instanceMethod yJ0_charAt_5068e ∈ bt := in_t4 (List.mem_of_getElem? (i := 84) (by decide +kernel)) rfl
theorem m4_85 : Cond.selects RJ0 yJ0_charAt_5068e yJ0_charAt_5068e ∈ bt := in_t4 (List.mem_of_getElem? (i := 85) (by decide +kernel)) rfl
theorem m4_86 : Cond.code yJ0_charAt_5068e cJ0_charAt_5068e 2 (Option.some Jvm.ClassFile.FieldType.char) ∈ bt := in_t4 (List.mem_of_getElem? (i := 86) (by decide +kernel)) rfl
theorem m4_87 : Cond.methodLink RJ0 492 yJ0_isLatin1_aae02 ∈ bt := in_t4 (List.mem_of_getElem? (i := 87) (by decide +kernel)) rfl
theorem m4_88 : Cond.instanceMethod yJ0_isLatin1_aae02 ∈ bt := in_t4 (List.mem_of_getElem? (i := 88) (by decide +kernel)) rfl
theorem m4_89 : Cond.selects RJ0 yJ0_isLatin1_aae02 yJ0_isLatin1_aae02 ∈ bt := in_t4 (List.mem_of_getElem? (i := 89) (by decide +kernel)) rfl
theorem m4_90 : Cond.code yJ0_isLatin1_aae02 cJ0_isLatin1_aae02 1 (Option.some Jvm.ClassFile.FieldType.boolean) ∈ bt := in_t4 (List.mem_of_getElem? (i := 90) (by decide +kernel)) rfl
theorem m4_91 : Cond.methodLink RJ0 495 yJ1_charAt_3b067 ∈ bt := in_t4 (List.mem_of_getElem? (i := 91) (by decide +kernel)) rfl
theorem m4_92 : Cond.static yJ1_charAt_3b067 ∈ bt := in_t4 (List.mem_of_getElem? (i := 92) (by decide +kernel)) rfl
theorem m4_93 : Cond.code yJ1_charAt_3b067 cJ1_charAt_3b067 2 (Option.some Jvm.ClassFile.FieldType.char) ∈ bt := in_t4 (List.mem_of_getElem? (i := 93) (by decide +kernel)) rfl
theorem m4_94 : Cond.methodLink RJ1 9 yJ0_checkIndex_df160 ∈ bt := in_t4 (List.mem_of_getElem? (i := 94) (by decide +kernel)) rfl
theorem m4_95 : Cond.static yJ0_checkIndex_df160 ∈ bt := in_t4 (List.mem_of_getElem? (i := 95) (by decide +kernel)) rfl
theorem m4_96 : Cond.code yJ0_checkIndex_df160 cJ0_checkIndex_df160 2 (Option.none : Option Jvm.ClassFile.FieldType) ∈ bt := in_t4 (List.mem_of_getElem? (i := 96) (by decide +kernel)) rfl
theorem m4_97 : Cond.fieldLink RJ0 1053 RJ3 "SIOOBE_FORMATTER" "Ljava/util/function/BiFunction;" ∈ bt := in_t4 (List.mem_of_getElem? (i := 97) (by decide +kernel)) rfl
theorem m4_98 : Cond.laysStatic RJ3 "SIOOBE_FORMATTER" "Ljava/util/function/BiFunction;" ∈ lw_tbl := in_l4 (List.mem_of_getElem? (i := 98) (by decide +kernel))
theorem m4_99 : Cond.methodLink RJ0 1059 yJ3_checkIndex_8e157 ∈ bt := in_t4 (List.mem_of_getElem? (i := 99) (by decide +kernel)) rfl
theorem m4_100 : Cond.static yJ3_checkIndex_8e157 ∈ bt := in_t4 (List.mem_of_getElem? (i := 100) (by decide +kernel)) rfl
theorem m4_101 : Cond.code yJ3_checkIndex_8e157 cJ3_checkIndex_8e157 3 (Option.some Jvm.ClassFile.FieldType.int) ∈ bt := in_t4 (List.mem_of_getElem? (i := 101) (by decide +kernel)) rfl
theorem m4_102 : Cond.methodLink RJ0 498 yJ2_charAt_3b067 ∈ bt := in_t4 (List.mem_of_getElem? (i := 102) (by decide +kernel)) rfl
theorem m4_103 : Cond.static yJ2_charAt_3b067 ∈ bt := in_t4 (List.mem_of_getElem? (i := 103) (by decide +kernel)) rfl
theorem m4_104 : Cond.code yJ2_charAt_3b067 cJ2_charAt_3b067 2 (Option.some Jvm.ClassFile.FieldType.char) ∈ bt := in_t4 (List.mem_of_getElem? (i := 104) (by decide +kernel)) rfl
theorem m4_105 : Cond.methodLink RJ2 67 yJ2_checkIndex_2214a ∈ bt := in_t4 (List.mem_of_getElem? (i := 105) (by decide +kernel)) rfl
theorem m4_106 : Cond.static yJ2_checkIndex_2214a ∈ bt := in_t4 (List.mem_of_getElem? (i := 106) (by decide +kernel)) rfl
theorem m4_107 : Cond.code yJ2_checkIndex_2214a cJ2_checkIndex_2214a 2 (Option.none : Option Jvm.ClassFile.FieldType) ∈ bt := in_t4 (List.mem_of_getElem? (i := 107) (by decide +kernel)) rfl
theorem m4_108 : Cond.methodLink RJ2 48 yJ2_length_9d52b ∈ bt := in_t4 (List.mem_of_getElem? (i := 108) (by decide +kernel)) rfl
theorem m4_109 : Cond.static yJ2_length_9d52b ∈ bt := in_t4 (List.mem_of_getElem? (i := 109) (by decide +kernel)) rfl
theorem m4_110 : Cond.code yJ2_length_9d52b cJ2_length_9d52b 1 (Option.some Jvm.ClassFile.FieldType.int) ∈ bt := in_t4 (List.mem_of_getElem? (i := 110) (by decide +kernel)) rfl
theorem m4_111 : Cond.methodLink RJ2 414 yJ0_checkIndex_df160 ∈ bt := in_t4 (List.mem_of_getElem? (i := 111) (by decide +kernel)) rfl
theorem m4_112 : Cond.methodLink RJ2 71 yJ2_getChar_3b067 ∈ bt := in_t4 (List.mem_of_getElem? (i := 112) (by decide +kernel)) rfl
theorem m4_113 : Cond.static yJ2_getChar_3b067 ∈ bt := in_t4 (List.mem_of_getElem? (i := 113) (by decide +kernel)) rfl
theorem m4_114 : Cond.code yJ2_getChar_3b067 cJ2_getChar_3b067 2 (Option.some Jvm.ClassFile.FieldType.char) ∈ bt := in_t4 (List.mem_of_getElem? (i := 114) (by decide +kernel)) rfl
theorem m4_115 : Cond.fieldLink RJ2 44 RJ2 "$assertionsDisabled" "Z" ∈ bt := in_t4 (List.mem_of_getElem? (i := 115) (by decide +kernel)) rfl
theorem m4_116 : Cond.laysStatic RJ2 "$assertionsDisabled" "Z" ∈ lw_tbl := in_l4 (List.mem_of_getElem? (i := 116) (by decide +kernel))
theorem m4_117 : Cond.fieldLink RJ2 59 RJ2 "HI_BYTE_SHIFT" "I" ∈ bt := in_t4 (List.mem_of_getElem? (i := 117) (by decide +kernel)) rfl
theorem m4_118 : Cond.laysStatic RJ2 "HI_BYTE_SHIFT" "I" ∈ lw_tbl := in_l4 (List.mem_of_getElem? (i := 118) (by decide +kernel))
theorem m4_119 : Cond.fieldLink RJ2 63 RJ2 "LO_BYTE_SHIFT" "I" ∈ bt := in_t4 (List.mem_of_getElem? (i := 119) (by decide +kernel)) rfl
theorem m4_120 : Cond.laysStatic RJ2 "LO_BYTE_SHIFT" "I" ∈ lw_tbl := in_l4 (List.mem_of_getElem? (i := 120) (by decide +kernel))
theorem m4_121 : Cond.methodLink RL 25 yX12_feed ∈ bt := in_t4 (List.mem_of_getElem? (i := 121) (by decide +kernel)) rfl
theorem m4_122 : Cond.instanceMethod yX12_feed ∈ bt := in_t4 (List.mem_of_getElem? (i := 122) (by decide +kernel)) rfl
theorem m4_123 : Cond.selects RX12 yX12_feed yX12_feed ∈ bt := in_t4 (List.mem_of_getElem? (i := 123) (by decide +kernel)) rfl
theorem m4_124 : Cond.code yX12_feed cX12_feed 6 (Option.some Jvm.ClassFile.FieldType.int) ∈ bt := in_t4 (List.mem_of_getElem? (i := 124) (by decide +kernel)) rfl
theorem m4_125 : Cond.methodLink RX12 73 yX12_append ∈ bt := in_t4 (List.mem_of_getElem? (i := 125) (by decide +kernel)) rfl
theorem m4_127 : Cond.instanceMethod yX12_append ∈ bt := in_t4 (List.mem_of_getElem? (i := 127) (by decide +kernel)) rfl
theorem m4_128 : Cond.code yX12_append cX12_append 3 (Option.none : Option Jvm.ClassFile.FieldType) ∈ bt := in_t4 (List.mem_of_getElem? (i := 128) (by decide +kernel)) rfl
theorem m4_129 : Cond.methodLink RL 31 yX12_truncate ∈ bt := in_t4 (List.mem_of_getElem? (i := 129) (by decide +kernel)) rfl
theorem m4_130 : Cond.instanceMethod yX12_truncate ∈ bt := in_t4 (List.mem_of_getElem? (i := 130) (by decide +kernel)) rfl
theorem m4_131 : Cond.selects RX12 yX12_truncate yX12_truncate ∈ bt := in_t4 (List.mem_of_getElem? (i := 131) (by decide +kernel)) rfl
theorem m4_132 : Cond.code yX12_truncate cX12_truncate 2 (Option.some Jvm.ClassFile.FieldType.boolean) ∈ bt := in_t4 (List.mem_of_getElem? (i := 132) (by decide +kernel)) rfl
theorem m4_133 : Cond.methodLink RL 38 yX12_parse ∈ bt := in_t4 (List.mem_of_getElem? (i := 133) (by decide +kernel)) rfl
theorem m4_134 : Cond.instanceMethod yX12_parse ∈ bt := in_t4 (List.mem_of_getElem? (i := 134) (by decide +kernel)) rfl
theorem m4_135 : Cond.selects RX12 yX12_parse yX12_parse ∈ bt := in_t4 (List.mem_of_getElem? (i := 135) (by decide +kernel)) rfl
theorem m4_136 : Cond.code yX12_parse cX12_parse 2 (Option.some Jvm.ClassFile.FieldType.int) ∈ bt := in_t4 (List.mem_of_getElem? (i := 136) (by decide +kernel)) rfl
theorem m4_137 : Cond.methodLink RX12 77 yX5_read ∈ bt := in_t4 (List.mem_of_getElem? (i := 137) (by decide +kernel)) rfl
theorem m4_138 : Cond.instanceMethod yX5_read ∈ bt := in_t4 (List.mem_of_getElem? (i := 138) (by decide +kernel)) rfl
theorem m4_139 : Cond.selects RX5 yX5_read yX5_read ∈ bt := in_t4 (List.mem_of_getElem? (i := 139) (by decide +kernel)) rfl
theorem m4_140 : Cond.code yX5_read cX5_read 4 (Option.some Jvm.ClassFile.FieldType.boolean) ∈ bt := in_t4 (List.mem_of_getElem? (i := 140) (by decide +kernel)) rfl
theorem m4_141 : Cond.methodLink RX5 32 yX9_clear ∈ bt := in_t4 (List.mem_of_getElem? (i := 141) (by decide +kernel)) rfl
theorem m4_142 : Cond.methodLink RX5 35 yX8_begin ∈ bt := in_t4 (List.mem_of_getElem? (i := 142) (by decide +kernel)) rfl
theorem m4_143 : Cond.instanceMethod yX8_begin ∈ bt := in_t4 (List.mem_of_getElem? (i := 143) (by decide +kernel)) rfl
theorem m4_144 : Cond.selects RX8 yX8_begin yX8_begin ∈ bt := in_t4 (List.mem_of_getElem? (i := 144) (by decide +kernel)) rfl
theorem m4_145 : Cond.code yX8_begin cX8_begin 3 (Option.none : Option Jvm.ClassFile.FieldType) ∈ bt := in_t4 (List.mem_of_getElem? (i := 145) (by decide +kernel)) rfl
theorem m4_146 : Cond.methodLink RX8 24 yJ9_min_7cf53 ∈ bt := in_t4 (List.mem_of_getElem? (i := 146) (by decide +kernel)) rfl
theorem m4_147 : Cond.methodLink RX8 37 yX8_advance ∈ bt := in_t4 (List.mem_of_getElem? (i := 147) (by decide +kernel)) rfl
theorem m4_148 : Cond.instanceMethod yX8_advance ∈ bt := in_t4 (List.mem_of_getElem? (i := 148) (by decide +kernel)) rfl
theorem m4_149 : Cond.selects RX8 yX8_advance yX8_advance ∈ bt := in_t4 (List.mem_of_getElem? (i := 149) (by decide +kernel)) rfl
theorem m4_150 : Cond.code yX8_advance cX8_advance 1 (Option.none : Option Jvm.ClassFile.FieldType) ∈ bt := in_t4 (List.mem_of_getElem? (i := 150) (by decide +kernel)) rfl
theorem m4_151 : Cond.methodLinkNest RX8 50 yX12_isLetter RX12 ∈ nb := in_n4 (List.mem_of_getElem? (i := 151) (by decide +kernel)) rfl
theorem m4_152 : Cond.static yX12_isLetter ∈ bt := in_t4 (List.mem_of_getElem? (i := 152) (by decide +kernel)) rfl
theorem m4_153 : Cond.code yX12_isLetter cX12_isLetter 1 (Option.some Jvm.ClassFile.FieldType.boolean) ∈ bt := in_t4 (List.mem_of_getElem? (i := 153) (by decide +kernel)) rfl
theorem m4_154 : Cond.fieldLink RX8 54 RX11 "WRONG" "LCourtCalendar$Token;" ∈ bt := in_t4 (List.mem_of_getElem? (i := 154) (by decide +kernel)) rfl
theorem m4_155 : Cond.laysStatic RX11 "WRONG" "LCourtCalendar$Token;" ∈ lw_tbl := in_l4 (List.mem_of_getElem? (i := 155) (by decide +kernel))
theorem m4_156 : Cond.methodLink RX8 57 yX11_ofWord ∈ bt := in_t4 (List.mem_of_getElem? (i := 156) (by decide +kernel)) rfl
theorem m4_157 : Cond.static yX11_ofWord ∈ bt := in_t4 (List.mem_of_getElem? (i := 157) (by decide +kernel)) rfl
theorem m4_158 : Cond.code yX11_ofWord cX11_ofWord 3 (Option.some (Jvm.ClassFile.FieldType.object RX11)) ∈ bt := in_t4 (List.mem_of_getElem? (i := 158) (by decide +kernel)) rfl
theorem m4_159 : Cond.fieldLink RX11 100 RX11 "ALL" "[LCourtCalendar$Token;" ∈ bt := in_t4 (List.mem_of_getElem? (i := 159) (by decide +kernel)) rfl
theorem m4_160 : Cond.laysStatic RX11 "ALL" "[LCourtCalendar$Token;" ∈ lw_tbl := in_l4 (List.mem_of_getElem? (i := 160) (by decide +kernel))
theorem m4_161 : Cond.fieldLink RX11 52 RX11 "NAME" "LCourtCalendar$Token;" ∈ bt := in_t4 (List.mem_of_getElem? (i := 161) (by decide +kernel)) rfl
theorem m4_162 : Cond.laysStatic RX11 "NAME" "LCourtCalendar$Token;" ∈ lw_tbl := in_l4 (List.mem_of_getElem? (i := 162) (by decide +kernel))
theorem m4_163 : Cond.methodLink RX8 61 yX8_isDigit ∈ bt := in_t4 (List.mem_of_getElem? (i := 163) (by decide +kernel)) rfl
theorem m4_164 : Cond.static yX8_isDigit ∈ bt := in_t4 (List.mem_of_getElem? (i := 164) (by decide +kernel)) rfl
theorem m4_165 : Cond.code yX8_isDigit cX8_isDigit 1 (Option.some Jvm.ClassFile.FieldType.boolean) ∈ bt := in_t4 (List.mem_of_getElem? (i := 165) (by decide +kernel)) rfl
theorem m4_166 : Cond.fieldLink RX8 64 RX11 "NUMBER" "LCourtCalendar$Token;" ∈ bt := in_t4 (List.mem_of_getElem? (i := 166) (by decide +kernel)) rfl
theorem m4_167 : Cond.laysStatic RX11 "NUMBER" "LCourtCalendar$Token;" ∈ lw_tbl := in_l4 (List.mem_of_getElem? (i := 167) (by decide +kernel))
theorem m4_168 : Cond.fieldLink RX8 67 RX11 "SEMICOLON" "LCourtCalendar$Token;" ∈ bt := in_t4 (List.mem_of_getElem? (i := 168) (by decide +kernel)) rfl
theorem m4_169 : Cond.laysStatic RX11 "SEMICOLON" "LCourtCalendar$Token;" ∈ lw_tbl := in_l4 (List.mem_of_getElem? (i := 169) (by decide +kernel))
theorem m4_170 : Cond.fieldLink RX5 43 RX11 "END" "LCourtCalendar$Token;" ∈ bt := in_t4 (List.mem_of_getElem? (i := 170) (by decide +kernel)) rfl
theorem m4_171 : Cond.methodLink RX5 48 yX5_takesStatement ∈ bt := in_t4 (List.mem_of_getElem? (i := 171) (by decide +kernel)) rfl
theorem m4_173 : Cond.instanceMethod yX5_takesStatement ∈ bt := in_t4 (List.mem_of_getElem? (i := 173) (by decide +kernel)) rfl
theorem m4_174 : Cond.code yX5_takesStatement cX5_takesStatement 1 (Option.some Jvm.ClassFile.FieldType.boolean) ∈ bt := in_t4 (List.mem_of_getElem? (i := 174) (by decide +kernel)) rfl
theorem m4_175 : Cond.fieldLink RX5 62 RX0 "$SwitchMap$CourtCalendar$Token" "[I" ∈ bt := in_t4 (List.mem_of_getElem? (i := 175) (by decide +kernel)) rfl
theorem m4_176 : Cond.laysStatic RX0 "$SwitchMap$CourtCalendar$Token" "[I" ∈ lw_tbl := in_l4 (List.mem_of_getElem? (i := 176) (by decide +kernel))
theorem m4_177 : Cond.methodLink RX5 68 ({ cls := RX11, name := "ordinal", desc := "()I" } : Jvm.MethodName) ∈ bt := in_t4 (List.mem_of_getElem? (i := 177) (by decide +kernel)) rfl
theorem m4_178 : Cond.sameMethod RX11 RJx29ce0 "ordinal" "()I" ∈ bt := in_t4 (List.mem_of_getElem? (i := 178) (by decide +kernel)) rfl
theorem m4_180 : Cond.selects RX11 ({ cls := RX11, name := "ordinal", desc := "()I" } : Jvm.MethodName) yJx29ce0_ordinal_8abf5 ∈ bt := in_t4 (List.mem_of_getElem? (i := 180) (by decide +kernel)) rfl
theorem m4_181 : Cond.instanceMethod yJx29ce0_ordinal_8abf5 ∈ bt := in_t4 (List.mem_of_getElem? (i := 181) (by decide +kernel)) rfl
theorem m4_182 : Cond.code yJx29ce0_ordinal_8abf5 cJx29ce0_ordinal_8abf5 1 (Option.some Jvm.ClassFile.FieldType.int) ∈ bt := in_t4 (List.mem_of_getElem? (i := 182) (by decide +kernel)) rfl
theorem m4_183 : Cond.methodLink RX5 72 yX5_takesHoliday ∈ bt := in_t4 (List.mem_of_getElem? (i := 183) (by decide +kernel)) rfl
theorem m4_185 : Cond.instanceMethod yX5_takesHoliday ∈ bt := in_t4 (List.mem_of_getElem? (i := 185) (by decide +kernel)) rfl
theorem m4_186 : Cond.code yX5_takesHoliday cX5_takesHoliday 1 (Option.some Jvm.ClassFile.FieldType.boolean) ∈ bt := in_t4 (List.mem_of_getElem? (i := 186) (by decide +kernel)) rfl
theorem m4_187 : Cond.methodLink RX5 99 yX5_fail ∈ bt := in_t4 (List.mem_of_getElem? (i := 187) (by decide +kernel)) rfl
theorem m4_189 : Cond.instanceMethod yX5_fail ∈ bt := in_t4 (List.mem_of_getElem? (i := 189) (by decide +kernel)) rfl
theorem m4_190 : Cond.code yX5_fail cX5_fail 2 (Option.some Jvm.ClassFile.FieldType.boolean) ∈ bt := in_t4 (List.mem_of_getElem? (i := 190) (by decide +kernel)) rfl
theorem m4_191 : Cond.methodLink RX5 112 yX8_advance ∈ bt := in_t4 (List.mem_of_getElem? (i := 191) (by decide +kernel)) rfl
theorem m4_192 : Cond.methodLink RX5 115 yX5_seesNumber ∈ bt := in_t4 (List.mem_of_getElem? (i := 192) (by decide +kernel)) rfl
theorem m4_194 : Cond.instanceMethod yX5_seesNumber ∈ bt := in_t4 (List.mem_of_getElem? (i := 194) (by decide +kernel)) rfl
theorem m4_195 : Cond.code yX5_seesNumber cX5_seesNumber 3 (Option.some Jvm.ClassFile.FieldType.boolean) ∈ bt := in_t4 (List.mem_of_getElem? (i := 195) (by decide +kernel)) rfl
theorem m4_196 : Cond.fieldLink RX5 267 RX11 "NUMBER" "LCourtCalendar$Token;" ∈ bt := in_t4 (List.mem_of_getElem? (i := 196) (by decide +kernel)) rfl
theorem m4_197 : Cond.methodLink RX5 122 yX2_contains ∈ bt := in_t4 (List.mem_of_getElem? (i := 197) (by decide +kernel)) rfl
theorem m4_198 : Cond.methodLink RX5 125 yX2_add ∈ bt := in_t4 (List.mem_of_getElem? (i := 198) (by decide +kernel)) rfl
theorem m4_199 : Cond.instanceMethod yX2_add ∈ bt := in_t4 (List.mem_of_getElem? (i := 199) (by decide +kernel)) rfl
theorem m4_200 : Cond.selects RX2 yX2_add yX2_add ∈ bt := in_t4 (List.mem_of_getElem? (i := 200) (by decide +kernel)) rfl
theorem m4_201 : Cond.code yX2_add cX2_add 2 (Option.none : Option Jvm.ClassFile.FieldType) ∈ bt := in_t4 (List.mem_of_getElem? (i := 201) (by decide +kernel)) rfl
theorem m4_202 : Cond.methodLink RX2 15 yX2_contains ∈ bt := in_t4 (List.mem_of_getElem? (i := 202) (by decide +kernel)) rfl
theorem m4_203 : Cond.methodLink RX5 75 yX5_takesRoom ∈ bt := in_t4 (List.mem_of_getElem? (i := 203) (by decide +kernel)) rfl
theorem m4_205 : Cond.instanceMethod yX5_takesRoom ∈ bt := in_t4 (List.mem_of_getElem? (i := 205) (by decide +kernel)) rfl
theorem m4_206 : Cond.code yX5_takesRoom cX5_takesRoom 1 (Option.some Jvm.ClassFile.FieldType.boolean) ∈ bt := in_t4 (List.mem_of_getElem? (i := 206) (by decide +kernel)) rfl
theorem m4_207 : Cond.methodLink RX5 129 yX5_takesNewName ∈ bt := in_t4 (List.mem_of_getElem? (i := 207) (by decide +kernel)) rfl
theorem m4_209 : Cond.instanceMethod yX5_takesNewName ∈ bt := in_t4 (List.mem_of_getElem? (i := 209) (by decide +kernel)) rfl
theorem m4_210 : Cond.code yX5_takesNewName cX5_takesNewName 3 (Option.some Jvm.ClassFile.FieldType.boolean) ∈ bt := in_t4 (List.mem_of_getElem? (i := 210) (by decide +kernel)) rfl
theorem m4_211 : Cond.methodLink RX5 248 yX4_isFull ∈ bt := in_t4 (List.mem_of_getElem? (i := 211) (by decide +kernel)) rfl
theorem m4_212 : Cond.instanceMethod yX4_isFull ∈ bt := in_t4 (List.mem_of_getElem? (i := 212) (by decide +kernel)) rfl
theorem m4_213 : Cond.selects RX4 yX4_isFull yX4_isFull ∈ bt := in_t4 (List.mem_of_getElem? (i := 213) (by decide +kernel)) rfl
theorem m4_214 : Cond.code yX4_isFull cX4_isFull 1 (Option.some Jvm.ClassFile.FieldType.boolean) ∈ bt := in_t4 (List.mem_of_getElem? (i := 214) (by decide +kernel)) rfl
theorem m4_215 : Cond.fieldLink RX5 253 RX11 "NAME" "LCourtCalendar$Token;" ∈ bt := in_t4 (List.mem_of_getElem? (i := 215) (by decide +kernel)) rfl
theorem m4_216 : Cond.methodLink RX5 260 yX4_indexOf ∈ bt := in_t4 (List.mem_of_getElem? (i := 216) (by decide +kernel)) rfl
theorem m4_217 : Cond.instanceMethod yX4_indexOf ∈ bt := in_t4 (List.mem_of_getElem? (i := 217) (by decide +kernel)) rfl
theorem m4_218 : Cond.selects RX4 yX4_indexOf yX4_indexOf ∈ bt := in_t4 (List.mem_of_getElem? (i := 218) (by decide +kernel)) rfl
theorem m4_219 : Cond.code yX4_indexOf cX4_indexOf 4 (Option.some Jvm.ClassFile.FieldType.int) ∈ bt := in_t4 (List.mem_of_getElem? (i := 219) (by decide +kernel)) rfl
theorem m4_220 : Cond.methodLink RX5 264 yX4_add ∈ bt := in_t4 (List.mem_of_getElem? (i := 220) (by decide +kernel)) rfl
theorem m4_221 : Cond.instanceMethod yX4_add ∈ bt := in_t4 (List.mem_of_getElem? (i := 221) (by decide +kernel)) rfl
theorem m4_222 : Cond.selects RX4 yX4_add yX4_add ∈ bt := in_t4 (List.mem_of_getElem? (i := 222) (by decide +kernel)) rfl
theorem m4_223 : Cond.code yX4_add cX4_add 3 (Option.none : Option Jvm.ClassFile.FieldType) ∈ bt := in_t4 (List.mem_of_getElem? (i := 223) (by decide +kernel)) rfl
theorem m4_224 : Cond.fieldLink RX5 132 RX11 "SLOTS" "LCourtCalendar$Token;" ∈ bt := in_t4 (List.mem_of_getElem? (i := 224) (by decide +kernel)) rfl
theorem m4_225 : Cond.laysStatic RX11 "SLOTS" "LCourtCalendar$Token;" ∈ lw_tbl := in_l4 (List.mem_of_getElem? (i := 225) (by decide +kernel))
theorem m4_226 : Cond.methodLink RX5 55 yX5_takes ∈ bt := in_t4 (List.mem_of_getElem? (i := 226) (by decide +kernel)) rfl
theorem m4_228 : Cond.instanceMethod yX5_takes ∈ bt := in_t4 (List.mem_of_getElem? (i := 228) (by decide +kernel)) rfl
theorem m4_229 : Cond.code yX5_takes cX5_takes 2 (Option.some Jvm.ClassFile.FieldType.boolean) ∈ bt := in_t4 (List.mem_of_getElem? (i := 229) (by decide +kernel)) rfl
theorem m4_230 : Cond.methodLink RX5 135 yX5_takesSpan ∈ bt := in_t4 (List.mem_of_getElem? (i := 230) (by decide +kernel)) rfl
theorem m4_232 : Cond.instanceMethod yX5_takesSpan ∈ bt := in_t4 (List.mem_of_getElem? (i := 232) (by decide +kernel)) rfl
theorem m4_233 : Cond.code yX5_takesSpan cX5_takesSpan 2 (Option.some Jvm.ClassFile.FieldType.boolean) ∈ bt := in_t4 (List.mem_of_getElem? (i := 233) (by decide +kernel)) rfl
theorem m4_234 : Cond.methodLink RX5 183 yX5_takesNumber ∈ bt := in_t4 (List.mem_of_getElem? (i := 234) (by decide +kernel)) rfl
theorem m4_236 : Cond.instanceMethod yX5_takesNumber ∈ bt := in_t4 (List.mem_of_getElem? (i := 236) (by decide +kernel)) rfl
theorem m4_237 : Cond.code yX5_takesNumber cX5_takesNumber 3 (Option.some Jvm.ClassFile.FieldType.boolean) ∈ bt := in_t4 (List.mem_of_getElem? (i := 237) (by decide +kernel)) rfl
theorem m4_238 : Cond.methodLink RX5 141 yX9_size ∈ bt := in_t4 (List.mem_of_getElem? (i := 238) (by decide +kernel)) rfl
theorem m4_239 : Cond.methodLinkNest RX5 150 yX12_slotSet RX12 ∈ nb := in_n4 (List.mem_of_getElem? (i := 239) (by decide +kernel)) rfl
theorem m5_0 : Cond.methodLink RX5 78 yX5_takesOfficer ∈ bt := in_t5 (List.mem_of_getElem? (i := 0) (by decide +kernel)) rfl
theorem m5_2 : Cond.instanceMethod yX5_takesOfficer ∈ bt := in_t5 (List.mem_of_getElem? (i := 2) (by decide +kernel)) rfl
theorem m5_3 : Cond.code yX5_takesOfficer cX5_takesOfficer 2 (Option.some Jvm.ClassFile.FieldType.boolean) ∈ bt := in_t5 (List.mem_of_getElem? (i := 3) (by decide +kernel)) rfl
theorem m5_4 : Cond.fieldLink RX5 154 RX11 "OFF" "LCourtCalendar$Token;" ∈ bt := in_t5 (List.mem_of_getElem? (i := 4) (by decide +kernel)) rfl
theorem m5_5 : Cond.laysStatic RX11 "OFF" "LCourtCalendar$Token;" ∈ lw_tbl := in_l5 (List.mem_of_getElem? (i := 5) (by decide +kernel))
theorem m5_6 : Cond.methodLink RX5 157 yX9_addOff ∈ bt := in_t5 (List.mem_of_getElem? (i := 6) (by decide +kernel)) rfl
theorem m5_7 : Cond.instanceMethod yX9_addOff ∈ bt := in_t5 (List.mem_of_getElem? (i := 7) (by decide +kernel)) rfl
theorem m5_8 : Cond.selects RX9 yX9_addOff yX9_addOff ∈ bt := in_t5 (List.mem_of_getElem? (i := 8) (by decide +kernel)) rfl
theorem m5_9 : Cond.code yX9_addOff cX9_addOff 5 (Option.none : Option Jvm.ClassFile.FieldType) ∈ bt := in_t5 (List.mem_of_getElem? (i := 9) (by decide +kernel)) rfl
theorem m5_10 : Cond.methodLink RX5 81 yX5_takesWitness ∈ bt := in_t5 (List.mem_of_getElem? (i := 10) (by decide +kernel)) rfl
theorem m5_12 : Cond.instanceMethod yX5_takesWitness ∈ bt := in_t5 (List.mem_of_getElem? (i := 12) (by decide +kernel)) rfl
theorem m5_13 : Cond.code yX5_takesWitness cX5_takesWitness 2 (Option.some Jvm.ClassFile.FieldType.boolean) ∈ bt := in_t5 (List.mem_of_getElem? (i := 13) (by decide +kernel)) rfl
theorem m5_14 : Cond.fieldLink RX5 161 RX11 "DAYS" "LCourtCalendar$Token;" ∈ bt := in_t5 (List.mem_of_getElem? (i := 14) (by decide +kernel)) rfl
theorem m5_15 : Cond.laysStatic RX11 "DAYS" "LCourtCalendar$Token;" ∈ lw_tbl := in_l5 (List.mem_of_getElem? (i := 15) (by decide +kernel))
theorem m5_16 : Cond.methodLink RX5 84 yX5_takesCase ∈ bt := in_t5 (List.mem_of_getElem? (i := 16) (by decide +kernel)) rfl
theorem m5_18 : Cond.instanceMethod yX5_takesCase ∈ bt := in_t5 (List.mem_of_getElem? (i := 18) (by decide +kernel)) rfl
theorem m5_19 : Cond.code yX5_takesCase cX5_takesCase 2 (Option.some Jvm.ClassFile.FieldType.boolean) ∈ bt := in_t5 (List.mem_of_getElem? (i := 19) (by decide +kernel)) rfl
theorem m5_20 : Cond.fieldLink RX5 180 RX11 "FILED" "LCourtCalendar$Token;" ∈ bt := in_t5 (List.mem_of_getElem? (i := 20) (by decide +kernel)) rfl
theorem m5_21 : Cond.laysStatic RX11 "FILED" "LCourtCalendar$Token;" ∈ lw_tbl := in_l5 (List.mem_of_getElem? (i := 21) (by decide +kernel))
theorem m5_22 : Cond.fieldLink RX5 197 RX11 "LIMIT" "LCourtCalendar$Token;" ∈ bt := in_t5 (List.mem_of_getElem? (i := 22) (by decide +kernel)) rfl
theorem m5_23 : Cond.laysStatic RX11 "LIMIT" "LCourtCalendar$Token;" ∈ lw_tbl := in_l5 (List.mem_of_getElem? (i := 23) (by decide +kernel))
theorem m5_24 : Cond.fieldLink RX5 203 RX11 "CUSTODY" "LCourtCalendar$Token;" ∈ bt := in_t5 (List.mem_of_getElem? (i := 24) (by decide +kernel)) rfl
theorem m5_25 : Cond.laysStatic RX11 "CUSTODY" "LCourtCalendar$Token;" ∈ lw_tbl := in_l5 (List.mem_of_getElem? (i := 25) (by decide +kernel))
theorem m5_26 : Cond.methodLink RX5 210 yX5_takesNeeds ∈ bt := in_t5 (List.mem_of_getElem? (i := 26) (by decide +kernel)) rfl
theorem m5_28 : Cond.instanceMethod yX5_takesNeeds ∈ bt := in_t5 (List.mem_of_getElem? (i := 28) (by decide +kernel)) rfl
theorem m5_29 : Cond.code yX5_takesNeeds cX5_takesNeeds 3 (Option.some Jvm.ClassFile.FieldType.boolean) ∈ bt := in_t5 (List.mem_of_getElem? (i := 29) (by decide +kernel)) rfl
theorem m5_30 : Cond.fieldLink RX5 214 RX11 "NEEDS" "LCourtCalendar$Token;" ∈ bt := in_t5 (List.mem_of_getElem? (i := 30) (by decide +kernel)) rfl
theorem m5_31 : Cond.laysStatic RX11 "NEEDS" "LCourtCalendar$Token;" ∈ lw_tbl := in_l5 (List.mem_of_getElem? (i := 31) (by decide +kernel))
theorem m5_32 : Cond.methodLink RX5 217 yX5_seesToldName ∈ bt := in_t5 (List.mem_of_getElem? (i := 32) (by decide +kernel)) rfl
theorem m5_34 : Cond.instanceMethod yX5_seesToldName ∈ bt := in_t5 (List.mem_of_getElem? (i := 34) (by decide +kernel)) rfl
theorem m5_35 : Cond.code yX5_seesToldName cX5_seesToldName 2 (Option.some Jvm.ClassFile.FieldType.boolean) ∈ bt := in_t5 (List.mem_of_getElem? (i := 35) (by decide +kernel)) rfl
theorem m5_36 : Cond.methodLinkNest RX5 223 yX12_has RX12 ∈ nb := in_n5 (List.mem_of_getElem? (i := 36) (by decide +kernel)) rfl
theorem m5_37 : Cond.methodLink RX5 87 yX5_takesBar ∈ bt := in_t5 (List.mem_of_getElem? (i := 37) (by decide +kernel)) rfl
theorem m5_39 : Cond.instanceMethod yX5_takesBar ∈ bt := in_t5 (List.mem_of_getElem? (i := 39) (by decide +kernel)) rfl
theorem m5_40 : Cond.code yX5_takesBar cX5_takesBar 3 (Option.some Jvm.ClassFile.FieldType.boolean) ∈ bt := in_t5 (List.mem_of_getElem? (i := 40) (by decide +kernel)) rfl
theorem m5_41 : Cond.methodLink RX5 90 yX5_takesConflict ∈ bt := in_t5 (List.mem_of_getElem? (i := 41) (by decide +kernel)) rfl
theorem m5_43 : Cond.instanceMethod yX5_takesConflict ∈ bt := in_t5 (List.mem_of_getElem? (i := 43) (by decide +kernel)) rfl
theorem m5_44 : Cond.code yX5_takesConflict cX5_takesConflict 3 (Option.some Jvm.ClassFile.FieldType.boolean) ∈ bt := in_t5 (List.mem_of_getElem? (i := 44) (by decide +kernel)) rfl
theorem m5_45 : Cond.methodLink RX5 93 yX5_takesLengthen ∈ bt := in_t5 (List.mem_of_getElem? (i := 45) (by decide +kernel)) rfl
theorem m5_47 : Cond.instanceMethod yX5_takesLengthen ∈ bt := in_t5 (List.mem_of_getElem? (i := 47) (by decide +kernel)) rfl
theorem m5_48 : Cond.code yX5_takesLengthen cX5_takesLengthen 2 (Option.some Jvm.ClassFile.FieldType.boolean) ∈ bt := in_t5 (List.mem_of_getElem? (i := 48) (by decide +kernel)) rfl
theorem m5_49 : Cond.methodLink RX5 96 yX5_takesCap ∈ bt := in_t5 (List.mem_of_getElem? (i := 49) (by decide +kernel)) rfl
theorem m5_51 : Cond.instanceMethod yX5_takesCap ∈ bt := in_t5 (List.mem_of_getElem? (i := 51) (by decide +kernel)) rfl
theorem m5_52 : Cond.code yX5_takesCap cX5_takesCap 1 (Option.some Jvm.ClassFile.FieldType.boolean) ∈ bt := in_t5 (List.mem_of_getElem? (i := 52) (by decide +kernel)) rfl
theorem m5_53 : Cond.fieldLink RX5 52 RX11 "SEMICOLON" "LCourtCalendar$Token;" ∈ bt := in_t5 (List.mem_of_getElem? (i := 53) (by decide +kernel)) rfl
theorem m5_54 : Cond.methodLink RX12 91 yX5_exchange ∈ bt := in_t5 (List.mem_of_getElem? (i := 54) (by decide +kernel)) rfl
theorem m5_55 : Cond.instanceMethod yX5_exchange ∈ bt := in_t5 (List.mem_of_getElem? (i := 55) (by decide +kernel)) rfl
theorem m5_56 : Cond.selects RX5 yX5_exchange yX5_exchange ∈ bt := in_t5 (List.mem_of_getElem? (i := 56) (by decide +kernel)) rfl
theorem m5_57 : Cond.code yX5_exchange cX5_exchange 3 (Option.some (Jvm.ClassFile.FieldType.object RX9)) ∈ bt := in_t5 (List.mem_of_getElem? (i := 57) (by decide +kernel)) rfl
theorem m5_58 : Cond.methodLink RX12 95 yX10_begin ∈ bt := in_t5 (List.mem_of_getElem? (i := 58) (by decide +kernel)) rfl
theorem m5_59 : Cond.instanceMethod yX10_begin ∈ bt := in_t5 (List.mem_of_getElem? (i := 59) (by decide +kernel)) rfl
theorem m5_60 : Cond.selects RX10 yX10_begin yX10_begin ∈ bt := in_t5 (List.mem_of_getElem? (i := 60) (by decide +kernel)) rfl
theorem m5_61 : Cond.code yX10_begin cX10_begin 3 (Option.none : Option Jvm.ClassFile.FieldType) ∈ bt := in_t5 (List.mem_of_getElem? (i := 61) (by decide +kernel)) rfl
theorem m5_62 : Cond.methodLink RL 169 yL_setup ∈ bt := in_t5 (List.mem_of_getElem? (i := 62) (by decide +kernel)) rfl
theorem m5_63 : Cond.static yL_setup ∈ bt := in_t5 (List.mem_of_getElem? (i := 63) (by decide +kernel)) rfl
theorem m5_64 : Cond.code yL_setup cL_setup 3 (Option.some (Jvm.ClassFile.FieldType.object RJ0)) ∈ bt := in_t5 (List.mem_of_getElem? (i := 64) (by decide +kernel)) rfl
theorem m5_65 : Cond.classLink RL 65 RJ4 ∈ bt := in_t5 (List.mem_of_getElem? (i := 65) (by decide +kernel)) rfl
theorem m5_66 : Cond.instantiable RJ4 4 ∈ bt := in_t5 (List.mem_of_getElem? (i := 66) (by decide +kernel)) rfl
theorem m5_67 : Cond.methodLink RL 67 yJ4_init_da8c8 ∈ bt := in_t5 (List.mem_of_getElem? (i := 67) (by decide +kernel)) rfl
theorem m5_68 : Cond.instanceMethod yJ4_init_da8c8 ∈ bt := in_t5 (List.mem_of_getElem? (i := 68) (by decide +kernel)) rfl
theorem m5_69 : Cond.code yJ4_init_da8c8 cJ4_init_da8c8 1 (Option.none : Option Jvm.ClassFile.FieldType) ∈ bt := in_t5 (List.mem_of_getElem? (i := 69) (by decide +kernel)) rfl
theorem m5_70 : Cond.methodLink RJ4 1 yJ5_init_d00df ∈ bt := in_t5 (List.mem_of_getElem? (i := 70) (by decide +kernel)) rfl
theorem m5_71 : Cond.instanceMethod yJ5_init_d00df ∈ bt := in_t5 (List.mem_of_getElem? (i := 71) (by decide +kernel)) rfl
theorem m5_72 : Cond.code yJ5_init_d00df cJ5_init_d00df 2 (Option.none : Option Jvm.ClassFile.FieldType) ∈ bt := in_t5 (List.mem_of_getElem? (i := 72) (by decide +kernel)) rfl
theorem m5_73 : Cond.methodLink RJ5 3 ({ cls := "java/lang/Object", name := "<init>", desc := "()V" } : Jvm.MethodName) ∈ bt := in_t5 (List.mem_of_getElem? (i := 73) (by decide +kernel)) rfl
theorem m5_74 : Cond.fieldLink RJ5 18 RJ0 "COMPACT_STRINGS" "Z" ∈ bt := in_t5 (List.mem_of_getElem? (i := 74) (by decide +kernel)) rfl
theorem m5_75 : Cond.methodLink RJ5 26 yJ2_newBytesFor_77867 ∈ bt := in_t5 (List.mem_of_getElem? (i := 75) (by decide +kernel)) rfl
theorem m5_76 : Cond.static yJ2_newBytesFor_77867 ∈ bt := in_t5 (List.mem_of_getElem? (i := 76) (by decide +kernel)) rfl
theorem m5_77 : Cond.code yJ2_newBytesFor_77867 cJ2_newBytesFor_77867 1 (Option.some (Jvm.ClassFile.FieldType.array Jvm.ClassFile.FieldType.byte)) ∈ bt := in_t5 (List.mem_of_getElem? (i := 77) (by decide +kernel)) rfl
theorem m5_78 : Cond.methodLink RJ2 11 yJ2_newBytesLength_0f7a4 ∈ bt := in_t5 (List.mem_of_getElem? (i := 78) (by decide +kernel)) rfl
theorem m5_79 : Cond.static yJ2_newBytesLength_0f7a4 ∈ bt := in_t5 (List.mem_of_getElem? (i := 79) (by decide +kernel)) rfl
theorem m5_80 : Cond.code yJ2_newBytesLength_0f7a4 cJ2_newBytesLength_0f7a4 1 (Option.some Jvm.ClassFile.FieldType.int) ∈ bt := in_t5 (List.mem_of_getElem? (i := 80) (by decide +kernel)) rfl
theorem m5_81 : Cond.constant RJ2 20 (1073741823 : Int32) ∈ bt := in_t5 (List.mem_of_getElem? (i := 81) (by decide +kernel)) rfl
theorem m5_82 : Cond.fieldLink RJ5 15 RJ5 "value" "[B" ∈ bt := in_t5 (List.mem_of_getElem? (i := 82) (by decide +kernel)) rfl
theorem m5_83 : Cond.fieldLink RJ5 22 RJ5 "coder" "B" ∈ bt := in_t5 (List.mem_of_getElem? (i := 83) (by decide +kernel)) rfl
theorem m5_84 : Cond.fieldLink RJ0 1048 RJ5 "maybeLatin1" "Z" ∈ bt := in_t5 (List.mem_of_getElem? (i := 84) (by decide +kernel)) rfl
theorem m5_85 : Cond.fieldLink RJ5 79 RJ5 "count" "I" ∈ bt := in_t5 (List.mem_of_getElem? (i := 85) (by decide +kernel)) rfl
theorem m5_86 : Cond.lays RJ4 RJ5 "value" "[B" ∈ bt := in_t5 (List.mem_of_getElem? (i := 86) (by decide +kernel)) rfl
theorem m5_88 : Cond.lays RJ4 RJ5 "coder" "B" ∈ bt := in_t5 (List.mem_of_getElem? (i := 88) (by decide +kernel)) rfl
theorem m5_90 : Cond.lays RJ4 RJ5 "maybeLatin1" "Z" ∈ bt := in_t5 (List.mem_of_getElem? (i := 90) (by decide +kernel)) rfl
theorem m5_92 : Cond.lays RJ4 RJ5 "count" "I" ∈ bt := in_t5 (List.mem_of_getElem? (i := 92) (by decide +kernel)) rfl
theorem m5_94 : Cond.superclass RJ4 RJ5 ∈ bt := in_t5 (List.mem_of_getElem? (i := 94) (by decide +kernel)) rfl
theorem m5_95 : Cond.stringRef RL 68 "room " ∈ lw_tbl := in_l5 (List.mem_of_getElem? (i := 95) (by decide +kernel))
theorem m5_96 : Cond.methodLink RL 70 yJ4_append_15ec4 ∈ bt := in_t5 (List.mem_of_getElem? (i := 96) (by decide +kernel)) rfl
theorem m5_97 : Cond.instanceMethod yJ4_append_15ec4 ∈ bt := in_t5 (List.mem_of_getElem? (i := 97) (by decide +kernel)) rfl
theorem m5_98 : Cond.selects RJ4 yJ4_append_15ec4 yJ4_append_15ec4 ∈ bt := in_t5 (List.mem_of_getElem? (i := 98) (by decide +kernel)) rfl
theorem m5_99 : Cond.code yJ4_append_15ec4 cJ4_append_15ec4 2 (Option.some (Jvm.ClassFile.FieldType.object RJ4)) ∈ bt := in_t5 (List.mem_of_getElem? (i := 99) (by decide +kernel)) rfl
theorem m5_100 : Cond.methodLink RJ4 29 yJ5_append_cf1ce ∈ bt := in_t5 (List.mem_of_getElem? (i := 100) (by decide +kernel)) rfl
theorem m5_101 : Cond.instanceMethod yJ5_append_cf1ce ∈ bt := in_t5 (List.mem_of_getElem? (i := 101) (by decide +kernel)) rfl
theorem m5_102 : Cond.code yJ5_append_cf1ce cJ5_append_cf1ce 3 (Option.some (Jvm.ClassFile.FieldType.object RJ5)) ∈ bt := in_t5 (List.mem_of_getElem? (i := 102) (by decide +kernel)) rfl
theorem m5_103 : Cond.methodLink RJ5 204 yJ5_appendNull_278bc ∈ bt := in_t5 (List.mem_of_getElem? (i := 103) (by decide +kernel)) rfl
theorem m5_105 : Cond.instanceMethod yJ5_appendNull_278bc ∈ bt := in_t5 (List.mem_of_getElem? (i := 105) (by decide +kernel)) rfl
theorem m5_106 : Cond.code yJ5_appendNull_278bc cJ5_appendNull_278bc 3 (Option.some (Jvm.ClassFile.FieldType.object RJ5)) ∈ bt := in_t5 (List.mem_of_getElem? (i := 106) (by decide +kernel)) rfl
theorem m5_107 : Cond.methodLink RJ5 100 yJ5_ensureCapacityInternal_d00df ∈ bt := in_t5 (List.mem_of_getElem? (i := 107) (by decide +kernel)) rfl
theorem m5_109 : Cond.instanceMethod yJ5_ensureCapacityInternal_d00df ∈ bt := in_t5 (List.mem_of_getElem? (i := 109) (by decide +kernel)) rfl
theorem m5_110 : Cond.code yJ5_ensureCapacityInternal_d00df cJ5_ensureCapacityInternal_d00df 3 (Option.none : Option Jvm.ClassFile.FieldType) ∈ bt := in_t5 (List.mem_of_getElem? (i := 110) (by decide +kernel)) rfl
theorem m5_111 : Cond.methodLink RJ5 104 yJ5_newCapacity_0f7a4 ∈ bt := in_t5 (List.mem_of_getElem? (i := 111) (by decide +kernel)) rfl
theorem m5_113 : Cond.instanceMethod yJ5_newCapacity_0f7a4 ∈ bt := in_t5 (List.mem_of_getElem? (i := 113) (by decide +kernel)) rfl
theorem m5_114 : Cond.code yJ5_newCapacity_0f7a4 cJ5_newCapacity_0f7a4 6 (Option.some Jvm.ClassFile.FieldType.int) ∈ bt := in_t5 (List.mem_of_getElem? (i := 114) (by decide +kernel)) rfl
theorem m5_115 : Cond.methodLink RJ5 114 yJ8_newLength_cabcc ∈ bt := in_t5 (List.mem_of_getElem? (i := 115) (by decide +kernel)) rfl
theorem m5_116 : Cond.static yJ8_newLength_cabcc ∈ bt := in_t5 (List.mem_of_getElem? (i := 116) (by decide +kernel)) rfl
theorem m5_117 : Cond.code yJ8_newLength_cabcc cJ8_newLength_cabcc 4 (Option.some Jvm.ClassFile.FieldType.int) ∈ bt := in_t5 (List.mem_of_getElem? (i := 117) (by decide +kernel)) rfl
theorem m5_118 : Cond.methodLink RJ8 194 yJ9_max_7cf53 ∈ bt := in_t5 (List.mem_of_getElem? (i := 118) (by decide +kernel)) rfl
theorem m5_119 : Cond.constant RJ8 200 (2147483639 : Int32) ∈ bt := in_t5 (List.mem_of_getElem? (i := 119) (by decide +kernel)) rfl
theorem m5_120 : Cond.methodLink RJ8 201 yJ8_hugeLength_7cf53 ∈ bt := in_t5 (List.mem_of_getElem? (i := 120) (by decide +kernel)) rfl
theorem m5_121 : Cond.static yJ8_hugeLength_7cf53 ∈ bt := in_t5 (List.mem_of_getElem? (i := 121) (by decide +kernel)) rfl
theorem m5_122 : Cond.code yJ8_hugeLength_7cf53 cJ8_hugeLength_7cf53 3 (Option.some Jvm.ClassFile.FieldType.int) ∈ bt := in_t5 (List.mem_of_getElem? (i := 122) (by decide +kernel)) rfl
theorem m5_123 : Cond.constant RJ5 39 (2147483647 : Int32) ∈ bt := in_t5 (List.mem_of_getElem? (i := 123) (by decide +kernel)) rfl
theorem m5_124 : Cond.methodLink RJ5 108 yJ7_copyOf_9075b ∈ bt := in_t5 (List.mem_of_getElem? (i := 124) (by decide +kernel)) rfl
theorem m5_125 : Cond.static yJ7_copyOf_9075b ∈ bt := in_t5 (List.mem_of_getElem? (i := 125) (by decide +kernel)) rfl
theorem m5_126 : Cond.code yJ7_copyOf_9075b cJ7_copyOf_9075b 3 (Option.some (Jvm.ClassFile.FieldType.array Jvm.ClassFile.FieldType.byte)) ∈ bt := in_t5 (List.mem_of_getElem? (i := 126) (by decide +kernel)) rfl
theorem m5_127 : Cond.methodLink RJ7 310 ({ cls := "[B", name := "clone", desc := "()Ljava/lang/Object;" } : Jvm.MethodName) ∈ bt := in_t5 (List.mem_of_getElem? (i := 127) (by decide +kernel)) rfl
theorem m5_128 : Cond.sameMethod "[B" "java/lang/Object" "clone" "()Ljava/lang/Object;" ∈ bt := in_t5 (List.mem_of_getElem? (i := 128) (by decide +kernel)) rfl
theorem m5_129 : Cond.native ({ cls := "java/lang/Object", name := "clone", desc := "()Ljava/lang/Object;" } : Jvm.MethodName) ∈ lw_tbl := in_l5 (List.mem_of_getElem? (i := 129) (by decide +kernel))
theorem m5_130 : Cond.instanceMethod ({ cls := "java/lang/Object", name := "clone", desc := "()Ljava/lang/Object;" } : Jvm.MethodName) ∈ bt := in_t5 (List.mem_of_getElem? (i := 130) (by decide +kernel)) rfl
theorem m5_131 : Cond.selects "[B" ({ cls := "[B", name := "clone", desc := "()Ljava/lang/Object;" } : Jvm.MethodName) ({ cls := "java/lang/Object", name := "clone", desc := "()Ljava/lang/Object;" } : Jvm.MethodName) ∈ bt := in_t5 (List.mem_of_getElem? (i := 131) (by decide +kernel)) rfl
theorem m5_132 : Cond.castable "[B" RJx8e188 ∈ nb := in_n5 (List.mem_of_getElem? (i := 132) (by decide +kernel)) rfl
theorem m5_133 : Cond.classLink RJ7 311 "[B" ∈ bt := in_t5 (List.mem_of_getElem? (i := 133) (by decide +kernel)) rfl
theorem m5_134 : Cond.methodLink RJ7 304 yJ9_min_7cf53 ∈ bt := in_t5 (List.mem_of_getElem? (i := 134) (by decide +kernel)) rfl
theorem m5_135 : Cond.methodLink RJ7 150 ({ cls := RJ10, name := "arraycopy", desc := "(Ljava/lang/Object;ILjava/lang/Object;II)V" } : Jvm.MethodName) ∈ bt := in_t5 (List.mem_of_getElem? (i := 135) (by decide +kernel)) rfl
theorem m5_136 : Cond.methodLink RJ5 83 yJ5_isLatin1_aae02 ∈ bt := in_t5 (List.mem_of_getElem? (i := 136) (by decide +kernel)) rfl
theorem m5_137 : Cond.instanceMethod yJ5_isLatin1_aae02 ∈ bt := in_t5 (List.mem_of_getElem? (i := 137) (by decide +kernel)) rfl
theorem m5_138 : Cond.sameMethod RJ5 RJ5 "isLatin1" "()Z" ∈ bt := in_t5 (List.mem_of_getElem? (i := 138) (by decide +kernel)) rfl
theorem m5_139 : Cond.selects RJ4 yJ5_isLatin1_aae02 yJ5_isLatin1_aae02 ∈ bt := in_t5 (List.mem_of_getElem? (i := 139) (by decide +kernel)) rfl
theorem m5_140 : Cond.code yJ5_isLatin1_aae02 cJ5_isLatin1_aae02 1 (Option.some Jvm.ClassFile.FieldType.boolean) ∈ bt := in_t5 (List.mem_of_getElem? (i := 140) (by decide +kernel)) rfl
theorem m5_141 : Cond.methodLink RJ5 226 yJ2_putCharsAt_cd4e5 ∈ bt := in_t5 (List.mem_of_getElem? (i := 141) (by decide +kernel)) rfl
theorem m5_142 : Cond.static yJ2_putCharsAt_cd4e5 ∈ bt := in_t5 (List.mem_of_getElem? (i := 142) (by decide +kernel)) rfl
theorem m5_143 : Cond.code yJ2_putCharsAt_cd4e5 cJ2_putCharsAt_cd4e5 7 (Option.some Jvm.ClassFile.FieldType.int) ∈ bt := in_t5 (List.mem_of_getElem? (i := 143) (by decide +kernel)) rfl
theorem m5_144 : Cond.methodLink RJ2 96 yJ2_checkBoundsBeginEnd_d044e ∈ bt := in_t5 (List.mem_of_getElem? (i := 144) (by decide +kernel)) rfl
theorem m5_145 : Cond.static yJ2_checkBoundsBeginEnd_d044e ∈ bt := in_t5 (List.mem_of_getElem? (i := 145) (by decide +kernel)) rfl
theorem m5_146 : Cond.code yJ2_checkBoundsBeginEnd_d044e cJ2_checkBoundsBeginEnd_d044e 3 (Option.none : Option Jvm.ClassFile.FieldType) ∈ bt := in_t5 (List.mem_of_getElem? (i := 146) (by decide +kernel)) rfl
theorem m5_147 : Cond.methodLink RJ2 241 yJ0_checkBoundsBeginEnd_23922 ∈ bt := in_t5 (List.mem_of_getElem? (i := 147) (by decide +kernel)) rfl
theorem m5_148 : Cond.static yJ0_checkBoundsBeginEnd_23922 ∈ bt := in_t5 (List.mem_of_getElem? (i := 148) (by decide +kernel)) rfl
theorem m5_149 : Cond.code yJ0_checkBoundsBeginEnd_23922 cJ0_checkBoundsBeginEnd_23922 3 (Option.none : Option Jvm.ClassFile.FieldType) ∈ bt := in_t5 (List.mem_of_getElem? (i := 149) (by decide +kernel)) rfl
theorem m5_150 : Cond.methodLink RJ0 1062 yJ3_checkFromToIndex_8c36e ∈ bt := in_t5 (List.mem_of_getElem? (i := 150) (by decide +kernel)) rfl
theorem m5_151 : Cond.static yJ3_checkFromToIndex_8c36e ∈ bt := in_t5 (List.mem_of_getElem? (i := 151) (by decide +kernel)) rfl
theorem m5_152 : Cond.code yJ3_checkFromToIndex_8c36e cJ3_checkFromToIndex_8c36e 4 (Option.some Jvm.ClassFile.FieldType.int) ∈ bt := in_t5 (List.mem_of_getElem? (i := 152) (by decide +kernel)) rfl
theorem m5_153 : Cond.methodLink RJ2 111 yJ2_putChar_b72d1 ∈ bt := in_t5 (List.mem_of_getElem? (i := 153) (by decide +kernel)) rfl
theorem m5_154 : Cond.static yJ2_putChar_b72d1 ∈ bt := in_t5 (List.mem_of_getElem? (i := 154) (by decide +kernel)) rfl
theorem m5_155 : Cond.code yJ2_putChar_b72d1 cJ2_putChar_b72d1 3 (Option.none : Option Jvm.ClassFile.FieldType) ∈ bt := in_t5 (List.mem_of_getElem? (i := 155) (by decide +kernel)) rfl
theorem m5_156 : Cond.methodLink RJ5 32 yJ0_length_8abf5 ∈ bt := in_t5 (List.mem_of_getElem? (i := 156) (by decide +kernel)) rfl
theorem m5_157 : Cond.methodLink RJ5 208 yJ5_putStringAt_47b60 ∈ bt := in_t5 (List.mem_of_getElem? (i := 157) (by decide +kernel)) rfl
theorem m5_159 : Cond.instanceMethod yJ5_putStringAt_47b60 ∈ bt := in_t5 (List.mem_of_getElem? (i := 159) (by decide +kernel)) rfl
theorem m5_160 : Cond.code yJ5_putStringAt_47b60 cJ5_putStringAt_47b60 3 (Option.none : Option Jvm.ClassFile.FieldType) ∈ bt := in_t5 (List.mem_of_getElem? (i := 160) (by decide +kernel)) rfl
theorem m5_161 : Cond.methodLink RJ5 397 yJ5_inflateIfNeededFor_a7421 ∈ bt := in_t5 (List.mem_of_getElem? (i := 161) (by decide +kernel)) rfl
theorem m5_163 : Cond.instanceMethod yJ5_inflateIfNeededFor_a7421 ∈ bt := in_t5 (List.mem_of_getElem? (i := 163) (by decide +kernel)) rfl
theorem m5_164 : Cond.code yJ5_inflateIfNeededFor_a7421 cJ5_inflateIfNeededFor_a7421 2 (Option.none : Option Jvm.ClassFile.FieldType) ∈ bt := in_t5 (List.mem_of_getElem? (i := 164) (by decide +kernel)) rfl
theorem m5_165 : Cond.methodLink RJ5 40 yJ0_coder_7d493 ∈ bt := in_t5 (List.mem_of_getElem? (i := 165) (by decide +kernel)) rfl
theorem m5_166 : Cond.methodLink RJ5 195 yJ5_inflate_da8c8 ∈ bt := in_t5 (List.mem_of_getElem? (i := 166) (by decide +kernel)) rfl
theorem m5_168 : Cond.instanceMethod yJ5_inflate_da8c8 ∈ bt := in_t5 (List.mem_of_getElem? (i := 168) (by decide +kernel)) rfl
theorem m5_169 : Cond.code yJ5_inflate_da8c8 cJ5_inflate_da8c8 2 (Option.none : Option Jvm.ClassFile.FieldType) ∈ bt := in_t5 (List.mem_of_getElem? (i := 169) (by decide +kernel)) rfl
theorem m5_170 : Cond.methodLink RJ5 125 yJ1_inflate_0e8fd ∈ bt := in_t5 (List.mem_of_getElem? (i := 170) (by decide +kernel)) rfl
theorem m5_171 : Cond.static yJ1_inflate_0e8fd ∈ bt := in_t5 (List.mem_of_getElem? (i := 171) (by decide +kernel)) rfl
theorem m5_172 : Cond.code yJ1_inflate_0e8fd cJ1_inflate_0e8fd 5 (Option.none : Option Jvm.ClassFile.FieldType) ∈ bt := in_t5 (List.mem_of_getElem? (i := 172) (by decide +kernel)) rfl
theorem m5_173 : Cond.methodLink RJ1 240 yJ2_inflate_0e8fd ∈ bt := in_t5 (List.mem_of_getElem? (i := 173) (by decide +kernel)) rfl
theorem m5_174 : Cond.static yJ2_inflate_0e8fd ∈ bt := in_t5 (List.mem_of_getElem? (i := 174) (by decide +kernel)) rfl
theorem m5_175 : Cond.code yJ2_inflate_0e8fd cJ2_inflate_0e8fd 6 (Option.none : Option Jvm.ClassFile.FieldType) ∈ bt := in_t5 (List.mem_of_getElem? (i := 175) (by decide +kernel)) rfl
theorem m5_176 : Cond.methodLink RJ2 173 yJ2_checkBoundsOffCount_d044e ∈ bt := in_t5 (List.mem_of_getElem? (i := 176) (by decide +kernel)) rfl
theorem m5_177 : Cond.static yJ2_checkBoundsOffCount_d044e ∈ bt := in_t5 (List.mem_of_getElem? (i := 177) (by decide +kernel)) rfl
theorem m5_178 : Cond.code yJ2_checkBoundsOffCount_d044e cJ2_checkBoundsOffCount_d044e 3 (Option.none : Option Jvm.ClassFile.FieldType) ∈ bt := in_t5 (List.mem_of_getElem? (i := 178) (by decide +kernel)) rfl
theorem m5_179 : Cond.methodLink RJ2 419 yJ0_checkBoundsOffCount_cabcc ∈ bt := in_t5 (List.mem_of_getElem? (i := 179) (by decide +kernel)) rfl
theorem m5_180 : Cond.static yJ0_checkBoundsOffCount_cabcc ∈ bt := in_t5 (List.mem_of_getElem? (i := 180) (by decide +kernel)) rfl
theorem m5_181 : Cond.code yJ0_checkBoundsOffCount_cabcc cJ0_checkBoundsOffCount_cabcc 3 (Option.some Jvm.ClassFile.FieldType.int) ∈ bt := in_t5 (List.mem_of_getElem? (i := 181) (by decide +kernel)) rfl
theorem m5_182 : Cond.methodLink RJ0 1065 yJ3_checkFromIndexSize_8c36e ∈ bt := in_t5 (List.mem_of_getElem? (i := 182) (by decide +kernel)) rfl
theorem m5_183 : Cond.static yJ3_checkFromIndexSize_8c36e ∈ bt := in_t5 (List.mem_of_getElem? (i := 183) (by decide +kernel)) rfl
theorem m5_184 : Cond.code yJ3_checkFromIndexSize_8c36e cJ3_checkFromIndexSize_8c36e 4 (Option.some Jvm.ClassFile.FieldType.int) ∈ bt := in_t5 (List.mem_of_getElem? (i := 184) (by decide +kernel)) rfl
theorem m5_185 : Cond.methodLink RJ5 399 yJ0_getBytes_840e7 ∈ bt := in_t5 (List.mem_of_getElem? (i := 185) (by decide +kernel)) rfl
theorem m5_186 : Cond.instanceMethod yJ0_getBytes_840e7 ∈ bt := in_t5 (List.mem_of_getElem? (i := 186) (by decide +kernel)) rfl
theorem m5_187 : Cond.selects RJ0 yJ0_getBytes_840e7 yJ0_getBytes_840e7 ∈ bt := in_t5 (List.mem_of_getElem? (i := 187) (by decide +kernel)) rfl
theorem m5_188 : Cond.code yJ0_getBytes_840e7 cJ0_getBytes_840e7 4 (Option.none : Option Jvm.ClassFile.FieldType) ∈ bt := in_t5 (List.mem_of_getElem? (i := 188) (by decide +kernel)) rfl
theorem m5_189 : Cond.methodLink RJ0 212 ({ cls := RJ10, name := "arraycopy", desc := "(Ljava/lang/Object;ILjava/lang/Object;II)V" } : Jvm.MethodName) ∈ bt := in_t5 (List.mem_of_getElem? (i := 189) (by decide +kernel)) rfl
theorem m5_190 : Cond.methodLink RJ0 106 yJ1_inflate_0e8fd ∈ bt := in_t5 (List.mem_of_getElem? (i := 190) (by decide +kernel)) rfl
theorem m5_191 : Cond.methodLink RL 74 yJ4_append_cf468 ∈ bt := in_t5 (List.mem_of_getElem? (i := 191) (by decide +kernel)) rfl
theorem m5_192 : Cond.instanceMethod yJ4_append_cf468 ∈ bt := in_t5 (List.mem_of_getElem? (i := 192) (by decide +kernel)) rfl
theorem m5_193 : Cond.selects RJ4 yJ4_append_cf468 yJ4_append_cf468 ∈ bt := in_t5 (List.mem_of_getElem? (i := 193) (by decide +kernel)) rfl
theorem m5_194 : Cond.code yJ4_append_cf468 cJ4_append_cf468 2 (Option.some (Jvm.ClassFile.FieldType.object RJ4)) ∈ bt := in_t5 (List.mem_of_getElem? (i := 194) (by decide +kernel)) rfl
theorem m5_195 : Cond.methodLink RJ4 50 yJ5_append_3fe6f ∈ bt := in_t5 (List.mem_of_getElem? (i := 195) (by decide +kernel)) rfl
theorem m5_196 : Cond.instanceMethod yJ5_append_3fe6f ∈ bt := in_t5 (List.mem_of_getElem? (i := 196) (by decide +kernel)) rfl
theorem m5_197 : Cond.code yJ5_append_3fe6f cJ5_append_3fe6f 2 (Option.some (Jvm.ClassFile.FieldType.object RJ5)) ∈ bt := in_t5 (List.mem_of_getElem? (i := 197) (by decide +kernel)) rfl
theorem m5_198 : Cond.methodLink RJ5 191 yJ1_canEncode_fc78d ∈ bt := in_t5 (List.mem_of_getElem? (i := 198) (by decide +kernel)) rfl
theorem m5_199 : Cond.static yJ1_canEncode_fc78d ∈ bt := in_t5 (List.mem_of_getElem? (i := 199) (by decide +kernel)) rfl
theorem m5_200 : Cond.code yJ1_canEncode_fc78d cJ1_canEncode_fc78d 1 (Option.some Jvm.ClassFile.FieldType.boolean) ∈ bt := in_t5 (List.mem_of_getElem? (i := 200) (by decide +kernel)) rfl
theorem m5_201 : Cond.methodLink RJ5 197 yJ2_putCharSB_b72d1 ∈ bt := in_t5 (List.mem_of_getElem? (i := 201) (by decide +kernel)) rfl
theorem m5_202 : Cond.static yJ2_putCharSB_b72d1 ∈ bt := in_t5 (List.mem_of_getElem? (i := 202) (by decide +kernel)) rfl
theorem m5_203 : Cond.code yJ2_putCharSB_b72d1 cJ2_putCharSB_b72d1 3 (Option.none : Option Jvm.ClassFile.FieldType) ∈ bt := in_t5 (List.mem_of_getElem? (i := 203) (by decide +kernel)) rfl
theorem m5_204 : Cond.stringRef RL 77 " slots " ∈ lw_tbl := in_l5 (List.mem_of_getElem? (i := 204) (by decide +kernel))
theorem m5_205 : Cond.methodLink RL 83 yJ4_append_bf812 ∈ bt := in_t5 (List.mem_of_getElem? (i := 205) (by decide +kernel)) rfl
theorem m5_206 : Cond.instanceMethod yJ4_append_bf812 ∈ bt := in_t5 (List.mem_of_getElem? (i := 206) (by decide +kernel)) rfl
theorem m5_207 : Cond.selects RJ4 yJ4_append_bf812 yJ4_append_bf812 ∈ bt := in_t5 (List.mem_of_getElem? (i := 207) (by decide +kernel)) rfl
theorem m5_208 : Cond.code yJ4_append_bf812 cJ4_append_bf812 2 (Option.some (Jvm.ClassFile.FieldType.object RJ4)) ∈ bt := in_t5 (List.mem_of_getElem? (i := 208) (by decide +kernel)) rfl
theorem m5_209 : Cond.methodLink RJ4 53 yJ5_append_c97b9 ∈ bt := in_t5 (List.mem_of_getElem? (i := 209) (by decide +kernel)) rfl
theorem m5_210 : Cond.instanceMethod yJ5_append_c97b9 ∈ bt := in_t5 (List.mem_of_getElem? (i := 210) (by decide +kernel)) rfl
theorem m5_211 : Cond.code yJ5_append_c97b9 cJ5_append_c97b9 4 (Option.some (Jvm.ClassFile.FieldType.object RJ5)) ∈ bt := in_t5 (List.mem_of_getElem? (i := 211) (by decide +kernel)) rfl
theorem m5_212 : Cond.methodLink RJ5 245 yJ6_stringSize_0f7a4 ∈ bt := in_t5 (List.mem_of_getElem? (i := 212) (by decide +kernel)) rfl
theorem m5_213 : Cond.static yJ6_stringSize_0f7a4 ∈ bt := in_t5 (List.mem_of_getElem? (i := 213) (by decide +kernel)) rfl
theorem m5_214 : Cond.code yJ6_stringSize_0f7a4 cJ6_stringSize_0f7a4 4 (Option.some Jvm.ClassFile.FieldType.int) ∈ bt := in_t5 (List.mem_of_getElem? (i := 214) (by decide +kernel)) rfl
theorem m5_215 : Cond.methodLink RJ5 248 yJ6_getChars_ba4f3 ∈ bt := in_t5 (List.mem_of_getElem? (i := 215) (by decide +kernel)) rfl
theorem m5_216 : Cond.static yJ6_getChars_ba4f3 ∈ bt := in_t5 (List.mem_of_getElem? (i := 216) (by decide +kernel)) rfl
theorem m5_217 : Cond.code yJ6_getChars_ba4f3 cJ6_getChars_ba4f3 7 (Option.some Jvm.ClassFile.FieldType.int) ∈ bt := in_t5 (List.mem_of_getElem? (i := 217) (by decide +kernel)) rfl
theorem m5_218 : Cond.fieldLink RJ6 83 RJ6 "DigitOnes" "[B" ∈ bt := in_t5 (List.mem_of_getElem? (i := 218) (by decide +kernel)) rfl
theorem m5_219 : Cond.laysStatic RJ6 "DigitOnes" "[B" ∈ lw_tbl := in_l5 (List.mem_of_getElem? (i := 219) (by decide +kernel))
theorem m5_220 : Cond.fieldLink RJ6 87 RJ6 "DigitTens" "[B" ∈ bt := in_t5 (List.mem_of_getElem? (i := 220) (by decide +kernel)) rfl
theorem m5_221 : Cond.laysStatic RJ6 "DigitTens" "[B" ∈ lw_tbl := in_l5 (List.mem_of_getElem? (i := 221) (by decide +kernel))
theorem m5_222 : Cond.methodLink RJ5 251 yJ2_getChars_46870 ∈ bt := in_t5 (List.mem_of_getElem? (i := 222) (by decide +kernel)) rfl
theorem m5_223 : Cond.static yJ2_getChars_46870 ∈ bt := in_t5 (List.mem_of_getElem? (i := 223) (by decide +kernel)) rfl
theorem m5_224 : Cond.code yJ2_getChars_46870 cJ2_getChars_46870 5 (Option.some Jvm.ClassFile.FieldType.int) ∈ bt := in_t5 (List.mem_of_getElem? (i := 224) (by decide +kernel)) rfl
theorem m5_225 : Cond.methodLink RJ2 393 yJ2_getChars_ba4f3 ∈ bt := in_t5 (List.mem_of_getElem? (i := 225) (by decide +kernel)) rfl
theorem m5_226 : Cond.static yJ2_getChars_ba4f3 ∈ bt := in_t5 (List.mem_of_getElem? (i := 226) (by decide +kernel)) rfl
theorem m5_227 : Cond.code yJ2_getChars_ba4f3 cJ2_getChars_ba4f3 7 (Option.some Jvm.ClassFile.FieldType.int) ∈ bt := in_t5 (List.mem_of_getElem? (i := 227) (by decide +kernel)) rfl
theorem m5_228 : Cond.fieldLink RJ2 403 RJ6 "DigitOnes" "[B" ∈ bt := in_t5 (List.mem_of_getElem? (i := 228) (by decide +kernel)) rfl
theorem m5_229 : Cond.fieldLink RJ2 407 RJ6 "DigitTens" "[B" ∈ bt := in_t5 (List.mem_of_getElem? (i := 229) (by decide +kernel)) rfl
theorem m5_230 : Cond.stringRef RL 86 "officer " ∈ lw_tbl := in_l5 (List.mem_of_getElem? (i := 230) (by decide +kernel))
theorem m5_231 : Cond.stringRef RL 88 " off " ∈ lw_tbl := in_l5 (List.mem_of_getElem? (i := 231) (by decide +kernel))
theorem m5_232 : Cond.stringRef RL 90 "witness " ∈ lw_tbl := in_l5 (List.mem_of_getElem? (i := 232) (by decide +kernel))
theorem m5_233 : Cond.stringRef RL 92 " days " ∈ lw_tbl := in_l5 (List.mem_of_getElem? (i := 233) (by decide +kernel))
theorem m5_234 : Cond.stringRef RL 94 "case " ∈ lw_tbl := in_l5 (List.mem_of_getElem? (i := 234) (by decide +kernel))
theorem m5_235 : Cond.stringRef RL 96 " filed " ∈ lw_tbl := in_l5 (List.mem_of_getElem? (i := 235) (by decide +kernel))
theorem m5_236 : Cond.stringRef RL 98 " limit " ∈ lw_tbl := in_l5 (List.mem_of_getElem? (i := 236) (by decide +kernel))
theorem m5_237 : Cond.stringRef RL 100 " custody" ∈ lw_tbl := in_l5 (List.mem_of_getElem? (i := 237) (by decide +kernel))
theorem m5_238 : Cond.stringRef RL 102 "" ∈ lw_tbl := in_l5 (List.mem_of_getElem? (i := 238) (by decide +kernel))
theorem m5_239 : Cond.stringRef RL 104 " needs w;" ∈ lw_tbl := in_l5 (List.mem_of_getElem? (i := 239) (by decide +kernel))
theorem m6_0 : Cond.stringRef RL 106 " needs x;" ∈ lw_tbl := in_l6 (List.mem_of_getElem? (i := 0) (by decide +kernel))
theorem m6_1 : Cond.stringRef RL 108 ";" ∈ lw_tbl := in_l6 (List.mem_of_getElem? (i := 1) (by decide +kernel))
theorem m6_2 : Cond.stringRef RL 110 "conflict a b;cap " ∈ lw_tbl := in_l6 (List.mem_of_getElem? (i := 2) (by decide +kernel))
theorem m6_3 : Cond.methodLink RL 112 yJ4_toString_0e30d ∈ bt := in_t6 (List.mem_of_getElem? (i := 3) (by decide +kernel)) rfl
theorem m6_4 : Cond.instanceMethod yJ4_toString_0e30d ∈ bt := in_t6 (List.mem_of_getElem? (i := 4) (by decide +kernel)) rfl
theorem m6_5 : Cond.selects RJ4 yJ4_toString_0e30d yJ4_toString_0e30d ∈ bt := in_t6 (List.mem_of_getElem? (i := 5) (by decide +kernel)) rfl
theorem m6_6 : Cond.code yJ4_toString_0e30d cJ4_toString_0e30d 1 (Option.some (Jvm.ClassFile.FieldType.object RJ0)) ∈ bt := in_t6 (List.mem_of_getElem? (i := 6) (by decide +kernel)) rfl
theorem m6_7 : Cond.classLink RJ4 18 RJ0 ∈ bt := in_t6 (List.mem_of_getElem? (i := 7) (by decide +kernel)) rfl
theorem m6_8 : Cond.instantiable RJ0 4 ∈ bt := in_t6 (List.mem_of_getElem? (i := 8) (by decide +kernel)) rfl
theorem m6_9 : Cond.methodLink RJ4 137 yJ0_init_81219 ∈ bt := in_t6 (List.mem_of_getElem? (i := 9) (by decide +kernel)) rfl
theorem m6_10 : Cond.instanceMethod yJ0_init_81219 ∈ bt := in_t6 (List.mem_of_getElem? (i := 10) (by decide +kernel)) rfl
theorem m6_11 : Cond.code yJ0_init_81219 cJ0_init_81219 2 (Option.none : Option Jvm.ClassFile.FieldType) ∈ bt := in_t6 (List.mem_of_getElem? (i := 11) (by decide +kernel)) rfl
theorem m6_12 : Cond.methodLink RJ0 489 yJ0_init_db425 ∈ bt := in_t6 (List.mem_of_getElem? (i := 12) (by decide +kernel)) rfl
theorem m6_13 : Cond.instanceMethod yJ0_init_db425 ∈ bt := in_t6 (List.mem_of_getElem? (i := 13) (by decide +kernel)) rfl
theorem m6_14 : Cond.code yJ0_init_db425 cJ0_init_db425 5 (Option.none : Option Jvm.ClassFile.FieldType) ∈ bt := in_t6 (List.mem_of_getElem? (i := 14) (by decide +kernel)) rfl
theorem m6_15 : Cond.methodLink RJ0 1 ({ cls := "java/lang/Object", name := "<init>", desc := "()V" } : Jvm.MethodName) ∈ bt := in_t6 (List.mem_of_getElem? (i := 15) (by decide +kernel)) rfl
theorem m6_16 : Cond.methodLink RJ0 552 yJ5_getValue_6d5f1 ∈ bt := in_t6 (List.mem_of_getElem? (i := 16) (by decide +kernel)) rfl
theorem m6_17 : Cond.instanceMethod yJ5_getValue_6d5f1 ∈ bt := in_t6 (List.mem_of_getElem? (i := 17) (by decide +kernel)) rfl
theorem m6_18 : Cond.sameMethod RJ5 RJ5 "getValue" "()[B" ∈ bt := in_t6 (List.mem_of_getElem? (i := 18) (by decide +kernel)) rfl
theorem m6_19 : Cond.selects RJ4 yJ5_getValue_6d5f1 yJ5_getValue_6d5f1 ∈ bt := in_t6 (List.mem_of_getElem? (i := 19) (by decide +kernel)) rfl
theorem m6_20 : Cond.code yJ5_getValue_6d5f1 cJ5_getValue_6d5f1 1 (Option.some (Jvm.ClassFile.FieldType.array Jvm.ClassFile.FieldType.byte)) ∈ bt := in_t6 (List.mem_of_getElem? (i := 20) (by decide +kernel)) rfl
theorem m6_21 : Cond.methodLink RJ0 549 yJ5_length_8abf5 ∈ bt := in_t6 (List.mem_of_getElem? (i := 21) (by decide +kernel)) rfl
theorem m6_22 : Cond.instanceMethod yJ5_length_8abf5 ∈ bt := in_t6 (List.mem_of_getElem? (i := 22) (by decide +kernel)) rfl
theorem m6_23 : Cond.sameMethod RJ5 RJ5 "length" "()I" ∈ bt := in_t6 (List.mem_of_getElem? (i := 23) (by decide +kernel)) rfl
theorem m6_24 : Cond.selects RJ4 yJ5_length_8abf5 yJ4_length_8abf5 ∈ bt := in_t6 (List.mem_of_getElem? (i := 24) (by decide +kernel)) rfl
theorem m6_25 : Cond.instanceMethod yJ4_length_8abf5 ∈ bt := in_t6 (List.mem_of_getElem? (i := 25) (by decide +kernel)) rfl
theorem m6_26 : Cond.code yJ4_length_8abf5 cJ4_length_8abf5 1 (Option.some Jvm.ClassFile.FieldType.int) ∈ bt := in_t6 (List.mem_of_getElem? (i := 26) (by decide +kernel)) rfl
theorem m6_27 : Cond.methodLink RJ4 343 yJ5_length_8abf5 ∈ bt := in_t6 (List.mem_of_getElem? (i := 27) (by decide +kernel)) rfl
theorem m6_28 : Cond.code yJ5_length_8abf5 cJ5_length_8abf5 1 (Option.some Jvm.ClassFile.FieldType.int) ∈ bt := in_t6 (List.mem_of_getElem? (i := 28) (by decide +kernel)) rfl
theorem m6_29 : Cond.methodLink RJ0 1047 yJ5_isLatin1_aae02 ∈ bt := in_t6 (List.mem_of_getElem? (i := 29) (by decide +kernel)) rfl
theorem m6_30 : Cond.methodLink RJ0 54 yJ7_copyOfRange_39247 ∈ bt := in_t6 (List.mem_of_getElem? (i := 30) (by decide +kernel)) rfl
theorem m6_31 : Cond.static yJ7_copyOfRange_39247 ∈ bt := in_t6 (List.mem_of_getElem? (i := 31) (by decide +kernel)) rfl
theorem m6_32 : Cond.code yJ7_copyOfRange_39247 cJ7_copyOfRange_39247 3 (Option.some (Jvm.ClassFile.FieldType.array Jvm.ClassFile.FieldType.byte)) ∈ bt := in_t6 (List.mem_of_getElem? (i := 32) (by decide +kernel)) rfl
theorem m6_33 : Cond.methodLink RJ7 339 yJ7_copyOfRangeByte_39247 ∈ bt := in_t6 (List.mem_of_getElem? (i := 33) (by decide +kernel)) rfl
theorem m6_34 : Cond.static yJ7_copyOfRangeByte_39247 ∈ bt := in_t6 (List.mem_of_getElem? (i := 34) (by decide +kernel)) rfl
theorem m6_35 : Cond.code yJ7_copyOfRangeByte_39247 cJ7_copyOfRangeByte_39247 5 (Option.some (Jvm.ClassFile.FieldType.array Jvm.ClassFile.FieldType.byte)) ∈ bt := in_t6 (List.mem_of_getElem? (i := 35) (by decide +kernel)) rfl
theorem m6_36 : Cond.methodLink RJ7 343 yJ7_checkLength_df160 ∈ bt := in_t6 (List.mem_of_getElem? (i := 36) (by decide +kernel)) rfl
theorem m6_37 : Cond.static yJ7_checkLength_df160 ∈ bt := in_t6 (List.mem_of_getElem? (i := 37) (by decide +kernel)) rfl
theorem m6_38 : Cond.code yJ7_checkLength_df160 cJ7_checkLength_df160 2 (Option.none : Option Jvm.ClassFile.FieldType) ∈ bt := in_t6 (List.mem_of_getElem? (i := 38) (by decide +kernel)) rfl
theorem m6_39 : Cond.classLink RJ7 43 "java/lang/IllegalArgumentException" ∈ bt := in_t6 (List.mem_of_getElem? (i := 39) (by decide +kernel)) rfl
theorem m6_40 : Cond.classLink RJ7 45 RJ4 ∈ bt := in_t6 (List.mem_of_getElem? (i := 40) (by decide +kernel)) rfl
theorem m6_41 : Cond.methodLink RJ7 47 yJ4_init_da8c8 ∈ bt := in_t6 (List.mem_of_getElem? (i := 41) (by decide +kernel)) rfl
theorem m6_42 : Cond.methodLink RJ7 54 yJ4_append_bf812 ∈ bt := in_t6 (List.mem_of_getElem? (i := 42) (by decide +kernel)) rfl
theorem m6_43 : Cond.stringRef RJ7 337 " > " ∈ lw_tbl := in_l6 (List.mem_of_getElem? (i := 43) (by decide +kernel))
theorem m6_44 : Cond.methodLink RJ7 50 yJ4_append_15ec4 ∈ bt := in_t6 (List.mem_of_getElem? (i := 44) (by decide +kernel)) rfl
theorem m6_45 : Cond.methodLink RJ7 61 yJ4_toString_0e30d ∈ bt := in_t6 (List.mem_of_getElem? (i := 45) (by decide +kernel)) rfl
theorem m6_46 : Cond.methodLink RJ7 65 ({ cls := "java/lang/IllegalArgumentException", name := "<init>", desc := "(Ljava/lang/String;)V" } : Jvm.MethodName) ∈ bt := in_t6 (List.mem_of_getElem? (i := 46) (by decide +kernel)) rfl
theorem m6_47 : Cond.instanceMethod ({ cls := "java/lang/IllegalArgumentException", name := "<init>", desc := "(Ljava/lang/String;)V" } : Jvm.MethodName) ∈ bt := in_t6 (List.mem_of_getElem? (i := 47) (by decide +kernel)) rfl
theorem m6_48 : Cond.code ({ cls := "java/lang/IllegalArgumentException", name := "<init>", desc := "(Ljava/lang/String;)V" } : Jvm.MethodName) prog_24_method_2_code 2 (Option.none : Option Jvm.ClassFile.FieldType) ∈ bt := in_t6 (List.mem_of_getElem? (i := 48) (by decide +kernel)) rfl
theorem m6_49 : Cond.methodLink "java/lang/IllegalArgumentException" 7 ({ cls := "java/lang/RuntimeException", name := "<init>", desc := "(Ljava/lang/String;)V" } : Jvm.MethodName) ∈ bt := in_t6 (List.mem_of_getElem? (i := 49) (by decide +kernel)) rfl
theorem m6_50 : Cond.instanceMethod ({ cls := "java/lang/RuntimeException", name := "<init>", desc := "(Ljava/lang/String;)V" } : Jvm.MethodName) ∈ bt := in_t6 (List.mem_of_getElem? (i := 50) (by decide +kernel)) rfl
theorem m6_51 : Cond.code ({ cls := "java/lang/RuntimeException", name := "<init>", desc := "(Ljava/lang/String;)V" } : Jvm.MethodName) prog_30_method_2_code 2 (Option.none : Option Jvm.ClassFile.FieldType) ∈ bt := in_t6 (List.mem_of_getElem? (i := 51) (by decide +kernel)) rfl
theorem m6_52 : Cond.methodLink "java/lang/RuntimeException" 7 ({ cls := "java/lang/Exception", name := "<init>", desc := "(Ljava/lang/String;)V" } : Jvm.MethodName) ∈ bt := in_t6 (List.mem_of_getElem? (i := 52) (by decide +kernel)) rfl
theorem m6_53 : Cond.instanceMethod ({ cls := "java/lang/Exception", name := "<init>", desc := "(Ljava/lang/String;)V" } : Jvm.MethodName) ∈ bt := in_t6 (List.mem_of_getElem? (i := 53) (by decide +kernel)) rfl
theorem m6_54 : Cond.code ({ cls := "java/lang/Exception", name := "<init>", desc := "(Ljava/lang/String;)V" } : Jvm.MethodName) prog_23_method_2_code 2 (Option.none : Option Jvm.ClassFile.FieldType) ∈ bt := in_t6 (List.mem_of_getElem? (i := 54) (by decide +kernel)) rfl
theorem m6_55 : Cond.methodLink "java/lang/Exception" 7 ({ cls := "java/lang/Throwable", name := "<init>", desc := "(Ljava/lang/String;)V" } : Jvm.MethodName) ∈ bt := in_t6 (List.mem_of_getElem? (i := 55) (by decide +kernel)) rfl
theorem m6_56 : Cond.instanceMethod ({ cls := "java/lang/Throwable", name := "<init>", desc := "(Ljava/lang/String;)V" } : Jvm.MethodName) ∈ bt := in_t6 (List.mem_of_getElem? (i := 56) (by decide +kernel)) rfl
theorem m6_57 : Cond.code ({ cls := "java/lang/Throwable", name := "<init>", desc := "(Ljava/lang/String;)V" } : Jvm.MethodName) prog_36_method_2_code 2 (Option.none : Option Jvm.ClassFile.FieldType) ∈ bt := in_t6 (List.mem_of_getElem? (i := 57) (by decide +kernel)) rfl
theorem m6_58 : Cond.methodLink RJ0 1051 yJ2_compress_39247 ∈ bt := in_t6 (List.mem_of_getElem? (i := 58) (by decide +kernel)) rfl
theorem m6_59 : Cond.static yJ2_compress_39247 ∈ bt := in_t6 (List.mem_of_getElem? (i := 59) (by decide +kernel)) rfl
theorem m6_60 : Cond.code yJ2_compress_39247 cJ2_compress_39247 6 (Option.some (Jvm.ClassFile.FieldType.array Jvm.ClassFile.FieldType.byte)) ∈ bt := in_t6 (List.mem_of_getElem? (i := 60) (by decide +kernel)) rfl
theorem m6_61 : Cond.methodLink RJ2 123 yJ2_compress_5af95 ∈ bt := in_t6 (List.mem_of_getElem? (i := 61) (by decide +kernel)) rfl
theorem m6_62 : Cond.static yJ2_compress_5af95 ∈ bt := in_t6 (List.mem_of_getElem? (i := 62) (by decide +kernel)) rfl
theorem m6_63 : Cond.code yJ2_compress_5af95 cJ2_compress_5af95 7 (Option.some Jvm.ClassFile.FieldType.int) ∈ bt := in_t6 (List.mem_of_getElem? (i := 63) (by decide +kernel)) rfl
theorem m6_64 : Cond.methodLink RJ2 126 yJ7_copyOfRange_39247 ∈ bt := in_t6 (List.mem_of_getElem? (i := 64) (by decide +kernel)) rfl
theorem m6_65 : Cond.methodLink RJ0 47 yJ2_coderFromArrayLen_85cad ∈ bt := in_t6 (List.mem_of_getElem? (i := 65) (by decide +kernel)) rfl
theorem m6_66 : Cond.static yJ2_coderFromArrayLen_85cad ∈ bt := in_t6 (List.mem_of_getElem? (i := 66) (by decide +kernel)) rfl
theorem m6_67 : Cond.code yJ2_coderFromArrayLen_85cad cJ2_coderFromArrayLen_85cad 2 (Option.some Jvm.ClassFile.FieldType.byte) ∈ bt := in_t6 (List.mem_of_getElem? (i := 67) (by decide +kernel)) rfl
theorem m6_68 : Cond.fieldLink RJ0 9 RJ0 "value" "[B" ∈ bt := in_t6 (List.mem_of_getElem? (i := 68) (by decide +kernel)) rfl
theorem m6_69 : Cond.fieldLink RJ0 15 RJ0 "coder" "B" ∈ bt := in_t6 (List.mem_of_getElem? (i := 69) (by decide +kernel)) rfl
theorem m6_70 : Cond.laysFinal RJ0 RJ0 "value" "[B" ∈ bt := in_t6 (List.mem_of_getElem? (i := 70) (by decide +kernel)) rfl
theorem m6_72 : Cond.laysFinal RJ0 RJ0 "coder" "B" ∈ bt := in_t6 (List.mem_of_getElem? (i := 72) (by decide +kernel)) rfl
theorem m6_74 : Cond.lays RJ0 RJ0 "hash" "I" ∈ bt := in_t6 (List.mem_of_getElem? (i := 74) (by decide +kernel)) rfl
theorem m6_76 : Cond.lays RJ0 RJ0 "hashIsZero" "Z" ∈ bt := in_t6 (List.mem_of_getElem? (i := 76) (by decide +kernel)) rfl
theorem m6_78 : Cond.superclass RJ0 "java/lang/Object" ∈ bt := in_t6 (List.mem_of_getElem? (i := 78) (by decide +kernel)) rfl
theorem m6_79 : Cond.methodLink RL 177 yL_act ∈ bt := in_t6 (List.mem_of_getElem? (i := 79) (by decide +kernel)) rfl
theorem m6_80 : Cond.static yL_act ∈ bt := in_t6 (List.mem_of_getElem? (i := 80) (by decide +kernel)) rfl
theorem m6_81 : Cond.code yL_act cL_act 6 (Option.none : Option Jvm.ClassFile.FieldType) ∈ bt := in_t6 (List.mem_of_getElem? (i := 81) (by decide +kernel)) rfl
theorem m6_82 : Cond.methodLink RL 116 yL_planned ∈ bt := in_t6 (List.mem_of_getElem? (i := 82) (by decide +kernel)) rfl
theorem m6_83 : Cond.static yL_planned ∈ bt := in_t6 (List.mem_of_getElem? (i := 83) (by decide +kernel)) rfl
theorem m6_84 : Cond.codeWith yL_planned cL_planned 3 (Option.some Jvm.ClassFile.FieldType.int) [(0, 5, 6, 45), (0, 5, 9, 47)] ∈ bt := in_t6 (List.mem_of_getElem? (i := 84) (by decide +kernel)) rfl
theorem m6_85 : Cond.classLink RL 45 "java/lang/IllegalStateException" ∈ bt := in_t6 (List.mem_of_getElem? (i := 85) (by decide +kernel)) rfl
theorem m6_86 : Cond.classLink RL 47 "java/util/NoSuchElementException" ∈ bt := in_t6 (List.mem_of_getElem? (i := 86) (by decide +kernel)) rfl
theorem m6_87 : Cond.methodLink RL 41 yX12_planNext ∈ bt := in_t6 (List.mem_of_getElem? (i := 87) (by decide +kernel)) rfl
theorem m6_88 : Cond.instanceMethod yX12_planNext ∈ bt := in_t6 (List.mem_of_getElem? (i := 88) (by decide +kernel)) rfl
theorem m6_89 : Cond.selects RX12 yX12_planNext yX12_planNext ∈ bt := in_t6 (List.mem_of_getElem? (i := 89) (by decide +kernel)) rfl
theorem m6_90 : Cond.code yX12_planNext cX12_planNext 2 (Option.some Jvm.ClassFile.FieldType.int) ∈ bt := in_t6 (List.mem_of_getElem? (i := 90) (by decide +kernel)) rfl
theorem m6_91 : Cond.methodLink RX12 175 yX12_requireExisting ∈ bt := in_t6 (List.mem_of_getElem? (i := 91) (by decide +kernel)) rfl
theorem m6_93 : Cond.instanceMethod yX12_requireExisting ∈ bt := in_t6 (List.mem_of_getElem? (i := 93) (by decide +kernel)) rfl
theorem m6_94 : Cond.code yX12_requireExisting cX12_requireExisting 3 (Option.none : Option Jvm.ClassFile.FieldType) ∈ bt := in_t6 (List.mem_of_getElem? (i := 94) (by decide +kernel)) rfl
theorem m6_95 : Cond.classLink RX12 193 "java/lang/IndexOutOfBoundsException" ∈ bt := in_t6 (List.mem_of_getElem? (i := 95) (by decide +kernel)) rfl
theorem m6_96 : Cond.instantiable "java/lang/IndexOutOfBoundsException" 6 ∈ bt := in_t6 (List.mem_of_getElem? (i := 96) (by decide +kernel)) rfl
theorem m6_97 : Cond.castable "java/lang/IndexOutOfBoundsException" "java/lang/IndexOutOfBoundsException" ∈ nb := in_n6 (List.mem_of_getElem? (i := 97) (by decide +kernel)) rfl
theorem m6_98 : Cond.selects "java/lang/IndexOutOfBoundsException" ({ cls := "java/lang/Throwable", name := "fillInStackTrace", desc := "(I)Ljava/lang/Throwable;" } : Jvm.MethodName) ({ cls := "java/lang/Throwable", name := "fillInStackTrace", desc := "(I)Ljava/lang/Throwable;" } : Jvm.MethodName) ∈ bt := in_t6 (List.mem_of_getElem? (i := 98) (by decide +kernel)) rfl
theorem m6_99 : Cond.lays "java/lang/IndexOutOfBoundsException" "java/lang/Throwable" "cause" "Ljava/lang/Throwable;" ∈ bt := in_t6 (List.mem_of_getElem? (i := 99) (by decide +kernel)) rfl
theorem m6_100 : Cond.lays "java/lang/IndexOutOfBoundsException" "java/lang/Throwable" "stackTrace" "[Ljava/lang/StackTraceElement;" ∈ bt := in_t6 (List.mem_of_getElem? (i := 100) (by decide +kernel)) rfl
theorem m6_101 : Cond.lays "java/lang/IndexOutOfBoundsException" "java/lang/Throwable" "suppressedExceptions" "Ljava/util/List;" ∈ bt := in_t6 (List.mem_of_getElem? (i := 101) (by decide +kernel)) rfl
theorem m6_102 : Cond.lays "java/lang/IndexOutOfBoundsException" "java/lang/Throwable" "detailMessage" "Ljava/lang/String;" ∈ bt := in_t6 (List.mem_of_getElem? (i := 102) (by decide +kernel)) rfl
theorem m6_103 : Cond.lays "java/lang/IndexOutOfBoundsException" "java/lang/Throwable" "backtrace" "Ljava/lang/Object;" ∈ bt := in_t6 (List.mem_of_getElem? (i := 103) (by decide +kernel)) rfl
theorem m6_104 : Cond.methodLink RX12 195 ({ cls := "java/lang/IndexOutOfBoundsException", name := "<init>", desc := "()V" } : Jvm.MethodName) ∈ bt := in_t6 (List.mem_of_getElem? (i := 104) (by decide +kernel)) rfl
theorem m6_105 : Cond.instanceMethod ({ cls := "java/lang/IndexOutOfBoundsException", name := "<init>", desc := "()V" } : Jvm.MethodName) ∈ bt := in_t6 (List.mem_of_getElem? (i := 105) (by decide +kernel)) rfl
theorem m6_106 : Cond.code ({ cls := "java/lang/IndexOutOfBoundsException", name := "<init>", desc := "()V" } : Jvm.MethodName) prog_26_method_1_code 1 (Option.none : Option Jvm.ClassFile.FieldType) ∈ bt := in_t6 (List.mem_of_getElem? (i := 106) (by decide +kernel)) rfl
theorem m6_107 : Cond.methodLink "java/lang/IndexOutOfBoundsException" 1 ({ cls := "java/lang/RuntimeException", name := "<init>", desc := "()V" } : Jvm.MethodName) ∈ bt := in_t6 (List.mem_of_getElem? (i := 107) (by decide +kernel)) rfl
theorem m6_108 : Cond.lays "java/lang/IndexOutOfBoundsException" "java/lang/Throwable" "depth" "I" ∈ bt := in_t6 (List.mem_of_getElem? (i := 108) (by decide +kernel)) rfl
theorem m6_109 : Cond.superclass "java/lang/IndexOutOfBoundsException" "java/lang/RuntimeException" ∈ bt := in_t6 (List.mem_of_getElem? (i := 109) (by decide +kernel)) rfl
theorem m6_110 : Cond.methodLink RX12 287 yX6_findFirst ∈ bt := in_t6 (List.mem_of_getElem? (i := 110) (by decide +kernel)) rfl
theorem m6_111 : Cond.classLink RX12 303 "java/util/NoSuchElementException" ∈ bt := in_t6 (List.mem_of_getElem? (i := 111) (by decide +kernel)) rfl
theorem m6_112 : Cond.instantiable "java/util/NoSuchElementException" 6 ∈ bt := in_t6 (List.mem_of_getElem? (i := 112) (by decide +kernel)) rfl
theorem m6_113 : Cond.castable "java/util/NoSuchElementException" "java/util/NoSuchElementException" ∈ nb := in_n6 (List.mem_of_getElem? (i := 113) (by decide +kernel)) rfl
theorem m6_114 : Cond.selects "java/util/NoSuchElementException" ({ cls := "java/lang/Throwable", name := "fillInStackTrace", desc := "(I)Ljava/lang/Throwable;" } : Jvm.MethodName) ({ cls := "java/lang/Throwable", name := "fillInStackTrace", desc := "(I)Ljava/lang/Throwable;" } : Jvm.MethodName) ∈ bt := in_t6 (List.mem_of_getElem? (i := 114) (by decide +kernel)) rfl
theorem m6_115 : Cond.lays "java/util/NoSuchElementException" "java/lang/Throwable" "cause" "Ljava/lang/Throwable;" ∈ bt := in_t6 (List.mem_of_getElem? (i := 115) (by decide +kernel)) rfl
theorem m6_116 : Cond.lays "java/util/NoSuchElementException" "java/lang/Throwable" "stackTrace" "[Ljava/lang/StackTraceElement;" ∈ bt := in_t6 (List.mem_of_getElem? (i := 116) (by decide +kernel)) rfl
theorem m6_117 : Cond.lays "java/util/NoSuchElementException" "java/lang/Throwable" "suppressedExceptions" "Ljava/util/List;" ∈ bt := in_t6 (List.mem_of_getElem? (i := 117) (by decide +kernel)) rfl
theorem m6_118 : Cond.lays "java/util/NoSuchElementException" "java/lang/Throwable" "detailMessage" "Ljava/lang/String;" ∈ bt := in_t6 (List.mem_of_getElem? (i := 118) (by decide +kernel)) rfl
theorem m6_119 : Cond.lays "java/util/NoSuchElementException" "java/lang/Throwable" "backtrace" "Ljava/lang/Object;" ∈ bt := in_t6 (List.mem_of_getElem? (i := 119) (by decide +kernel)) rfl
theorem m6_120 : Cond.methodLink RX12 305 ({ cls := "java/util/NoSuchElementException", name := "<init>", desc := "()V" } : Jvm.MethodName) ∈ bt := in_t6 (List.mem_of_getElem? (i := 120) (by decide +kernel)) rfl
theorem m6_121 : Cond.instanceMethod ({ cls := "java/util/NoSuchElementException", name := "<init>", desc := "()V" } : Jvm.MethodName) ∈ bt := in_t6 (List.mem_of_getElem? (i := 121) (by decide +kernel)) rfl
theorem m6_122 : Cond.code ({ cls := "java/util/NoSuchElementException", name := "<init>", desc := "()V" } : Jvm.MethodName) prog_40_method_1_code 1 (Option.none : Option Jvm.ClassFile.FieldType) ∈ bt := in_t6 (List.mem_of_getElem? (i := 122) (by decide +kernel)) rfl
theorem m6_123 : Cond.methodLink "java/util/NoSuchElementException" 1 ({ cls := "java/lang/RuntimeException", name := "<init>", desc := "()V" } : Jvm.MethodName) ∈ bt := in_t6 (List.mem_of_getElem? (i := 123) (by decide +kernel)) rfl
theorem m6_124 : Cond.lays "java/util/NoSuchElementException" "java/lang/Throwable" "depth" "I" ∈ bt := in_t6 (List.mem_of_getElem? (i := 124) (by decide +kernel)) rfl
theorem m6_125 : Cond.superclass "java/util/NoSuchElementException" "java/lang/RuntimeException" ∈ bt := in_t6 (List.mem_of_getElem? (i := 125) (by decide +kernel)) rfl
theorem m6_126 : Cond.methodLink RX12 338 yX6_setFound ∈ bt := in_t6 (List.mem_of_getElem? (i := 126) (by decide +kernel)) rfl
theorem m6_127 : Cond.methodLink RL 120 yL_adjourned ∈ bt := in_t6 (List.mem_of_getElem? (i := 127) (by decide +kernel)) rfl
theorem m6_128 : Cond.static yL_adjourned ∈ bt := in_t6 (List.mem_of_getElem? (i := 128) (by decide +kernel)) rfl
theorem m6_129 : Cond.codeWith yL_adjourned cL_adjourned 4 (Option.some Jvm.ClassFile.FieldType.int) [(0, 6, 7, 45)] ∈ bt := in_t6 (List.mem_of_getElem? (i := 129) (by decide +kernel)) rfl
theorem m6_130 : Cond.methodLink RL 49 yX12_adjourn ∈ bt := in_t6 (List.mem_of_getElem? (i := 130) (by decide +kernel)) rfl
theorem m6_131 : Cond.instanceMethod yX12_adjourn ∈ bt := in_t6 (List.mem_of_getElem? (i := 131) (by decide +kernel)) rfl
theorem m6_132 : Cond.selects RX12 yX12_adjourn yX12_adjourn ∈ bt := in_t6 (List.mem_of_getElem? (i := 132) (by decide +kernel)) rfl
theorem m6_133 : Cond.code yX12_adjourn cX12_adjourn 4 (Option.some Jvm.ClassFile.FieldType.int) ∈ bt := in_t6 (List.mem_of_getElem? (i := 133) (by decide +kernel)) rfl
theorem m6_134 : Cond.methodLink RX12 169 yX12_requireReason ∈ bt := in_t6 (List.mem_of_getElem? (i := 134) (by decide +kernel)) rfl
theorem m6_136 : Cond.instanceMethod yX12_requireReason ∈ bt := in_t6 (List.mem_of_getElem? (i := 136) (by decide +kernel)) rfl
theorem m6_137 : Cond.code yX12_requireReason cX12_requireReason 2 (Option.none : Option Jvm.ClassFile.FieldType) ∈ bt := in_t6 (List.mem_of_getElem? (i := 137) (by decide +kernel)) rfl
theorem m6_138 : Cond.methodLink RX12 345 yX10_takeAway ∈ bt := in_t6 (List.mem_of_getElem? (i := 138) (by decide +kernel)) rfl
theorem m6_139 : Cond.instanceMethod yX10_takeAway ∈ bt := in_t6 (List.mem_of_getElem? (i := 139) (by decide +kernel)) rfl
theorem m6_140 : Cond.selects RX10 yX10_takeAway yX10_takeAway ∈ bt := in_t6 (List.mem_of_getElem? (i := 140) (by decide +kernel)) rfl
theorem m6_141 : Cond.code yX10_takeAway cX10_takeAway 5 (Option.none : Option Jvm.ClassFile.FieldType) ∈ bt := in_t6 (List.mem_of_getElem? (i := 141) (by decide +kernel)) rfl
theorem m6_142 : Cond.methodLink RX10 164 yJ9_min_7cf53 ∈ bt := in_t6 (List.mem_of_getElem? (i := 142) (by decide +kernel)) rfl
theorem m6_143 : Cond.methodLink RX10 169 yX7_note ∈ bt := in_t6 (List.mem_of_getElem? (i := 143) (by decide +kernel)) rfl
theorem m6_144 : Cond.instanceMethod yX7_note ∈ bt := in_t6 (List.mem_of_getElem? (i := 144) (by decide +kernel)) rfl
theorem m6_145 : Cond.selects RX7 yX7_note yX7_note ∈ bt := in_t6 (List.mem_of_getElem? (i := 145) (by decide +kernel)) rfl
theorem m6_146 : Cond.code yX7_note cX7_note 5 (Option.none : Option Jvm.ClassFile.FieldType) ∈ bt := in_t6 (List.mem_of_getElem? (i := 146) (by decide +kernel)) rfl
theorem m6_147 : Cond.methodLink RX10 173 yX7_dropHearing ∈ bt := in_t6 (List.mem_of_getElem? (i := 147) (by decide +kernel)) rfl
theorem m6_148 : Cond.methodLink RX12 233 yX10_limitDay ∈ bt := in_t6 (List.mem_of_getElem? (i := 148) (by decide +kernel)) rfl
theorem m6_149 : Cond.methodLink RL 124 yL_withdrawn ∈ bt := in_t6 (List.mem_of_getElem? (i := 149) (by decide +kernel)) rfl
theorem m6_150 : Cond.static yL_withdrawn ∈ bt := in_t6 (List.mem_of_getElem? (i := 150) (by decide +kernel)) rfl
theorem m6_151 : Cond.codeWith yL_withdrawn cL_withdrawn 4 (Option.some Jvm.ClassFile.FieldType.int) [(0, 6, 7, 56)] ∈ bt := in_t6 (List.mem_of_getElem? (i := 151) (by decide +kernel)) rfl
theorem m6_152 : Cond.classLink RL 56 "java/lang/IllegalArgumentException" ∈ bt := in_t6 (List.mem_of_getElem? (i := 152) (by decide +kernel)) rfl
theorem m6_153 : Cond.methodLink RL 53 yX12_withdraw ∈ bt := in_t6 (List.mem_of_getElem? (i := 153) (by decide +kernel)) rfl
theorem m6_154 : Cond.instanceMethod yX12_withdraw ∈ bt := in_t6 (List.mem_of_getElem? (i := 154) (by decide +kernel)) rfl
theorem m6_155 : Cond.selects RX12 yX12_withdraw yX12_withdraw ∈ bt := in_t6 (List.mem_of_getElem? (i := 155) (by decide +kernel)) rfl
theorem m6_156 : Cond.code yX12_withdraw cX12_withdraw 7 (Option.some Jvm.ClassFile.FieldType.int) ∈ bt := in_t6 (List.mem_of_getElem? (i := 156) (by decide +kernel)) rfl
theorem m6_157 : Cond.methodLink RX12 348 yX12_requireComingDay ∈ bt := in_t6 (List.mem_of_getElem? (i := 157) (by decide +kernel)) rfl
theorem m6_159 : Cond.instanceMethod yX12_requireComingDay ∈ bt := in_t6 (List.mem_of_getElem? (i := 159) (by decide +kernel)) rfl
theorem m6_160 : Cond.code yX12_requireComingDay cX12_requireComingDay 2 (Option.none : Option Jvm.ClassFile.FieldType) ∈ bt := in_t6 (List.mem_of_getElem? (i := 160) (by decide +kernel)) rfl
theorem m6_161 : Cond.methodLink RX12 351 yJ9_min_7cf53 ∈ bt := in_t6 (List.mem_of_getElem? (i := 161) (by decide +kernel)) rfl
theorem m6_162 : Cond.methodLink RX12 203 yX12_has ∈ bt := in_t6 (List.mem_of_getElem? (i := 162) (by decide +kernel)) rfl
theorem m6_163 : Cond.methodLink RL 127 yL_closed ∈ bt := in_t6 (List.mem_of_getElem? (i := 163) (by decide +kernel)) rfl
theorem m6_164 : Cond.static yL_closed ∈ bt := in_t6 (List.mem_of_getElem? (i := 164) (by decide +kernel)) rfl
theorem m6_165 : Cond.codeWith yL_closed cL_closed 3 (Option.some Jvm.ClassFile.FieldType.int) [(0, 5, 6, 56), (0, 5, 9, 45)] ∈ bt := in_t6 (List.mem_of_getElem? (i := 165) (by decide +kernel)) rfl
theorem m6_166 : Cond.methodLink RL 58 yX12_addHoliday ∈ bt := in_t6 (List.mem_of_getElem? (i := 166) (by decide +kernel)) rfl
theorem m6_167 : Cond.instanceMethod yX12_addHoliday ∈ bt := in_t6 (List.mem_of_getElem? (i := 167) (by decide +kernel)) rfl
theorem m6_168 : Cond.selects RX12 yX12_addHoliday yX12_addHoliday ∈ bt := in_t6 (List.mem_of_getElem? (i := 168) (by decide +kernel)) rfl
theorem m6_169 : Cond.code yX12_addHoliday cX12_addHoliday 5 (Option.some Jvm.ClassFile.FieldType.int) ∈ bt := in_t6 (List.mem_of_getElem? (i := 169) (by decide +kernel)) rfl
theorem m6_170 : Cond.methodLink RX12 157 yX10_works ∈ bt := in_t6 (List.mem_of_getElem? (i := 170) (by decide +kernel)) rfl
theorem m6_171 : Cond.methodLink RX12 356 yX2_add ∈ bt := in_t6 (List.mem_of_getElem? (i := 171) (by decide +kernel)) rfl
theorem m6_172 : Cond.methodLink RL 130 yL_barred ∈ bt := in_t6 (List.mem_of_getElem? (i := 172) (by decide +kernel)) rfl
theorem m6_173 : Cond.static yL_barred ∈ bt := in_t6 (List.mem_of_getElem? (i := 173) (by decide +kernel)) rfl
theorem m6_174 : Cond.codeWith yL_barred cL_barred 4 (Option.some Jvm.ClassFile.FieldType.boolean) [(0, 6, 7, 45)] ∈ bt := in_t6 (List.mem_of_getElem? (i := 174) (by decide +kernel)) rfl
theorem m6_175 : Cond.methodLink RL 61 yX12_addBar ∈ bt := in_t6 (List.mem_of_getElem? (i := 175) (by decide +kernel)) rfl
theorem m6_176 : Cond.instanceMethod yX12_addBar ∈ bt := in_t6 (List.mem_of_getElem? (i := 176) (by decide +kernel)) rfl
theorem m6_177 : Cond.selects RX12 yX12_addBar yX12_addBar ∈ bt := in_t6 (List.mem_of_getElem? (i := 177) (by decide +kernel)) rfl
theorem m6_178 : Cond.code yX12_addBar cX12_addBar 5 (Option.some Jvm.ClassFile.FieldType.boolean) ∈ bt := in_t6 (List.mem_of_getElem? (i := 178) (by decide +kernel)) rfl
theorem m6_179 : Cond.methodLink RL 181 yL_isGood ∈ bt := in_t6 (List.mem_of_getElem? (i := 179) (by decide +kernel)) rfl
theorem m6_180 : Cond.static yL_isGood ∈ bt := in_t6 (List.mem_of_getElem? (i := 180) (by decide +kernel)) rfl
theorem m6_181 : Cond.code yL_isGood cL_isGood 6 (Option.some Jvm.ClassFile.FieldType.boolean) ∈ bt := in_t6 (List.mem_of_getElem? (i := 181) (by decide +kernel)) rfl
theorem m6_182 : Cond.methodLink RL 143 yX12_matter ∈ bt := in_t6 (List.mem_of_getElem? (i := 182) (by decide +kernel)) rfl
theorem m6_183 : Cond.instanceMethod yX12_matter ∈ bt := in_t6 (List.mem_of_getElem? (i := 183) (by decide +kernel)) rfl
theorem m6_184 : Cond.selects RX12 yX12_matter yX12_matter ∈ bt := in_t6 (List.mem_of_getElem? (i := 184) (by decide +kernel)) rfl
theorem m6_185 : Cond.code yX12_matter cX12_matter 5 (Option.some Jvm.ClassFile.FieldType.int) ∈ bt := in_t6 (List.mem_of_getElem? (i := 185) (by decide +kernel)) rfl
theorem m6_186 : Cond.methodLink RX12 248 yJ6_bitCount_0f7a4 ∈ bt := in_t6 (List.mem_of_getElem? (i := 186) (by decide +kernel)) rfl
theorem m6_187 : Cond.methodLink RL 146 yX12_hearing ∈ bt := in_t6 (List.mem_of_getElem? (i := 187) (by decide +kernel)) rfl
theorem m6_188 : Cond.instanceMethod yX12_hearing ∈ bt := in_t6 (List.mem_of_getElem? (i := 188) (by decide +kernel)) rfl
theorem m6_189 : Cond.selects RX12 yX12_hearing yX12_hearing ∈ bt := in_t6 (List.mem_of_getElem? (i := 189) (by decide +kernel)) rfl
theorem m6_190 : Cond.code yX12_hearing cX12_hearing 4 (Option.some Jvm.ClassFile.FieldType.int) ∈ bt := in_t6 (List.mem_of_getElem? (i := 190) (by decide +kernel)) rfl
theorem m6_191 : Cond.methodLink RL 149 yX12_adjournment ∈ bt := in_t6 (List.mem_of_getElem? (i := 191) (by decide +kernel)) rfl
theorem m6_192 : Cond.instanceMethod yX12_adjournment ∈ bt := in_t6 (List.mem_of_getElem? (i := 192) (by decide +kernel)) rfl
theorem m6_193 : Cond.selects RX12 yX12_adjournment yX12_adjournment ∈ bt := in_t6 (List.mem_of_getElem? (i := 193) (by decide +kernel)) rfl
theorem m6_194 : Cond.code yX12_adjournment cX12_adjournment 5 (Option.some Jvm.ClassFile.FieldType.int) ∈ bt := in_t6 (List.mem_of_getElem? (i := 194) (by decide +kernel)) rfl
theorem m6_195 : Cond.methodLink RL 153 yX12_caseAt ∈ bt := in_t6 (List.mem_of_getElem? (i := 195) (by decide +kernel)) rfl
theorem m6_196 : Cond.instanceMethod yX12_caseAt ∈ bt := in_t6 (List.mem_of_getElem? (i := 196) (by decide +kernel)) rfl
theorem m6_197 : Cond.selects RX12 yX12_caseAt yX12_caseAt ∈ bt := in_t6 (List.mem_of_getElem? (i := 197) (by decide +kernel)) rfl
theorem m6_198 : Cond.code yX12_caseAt cX12_caseAt 4 (Option.some Jvm.ClassFile.FieldType.int) ∈ bt := in_t6 (List.mem_of_getElem? (i := 198) (by decide +kernel)) rfl
theorem m6_199 : Cond.methodLink RX12 154 yX12_requireDay ∈ bt := in_t6 (List.mem_of_getElem? (i := 199) (by decide +kernel)) rfl
theorem m6_201 : Cond.instanceMethod yX12_requireDay ∈ bt := in_t6 (List.mem_of_getElem? (i := 201) (by decide +kernel)) rfl
theorem m6_202 : Cond.code yX12_requireDay cX12_requireDay 2 (Option.none : Option Jvm.ClassFile.FieldType) ∈ bt := in_t6 (List.mem_of_getElem? (i := 202) (by decide +kernel)) rfl
theorem m6_203 : Cond.methodLink RX12 269 yX12_requireSlot ∈ bt := in_t6 (List.mem_of_getElem? (i := 203) (by decide +kernel)) rfl
theorem m6_205 : Cond.instanceMethod yX12_requireSlot ∈ bt := in_t6 (List.mem_of_getElem? (i := 205) (by decide +kernel)) rfl
theorem m6_206 : Cond.code yX12_requireSlot cX12_requireSlot 2 (Option.none : Option Jvm.ClassFile.FieldType) ∈ bt := in_t6 (List.mem_of_getElem? (i := 206) (by decide +kernel)) rfl
theorem m6_207 : Cond.methodLink RX12 272 yX10_caseTaking ∈ bt := in_t6 (List.mem_of_getElem? (i := 207) (by decide +kernel)) rfl
theorem m6_208 : Cond.instanceMethod yX10_caseTaking ∈ bt := in_t6 (List.mem_of_getElem? (i := 208) (by decide +kernel)) rfl
theorem m6_209 : Cond.selects RX10 yX10_caseTaking yX10_caseTaking ∈ bt := in_t6 (List.mem_of_getElem? (i := 209) (by decide +kernel)) rfl
theorem m6_210 : Cond.code yX10_caseTaking cX10_caseTaking 5 (Option.some Jvm.ClassFile.FieldType.int) ∈ bt := in_t6 (List.mem_of_getElem? (i := 210) (by decide +kernel)) rfl
theorem m6_211 : Cond.methodLink RX10 120 yX7_isOn ∈ bt := in_t6 (List.mem_of_getElem? (i := 211) (by decide +kernel)) rfl
theorem m6_212 : Cond.methodLink RX10 123 yX10_slotsOf ∈ bt := in_t6 (List.mem_of_getElem? (i := 212) (by decide +kernel)) rfl
theorem m6_213 : Cond.methodLink RL 156 yX12_problem ∈ bt := in_t6 (List.mem_of_getElem? (i := 213) (by decide +kernel)) rfl
theorem m6_214 : Cond.instanceMethod yX12_problem ∈ bt := in_t6 (List.mem_of_getElem? (i := 214) (by decide +kernel)) rfl
theorem m6_215 : Cond.selects RX12 yX12_problem yX12_problem ∈ bt := in_t6 (List.mem_of_getElem? (i := 215) (by decide +kernel)) rfl
theorem m6_216 : Cond.code yX12_problem cX12_problem 6 (Option.some Jvm.ClassFile.FieldType.int) ∈ bt := in_t6 (List.mem_of_getElem? (i := 216) (by decide +kernel)) rfl
theorem m6_217 : Cond.methodLink RX12 276 yX12_requireHearing ∈ bt := in_t6 (List.mem_of_getElem? (i := 217) (by decide +kernel)) rfl
theorem m6_219 : Cond.instanceMethod yX12_requireHearing ∈ bt := in_t6 (List.mem_of_getElem? (i := 219) (by decide +kernel)) rfl
theorem m6_220 : Cond.code yX12_requireHearing cX12_requireHearing 6 (Option.none : Option Jvm.ClassFile.FieldType) ∈ bt := in_t6 (List.mem_of_getElem? (i := 220) (by decide +kernel)) rfl
theorem m6_221 : Cond.methodLink RX12 280 yX12_requireUnfinished ∈ bt := in_t6 (List.mem_of_getElem? (i := 221) (by decide +kernel)) rfl
theorem m6_223 : Cond.instanceMethod yX12_requireUnfinished ∈ bt := in_t6 (List.mem_of_getElem? (i := 223) (by decide +kernel)) rfl
theorem m6_224 : Cond.code yX12_requireUnfinished cX12_requireUnfinished 3 (Option.none : Option Jvm.ClassFile.FieldType) ∈ bt := in_t6 (List.mem_of_getElem? (i := 224) (by decide +kernel)) rfl
theorem m6_225 : Cond.methodLink RX12 283 yX6_faultOf ∈ bt := in_t6 (List.mem_of_getElem? (i := 225) (by decide +kernel)) rfl
theorem m6_226 : Cond.instanceMethod yX6_faultOf ∈ bt := in_t6 (List.mem_of_getElem? (i := 226) (by decide +kernel)) rfl
theorem m6_227 : Cond.selects RX6 yX6_faultOf yX6_faultOf ∈ bt := in_t6 (List.mem_of_getElem? (i := 227) (by decide +kernel)) rfl
theorem m6_228 : Cond.code yX6_faultOf cX6_faultOf 9 (Option.some Jvm.ClassFile.FieldType.int) ∈ bt := in_t6 (List.mem_of_getElem? (i := 228) (by decide +kernel)) rfl
theorem m6_229 : Cond.methodLink RL 159 yX12_load ∈ bt := in_t6 (List.mem_of_getElem? (i := 229) (by decide +kernel)) rfl
theorem m6_230 : Cond.instanceMethod yX12_load ∈ bt := in_t6 (List.mem_of_getElem? (i := 230) (by decide +kernel)) rfl
theorem m6_231 : Cond.selects RX12 yX12_load yX12_load ∈ bt := in_t6 (List.mem_of_getElem? (i := 231) (by decide +kernel)) rfl
theorem m6_232 : Cond.code yX12_load cX12_load 2 (Option.some Jvm.ClassFile.FieldType.int) ∈ bt := in_t6 (List.mem_of_getElem? (i := 232) (by decide +kernel)) rfl
theorem m6_233 : Cond.methodLink RX12 206 yX10_loadOf ∈ bt := in_t6 (List.mem_of_getElem? (i := 233) (by decide +kernel)) rfl
theorem m6_234 : Cond.methodLink RL 185 yL_isOpening ∈ bt := in_t6 (List.mem_of_getElem? (i := 234) (by decide +kernel)) rfl
theorem m6_235 : Cond.static yL_isOpening ∈ bt := in_t6 (List.mem_of_getElem? (i := 235) (by decide +kernel)) rfl
theorem m6_236 : Cond.code yL_isOpening cL_isOpening 6 (Option.some Jvm.ClassFile.FieldType.boolean) ∈ bt := in_t6 (List.mem_of_getElem? (i := 236) (by decide +kernel)) rfl
theorem m6_237 : Cond.methodLink RL 162 yX12_opening ∈ bt := in_t6 (List.mem_of_getElem? (i := 237) (by decide +kernel)) rfl
theorem m6_238 : Cond.instanceMethod yX12_opening ∈ bt := in_t6 (List.mem_of_getElem? (i := 238) (by decide +kernel)) rfl
theorem m6_239 : Cond.selects RX12 yX12_opening yX12_opening ∈ bt := in_t6 (List.mem_of_getElem? (i := 239) (by decide +kernel)) rfl
theorem m7_0 : Cond.code yX12_opening cX12_opening 3 (Option.some Jvm.ClassFile.FieldType.int) ∈ bt := in_t7 (List.mem_of_getElem? (i := 0) (by decide +kernel)) rfl
theorem m7_1 : Cond.methodLink RL 165 yX12_openDays ∈ bt := in_t7 (List.mem_of_getElem? (i := 1) (by decide +kernel)) rfl
theorem m7_2 : Cond.instanceMethod yX12_openDays ∈ bt := in_t7 (List.mem_of_getElem? (i := 2) (by decide +kernel)) rfl
theorem m7_3 : Cond.selects RX12 yX12_openDays yX12_openDays ∈ bt := in_t7 (List.mem_of_getElem? (i := 3) (by decide +kernel)) rfl
theorem m7_4 : Cond.code yX12_openDays cX12_openDays 2 (Option.some Jvm.ClassFile.FieldType.int) ∈ bt := in_t7 (List.mem_of_getElem? (i := 4) (by decide +kernel)) rfl
theorem m7_5 : Cond.methodLink RX12 295 yX6_countOpenDays ∈ bt := in_t7 (List.mem_of_getElem? (i := 5) (by decide +kernel)) rfl
theorem m7_6 : Cond.instanceMethod yX6_countOpenDays ∈ bt := in_t7 (List.mem_of_getElem? (i := 6) (by decide +kernel)) rfl
theorem m7_7 : Cond.selects RX6 yX6_countOpenDays yX6_countOpenDays ∈ bt := in_t7 (List.mem_of_getElem? (i := 7) (by decide +kernel)) rfl
theorem m7_8 : Cond.code yX6_countOpenDays cX6_countOpenDays 6 (Option.some Jvm.ClassFile.FieldType.int) ∈ bt := in_t7 (List.mem_of_getElem? (i := 8) (by decide +kernel)) rfl
theorem m7_9 : Cond.sameMethod "java/lang/Throwable" "java/lang/Throwable" "fillInStackTrace" "(I)Ljava/lang/Throwable;" ∈ bt := in_t7 (List.mem_of_getElem? (i := 9) (by decide +kernel)) rfl
theorem m7_10 : Cond.sameMethod RJ5 RJ5 "append" "(Ljava/lang/String;)Ljava/lang/AbstractStringBuilder;" ∈ bt := in_t7 (List.mem_of_getElem? (i := 10) (by decide +kernel)) rfl
theorem m7_11 : Cond.sameMethod RJ5 RJ5 "appendNull" "()Ljava/lang/AbstractStringBuilder;" ∈ bt := in_t7 (List.mem_of_getElem? (i := 11) (by decide +kernel)) rfl
theorem m7_12 : Cond.sameMethod RJ5 RJ5 "ensureCapacityInternal" "(I)V" ∈ bt := in_t7 (List.mem_of_getElem? (i := 12) (by decide +kernel)) rfl
theorem m7_13 : Cond.sameMethod RJ5 RJ5 "newCapacity" "(I)I" ∈ bt := in_t7 (List.mem_of_getElem? (i := 13) (by decide +kernel)) rfl
theorem m7_14 : Cond.sameMethod RJ5 RJ5 "putStringAt" "(ILjava/lang/String;)V" ∈ bt := in_t7 (List.mem_of_getElem? (i := 14) (by decide +kernel)) rfl
theorem m7_15 : Cond.sameMethod RJ5 RJ5 "inflateIfNeededFor" "(Ljava/lang/String;)V" ∈ bt := in_t7 (List.mem_of_getElem? (i := 15) (by decide +kernel)) rfl
theorem m7_16 : Cond.sameMethod RJ5 RJ5 "inflate" "()V" ∈ bt := in_t7 (List.mem_of_getElem? (i := 16) (by decide +kernel)) rfl
theorem m7_17 : Cond.sameMethod RJ5 RJ5 "append" "(C)Ljava/lang/AbstractStringBuilder;" ∈ bt := in_t7 (List.mem_of_getElem? (i := 17) (by decide +kernel)) rfl
theorem m7_18 : Cond.sameMethod RJ5 RJ5 "append" "(I)Ljava/lang/AbstractStringBuilder;" ∈ bt := in_t7 (List.mem_of_getElem? (i := 18) (by decide +kernel)) rfl
theorem m7_19 : Cond.castable RX12 "java/lang/Object" ∈ nb := in_n7 (List.mem_of_getElem? (i := 19) (by decide +kernel)) rfl
theorem m7_20 : Cond.castable RX9 "java/lang/Object" ∈ nb := in_n7 (List.mem_of_getElem? (i := 20) (by decide +kernel)) rfl
theorem m7_21 : Cond.castable RX2 "java/lang/Object" ∈ nb := in_n7 (List.mem_of_getElem? (i := 21) (by decide +kernel)) rfl
theorem m7_22 : Cond.castable RX4 "java/lang/Object" ∈ nb := in_n7 (List.mem_of_getElem? (i := 22) (by decide +kernel)) rfl
theorem m7_23 : Cond.castable RX3 "java/lang/Object" ∈ nb := in_n7 (List.mem_of_getElem? (i := 23) (by decide +kernel)) rfl
theorem m7_24 : Cond.castable RX5 "java/lang/Object" ∈ nb := in_n7 (List.mem_of_getElem? (i := 24) (by decide +kernel)) rfl
theorem m7_25 : Cond.castable RX8 "java/lang/Object" ∈ nb := in_n7 (List.mem_of_getElem? (i := 25) (by decide +kernel)) rfl
theorem m7_26 : Cond.castable RX11 "java/lang/Object" ∈ nb := in_n7 (List.mem_of_getElem? (i := 26) (by decide +kernel)) rfl
theorem m7_27 : Cond.castable RX10 "java/lang/Object" ∈ nb := in_n7 (List.mem_of_getElem? (i := 27) (by decide +kernel)) rfl
theorem m7_28 : Cond.castable RX7 "java/lang/Object" ∈ nb := in_n7 (List.mem_of_getElem? (i := 28) (by decide +kernel)) rfl
theorem m7_29 : Cond.castable RX6 "java/lang/Object" ∈ nb := in_n7 (List.mem_of_getElem? (i := 29) (by decide +kernel)) rfl
theorem m7_30 : Cond.castable RX1 "java/lang/Object" ∈ nb := in_n7 (List.mem_of_getElem? (i := 30) (by decide +kernel)) rfl
theorem m7_31 : Cond.castable RJ4 "java/lang/Object" ∈ nb := in_n7 (List.mem_of_getElem? (i := 31) (by decide +kernel)) rfl
theorem m7_32 : Cond.castable RJ0 "java/lang/Object" ∈ nb := in_n7 (List.mem_of_getElem? (i := 32) (by decide +kernel)) rfl
theorem m7_33 : Cond.castable "java/lang/IllegalArgumentException" "java/lang/Object" ∈ nb := in_n7 (List.mem_of_getElem? (i := 33) (by decide +kernel)) rfl
theorem m7_34 : Cond.castable "java/lang/IndexOutOfBoundsException" "java/lang/Object" ∈ nb := in_n7 (List.mem_of_getElem? (i := 34) (by decide +kernel)) rfl
theorem m7_35 : Cond.castable "java/lang/IllegalStateException" "java/lang/Object" ∈ nb := in_n7 (List.mem_of_getElem? (i := 35) (by decide +kernel)) rfl
theorem m7_36 : Cond.castable "java/util/NoSuchElementException" "java/lang/Object" ∈ nb := in_n7 (List.mem_of_getElem? (i := 36) (by decide +kernel)) rfl
theorem m7_37 : Cond.castable "java/lang/Throwable" "java/lang/Object" ∈ nb := in_n7 (List.mem_of_getElem? (i := 37) (by decide +kernel)) rfl
theorem m7_38 : Cond.fieldLink RX11 96 RX11 "packed" "J" ∈ bt := in_t7 (List.mem_of_getElem? (i := 38) (by decide +kernel)) rfl
theorem m7_39 : Cond.fieldLink RJx29ce0 7 RJx29ce0 "ordinal" "I" ∈ bt := in_t7 (List.mem_of_getElem? (i := 39) (by decide +kernel)) rfl
theorem m7_40 : Cond.laysStatic RX11 "HOLIDAY" "LCourtCalendar$Token;" ∈ lw_tbl := in_l7 (List.mem_of_getElem? (i := 40) (by decide +kernel))
theorem m7_41 : Cond.laysStatic RX11 "ROOM" "LCourtCalendar$Token;" ∈ lw_tbl := in_l7 (List.mem_of_getElem? (i := 41) (by decide +kernel))
theorem m7_42 : Cond.laysStatic RX11 "OFFICER" "LCourtCalendar$Token;" ∈ lw_tbl := in_l7 (List.mem_of_getElem? (i := 42) (by decide +kernel))
theorem m7_43 : Cond.laysStatic RX11 "WITNESS" "LCourtCalendar$Token;" ∈ lw_tbl := in_l7 (List.mem_of_getElem? (i := 43) (by decide +kernel))
theorem m7_44 : Cond.laysStatic RX11 "CASE" "LCourtCalendar$Token;" ∈ lw_tbl := in_l7 (List.mem_of_getElem? (i := 44) (by decide +kernel))
theorem m7_45 : Cond.laysStatic RX11 "BAR" "LCourtCalendar$Token;" ∈ lw_tbl := in_l7 (List.mem_of_getElem? (i := 45) (by decide +kernel))
theorem m7_46 : Cond.laysStatic RX11 "CONFLICT" "LCourtCalendar$Token;" ∈ lw_tbl := in_l7 (List.mem_of_getElem? (i := 46) (by decide +kernel))
theorem m7_47 : Cond.laysStatic RX11 "LENGTHEN" "LCourtCalendar$Token;" ∈ lw_tbl := in_l7 (List.mem_of_getElem? (i := 47) (by decide +kernel))
theorem m7_48 : Cond.laysStatic RX11 "CAP" "LCourtCalendar$Token;" ∈ lw_tbl := in_l7 (List.mem_of_getElem? (i := 48) (by decide +kernel))
theorem ma_0 : Cond.selects RJ4 yJ5_ensureCapacityInternal_d00df yJ5_ensureCapacityInternal_d00df ∈ bt := in_asb (by simp [asbs])
theorem ma_1 : Cond.selects RJ4 yJ5_newCapacity_0f7a4 yJ5_newCapacity_0f7a4 ∈ bt := in_asb (by simp [asbs])
theorem ma_2 : Cond.selects RJ4 yJ5_putStringAt_47b60 yJ5_putStringAt_47b60 ∈ bt := in_asb (by simp [asbs])
theorem ma_3 : Cond.selects RJ4 yJ5_inflateIfNeededFor_a7421 yJ5_inflateIfNeededFor_a7421 ∈ bt := in_asb (by simp [asbs])
theorem ms_0 : Cond.selects RX12 yX12_requirePassable yX12_requirePassable ∈ bt := in_ts (List.mem_of_getElem? (i := 0) (by decide +kernel)) rfl
theorem ms_2 : Cond.selects RX12 yX12_remember yX12_remember ∈ bt := in_ts (List.mem_of_getElem? (i := 2) (by decide +kernel)) rfl
theorem ms_3 : Cond.selects RX10 yX10_urgencyKey yX10_urgencyKey ∈ bt := in_ts (List.mem_of_getElem? (i := 3) (by decide +kernel)) rfl
theorem ms_4 : Cond.selects RX6 yX6_lookAtOfficers yX6_lookAtOfficers ∈ bt := in_ts (List.mem_of_getElem? (i := 4) (by decide +kernel)) rfl
theorem ms_5 : Cond.selects RX6 yX6_findOn yX6_findOn ∈ bt := in_ts (List.mem_of_getElem? (i := 5) (by decide +kernel)) rfl
theorem ms_6 : Cond.selects RX6 yX6_lookAtDay yX6_lookAtDay ∈ bt := in_ts (List.mem_of_getElem? (i := 6) (by decide +kernel)) rfl
theorem ms_7 : Cond.selects RX6 yX6_findIn yX6_findIn ∈ bt := in_ts (List.mem_of_getElem? (i := 7) (by decide +kernel)) rfl
theorem ms_8 : Cond.selects RX6 yX6_leastLoaded yX6_leastLoaded ∈ bt := in_ts (List.mem_of_getElem? (i := 8) (by decide +kernel)) rfl
theorem ms_9 : Cond.selects RX12 yX12_forecastPlanned yX12_forecastPlanned ∈ bt := in_ts (List.mem_of_getElem? (i := 9) (by decide +kernel)) rfl
theorem ms_10 : Cond.selects RX12 yX12_append yX12_append ∈ bt := in_ts (List.mem_of_getElem? (i := 10) (by decide +kernel)) rfl
theorem ms_11 : Cond.selects RX5 yX5_takesStatement yX5_takesStatement ∈ bt := in_ts (List.mem_of_getElem? (i := 11) (by decide +kernel)) rfl
theorem ms_12 : Cond.selects RX5 yX5_takesHoliday yX5_takesHoliday ∈ bt := in_ts (List.mem_of_getElem? (i := 12) (by decide +kernel)) rfl
theorem ms_13 : Cond.selects RX5 yX5_fail yX5_fail ∈ bt := in_ts (List.mem_of_getElem? (i := 13) (by decide +kernel)) rfl
theorem ms_14 : Cond.selects RX5 yX5_seesNumber yX5_seesNumber ∈ bt := in_ts (List.mem_of_getElem? (i := 14) (by decide +kernel)) rfl
theorem ms_15 : Cond.selects RX5 yX5_takesRoom yX5_takesRoom ∈ bt := in_ts (List.mem_of_getElem? (i := 15) (by decide +kernel)) rfl
theorem ms_16 : Cond.selects RX5 yX5_takesNewName yX5_takesNewName ∈ bt := in_ts (List.mem_of_getElem? (i := 16) (by decide +kernel)) rfl
theorem ms_17 : Cond.selects RX5 yX5_takes yX5_takes ∈ bt := in_ts (List.mem_of_getElem? (i := 17) (by decide +kernel)) rfl
theorem ms_18 : Cond.selects RX5 yX5_takesSpan yX5_takesSpan ∈ bt := in_ts (List.mem_of_getElem? (i := 18) (by decide +kernel)) rfl
theorem ms_19 : Cond.selects RX5 yX5_takesNumber yX5_takesNumber ∈ bt := in_ts (List.mem_of_getElem? (i := 19) (by decide +kernel)) rfl
theorem ms_20 : Cond.selects RX5 yX5_takesOfficer yX5_takesOfficer ∈ bt := in_ts (List.mem_of_getElem? (i := 20) (by decide +kernel)) rfl
theorem ms_21 : Cond.selects RX5 yX5_takesWitness yX5_takesWitness ∈ bt := in_ts (List.mem_of_getElem? (i := 21) (by decide +kernel)) rfl
theorem ms_22 : Cond.selects RX5 yX5_takesCase yX5_takesCase ∈ bt := in_ts (List.mem_of_getElem? (i := 22) (by decide +kernel)) rfl
theorem ms_23 : Cond.selects RX5 yX5_takesNeeds yX5_takesNeeds ∈ bt := in_ts (List.mem_of_getElem? (i := 23) (by decide +kernel)) rfl
theorem ms_24 : Cond.selects RX5 yX5_seesToldName yX5_seesToldName ∈ bt := in_ts (List.mem_of_getElem? (i := 24) (by decide +kernel)) rfl
theorem ms_25 : Cond.selects RX5 yX5_takesBar yX5_takesBar ∈ bt := in_ts (List.mem_of_getElem? (i := 25) (by decide +kernel)) rfl
theorem ms_26 : Cond.selects RX5 yX5_takesConflict yX5_takesConflict ∈ bt := in_ts (List.mem_of_getElem? (i := 26) (by decide +kernel)) rfl
theorem ms_27 : Cond.selects RX5 yX5_takesLengthen yX5_takesLengthen ∈ bt := in_ts (List.mem_of_getElem? (i := 27) (by decide +kernel)) rfl
theorem ms_28 : Cond.selects RX5 yX5_takesCap yX5_takesCap ∈ bt := in_ts (List.mem_of_getElem? (i := 28) (by decide +kernel)) rfl
theorem ms_29 : Cond.selects RX12 yX12_requireExisting yX12_requireExisting ∈ bt := in_ts (List.mem_of_getElem? (i := 29) (by decide +kernel)) rfl
theorem ms_30 : Cond.selects RX12 yX12_requireReason yX12_requireReason ∈ bt := in_ts (List.mem_of_getElem? (i := 30) (by decide +kernel)) rfl
theorem ms_31 : Cond.selects RX12 yX12_requireComingDay yX12_requireComingDay ∈ bt := in_ts (List.mem_of_getElem? (i := 31) (by decide +kernel)) rfl
theorem ms_32 : Cond.selects RX12 yX12_requireDay yX12_requireDay ∈ bt := in_ts (List.mem_of_getElem? (i := 32) (by decide +kernel)) rfl
theorem ms_33 : Cond.selects RX12 yX12_requireSlot yX12_requireSlot ∈ bt := in_ts (List.mem_of_getElem? (i := 33) (by decide +kernel)) rfl
theorem ms_34 : Cond.selects RX12 yX12_requireHearing yX12_requireHearing ∈ bt := in_ts (List.mem_of_getElem? (i := 34) (by decide +kernel)) rfl
theorem ms_35 : Cond.selects RX12 yX12_requireUnfinished yX12_requireUnfinished ∈ bt := in_ts (List.mem_of_getElem? (i := 35) (by decide +kernel)) rfl
