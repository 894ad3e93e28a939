/-! the good words of the tables, and each of them by name -/
noncomputable def bt : List Cond := lw_tbl.filter goodWord
theorem in_bt {w : Cond} (h : w ∈ lw_tbl) (g : goodWord w = true) : w ∈ bt := List.mem_filter.mpr ⟨h, g⟩
theorem in_t {w : Cond} (h : w ∈ tables_1) : w ∈ lw_tbl := List.mem_append_right _ h
theorem in_t1 {w : Cond} (h : w ∈ tables_1_1) (g : goodWord w = true) : w ∈ bt := in_bt (in_t (List.mem_append_left _ h)) g
theorem in_t2 {w : Cond} (h : w ∈ tables_1_2) (g : goodWord w = true) : w ∈ bt := in_bt (in_t (List.mem_append_right _ (List.mem_append_left _ h))) g
theorem in_t3 {w : Cond} (h : w ∈ tables_1_3) (g : goodWord w = true) : w ∈ bt := in_bt (in_t (List.mem_append_right _ (List.mem_append_right _ (List.mem_append_left _ h)))) g
theorem in_t4 {w : Cond} (h : w ∈ tables_1_4) (g : goodWord w = true) : w ∈ bt := in_bt (in_t (List.mem_append_right _ (List.mem_append_right _ (List.mem_append_right _ (List.mem_append_left _ h))))) g
theorem in_t5 {w : Cond} (h : w ∈ tables_1_5) (g : goodWord w = true) : w ∈ bt := in_bt (in_t (List.mem_append_right _ (List.mem_append_right _ (List.mem_append_right _ (List.mem_append_right _ (List.mem_append_left _ h)))))) g
theorem in_t6 {w : Cond} (h : w ∈ tables_1_6) (g : goodWord w = true) : w ∈ bt := in_bt (in_t (List.mem_append_right _ (List.mem_append_right _ (List.mem_append_right _ (List.mem_append_right _ (List.mem_append_right _ (List.mem_append_left _ h))))))) g
theorem in_t7 {w : Cond} (h : w ∈ tables_1_7) (g : goodWord w = true) : w ∈ bt := in_bt (in_t (List.mem_append_right _ (List.mem_append_right _ (List.mem_append_right _ (List.mem_append_right _ (List.mem_append_right _ (List.mem_append_right _ (List.mem_append_left _ h)))))))) g
theorem in_t8 {w : Cond} (h : w ∈ tables_1_8) (g : goodWord w = true) : w ∈ bt := in_bt (in_t (List.mem_append_right _ (List.mem_append_right _ (List.mem_append_right _ (List.mem_append_right _ (List.mem_append_right _ (List.mem_append_right _ (List.mem_append_right _ (List.mem_append_left _ h))))))))) g
theorem in_t9 {w : Cond} (h : w ∈ tables_1_9) (g : goodWord w = true) : w ∈ bt := in_bt (in_t (List.mem_append_right _ (List.mem_append_right _ (List.mem_append_right _ (List.mem_append_right _ (List.mem_append_right _ (List.mem_append_right _ (List.mem_append_right _ (List.mem_append_right _ (h)))))))))) g
def isNest : Cond → Bool
  | .fieldLinkNest _ _ _ _ _ _ => true
  | .methodLinkNest _ _ _ _ => true
  | .castable _ _ => true
  | .declares _ => true
  | _ => false
/-- the links between nest mates: they ride in a method's start, not among its words -/
noncomputable def nb : List Cond := lw_tbl.filter isNest
theorem in_nb {w : Cond} (h : w ∈ lw_tbl) (g : isNest w = true) : w ∈ nb := List.mem_filter.mpr ⟨h, g⟩
theorem in_n1 {w : Cond} (h : w ∈ tables_1_1) (g : isNest w = true) : w ∈ nb := in_nb (in_t (List.mem_append_left _ h)) g
theorem in_l1 {w : Cond} (h : w ∈ tables_1_1) : w ∈ lw_tbl := in_t (List.mem_append_left _ h)
theorem in_n2 {w : Cond} (h : w ∈ tables_1_2) (g : isNest w = true) : w ∈ nb := in_nb (in_t (List.mem_append_right _ (List.mem_append_left _ h))) g
theorem in_l2 {w : Cond} (h : w ∈ tables_1_2) : w ∈ lw_tbl := in_t (List.mem_append_right _ (List.mem_append_left _ h))
theorem in_n3 {w : Cond} (h : w ∈ tables_1_3) (g : isNest w = true) : w ∈ nb := in_nb (in_t (List.mem_append_right _ (List.mem_append_right _ (List.mem_append_left _ h)))) g
theorem in_l3 {w : Cond} (h : w ∈ tables_1_3) : w ∈ lw_tbl := in_t (List.mem_append_right _ (List.mem_append_right _ (List.mem_append_left _ h)))
theorem in_n4 {w : Cond} (h : w ∈ tables_1_4) (g : isNest w = true) : w ∈ nb := in_nb (in_t (List.mem_append_right _ (List.mem_append_right _ (List.mem_append_right _ (List.mem_append_left _ h))))) g
theorem in_l4 {w : Cond} (h : w ∈ tables_1_4) : w ∈ lw_tbl := in_t (List.mem_append_right _ (List.mem_append_right _ (List.mem_append_right _ (List.mem_append_left _ h))))
theorem in_n5 {w : Cond} (h : w ∈ tables_1_5) (g : isNest w = true) : w ∈ nb := in_nb (in_t (List.mem_append_right _ (List.mem_append_right _ (List.mem_append_right _ (List.mem_append_right _ (List.mem_append_left _ h)))))) g
theorem in_l5 {w : Cond} (h : w ∈ tables_1_5) : w ∈ lw_tbl := in_t (List.mem_append_right _ (List.mem_append_right _ (List.mem_append_right _ (List.mem_append_right _ (List.mem_append_left _ h)))))
theorem in_n6 {w : Cond} (h : w ∈ tables_1_6) (g : isNest w = true) : w ∈ nb := in_nb (in_t (List.mem_append_right _ (List.mem_append_right _ (List.mem_append_right _ (List.mem_append_right _ (List.mem_append_right _ (List.mem_append_left _ h))))))) g
theorem in_l6 {w : Cond} (h : w ∈ tables_1_6) : w ∈ lw_tbl := in_t (List.mem_append_right _ (List.mem_append_right _ (List.mem_append_right _ (List.mem_append_right _ (List.mem_append_right _ (List.mem_append_left _ h))))))
theorem in_n7 {w : Cond} (h : w ∈ tables_1_7) (g : isNest w = true) : w ∈ nb := in_nb (in_t (List.mem_append_right _ (List.mem_append_right _ (List.mem_append_right _ (List.mem_append_right _ (List.mem_append_right _ (List.mem_append_right _ (List.mem_append_left _ h)))))))) g
theorem in_l7 {w : Cond} (h : w ∈ tables_1_7) : w ∈ lw_tbl := in_t (List.mem_append_right _ (List.mem_append_right _ (List.mem_append_right _ (List.mem_append_right _ (List.mem_append_right _ (List.mem_append_right _ (List.mem_append_left _ h)))))))
theorem in_n8 {w : Cond} (h : w ∈ tables_1_8) (g : isNest w = true) : w ∈ nb := in_nb (in_t (List.mem_append_right _ (List.mem_append_right _ (List.mem_append_right _ (List.mem_append_right _ (List.mem_append_right _ (List.mem_append_right _ (List.mem_append_right _ (List.mem_append_left _ h))))))))) g
theorem in_l8 {w : Cond} (h : w ∈ tables_1_8) : w ∈ lw_tbl := in_t (List.mem_append_right _ (List.mem_append_right _ (List.mem_append_right _ (List.mem_append_right _ (List.mem_append_right _ (List.mem_append_right _ (List.mem_append_right _ (List.mem_append_left _ h))))))))
theorem in_n9 {w : Cond} (h : w ∈ tables_1_9) (g : isNest w = true) : w ∈ nb := in_nb (in_t (List.mem_append_right _ (List.mem_append_right _ (List.mem_append_right _ (List.mem_append_right _ (List.mem_append_right _ (List.mem_append_right _ (List.mem_append_right _ (List.mem_append_right _ (h)))))))))) g
theorem in_l9 {w : Cond} (h : w ∈ tables_1_9) : w ∈ lw_tbl := in_t (List.mem_append_right _ (List.mem_append_right _ (List.mem_append_right _ (List.mem_append_right _ (List.mem_append_right _ (List.mem_append_right _ (List.mem_append_right _ (List.mem_append_right _ (h)))))))))
theorem in_ts {w : Cond} (h : w ∈ k2_sels lw_privs) (g : goodWord w = true) : w ∈ bt := in_bt (List.mem_append_left _ h) g
theorem m1_0 : Cond.initialized RL ∈ bt := in_t1 (List.mem_of_getElem? (i := 0) (by decide +kernel)) rfl
theorem m1_1 : Cond.initialized RX12 ∈ bt := in_t1 (List.mem_of_getElem? (i := 1) (by decide +kernel)) rfl
theorem m1_2 : Cond.initialized RX9 ∈ bt := in_t1 (List.mem_of_getElem? (i := 2) (by decide +kernel)) rfl
theorem m1_3 : Cond.initialized RX2 ∈ bt := in_t1 (List.mem_of_getElem? (i := 3) (by decide +kernel)) rfl
theorem m1_4 : Cond.initialized RX4 ∈ bt := in_t1 (List.mem_of_getElem? (i := 4) (by decide +kernel)) rfl
theorem m1_5 : Cond.initialized RJ9 ∈ bt := in_t1 (List.mem_of_getElem? (i := 5) (by decide +kernel)) rfl
theorem m1_6 : Cond.initialized RX3 ∈ bt := in_t1 (List.mem_of_getElem? (i := 6) (by decide +kernel)) rfl
theorem m1_7 : Cond.initialized RJ7 ∈ bt := in_t1 (List.mem_of_getElem? (i := 7) (by decide +kernel)) rfl
theorem m1_8 : Cond.initialized RX5 ∈ bt := in_t1 (List.mem_of_getElem? (i := 8) (by decide +kernel)) rfl
theorem m1_9 : Cond.initialized RX8 ∈ bt := in_t1 (List.mem_of_getElem? (i := 9) (by decide +kernel)) rfl
theorem m1_10 : Cond.initialized RJx29ce0 ∈ bt := in_t1 (List.mem_of_getElem? (i := 10) (by decide +kernel)) rfl
theorem m1_11 : Cond.initialized RX11 ∈ bt := in_t1 (List.mem_of_getElem? (i := 11) (by decide +kernel)) rfl
theorem m1_12 : Cond.initialized RX10 ∈ bt := in_t1 (List.mem_of_getElem? (i := 12) (by decide +kernel)) rfl
theorem m1_13 : Cond.initialized RX7 ∈ bt := in_t1 (List.mem_of_getElem? (i := 13) (by decide +kernel)) rfl
theorem m1_14 : Cond.initialized RX6 ∈ bt := in_t1 (List.mem_of_getElem? (i := 14) (by decide +kernel)) rfl
theorem m1_15 : Cond.initialized RX1 ∈ bt := in_t1 (List.mem_of_getElem? (i := 15) (by decide +kernel)) rfl
theorem m1_16 : Cond.initialized RX13 ∈ bt := in_t1 (List.mem_of_getElem? (i := 16) (by decide +kernel)) rfl
theorem m1_17 : Cond.initialized RX0 ∈ bt := in_t1 (List.mem_of_getElem? (i := 17) (by decide +kernel)) rfl
theorem m1_18 : Cond.initialized RJ10 ∈ bt := in_t1 (List.mem_of_getElem? (i := 18) (by decide +kernel)) rfl
theorem m1_19 : Cond.initialized RJ0 ∈ bt := in_t1 (List.mem_of_getElem? (i := 19) (by decide +kernel)) rfl
theorem m1_20 : Cond.initialized RJ1 ∈ bt := in_t1 (List.mem_of_getElem? (i := 20) (by decide +kernel)) rfl
theorem m1_21 : Cond.initialized RJ3 ∈ bt := in_t1 (List.mem_of_getElem? (i := 21) (by decide +kernel)) rfl
theorem m1_22 : Cond.initialized RJ2 ∈ bt := in_t1 (List.mem_of_getElem? (i := 22) (by decide +kernel)) rfl
theorem m1_23 : Cond.initialized RJ6 ∈ bt := in_t1 (List.mem_of_getElem? (i := 23) (by decide +kernel)) rfl
theorem m1_24 : Cond.initialized "java/lang/Throwable" ∈ bt := in_t1 (List.mem_of_getElem? (i := 24) (by decide +kernel)) rfl
theorem m1_25 : Cond.initialized "java/lang/Exception" ∈ bt := in_t1 (List.mem_of_getElem? (i := 25) (by decide +kernel)) rfl
theorem m1_26 : Cond.initialized "java/lang/RuntimeException" ∈ bt := in_t1 (List.mem_of_getElem? (i := 26) (by decide +kernel)) rfl
theorem m1_27 : Cond.initialized "java/lang/IllegalArgumentException" ∈ bt := in_t1 (List.mem_of_getElem? (i := 27) (by decide +kernel)) rfl
theorem m1_28 : Cond.initialized "java/lang/IndexOutOfBoundsException" ∈ bt := in_t1 (List.mem_of_getElem? (i := 28) (by decide +kernel)) rfl
theorem m1_29 : Cond.initialized "java/lang/IllegalStateException" ∈ bt := in_t1 (List.mem_of_getElem? (i := 29) (by decide +kernel)) rfl
theorem m1_30 : Cond.initialized "java/util/NoSuchElementException" ∈ bt := in_t1 (List.mem_of_getElem? (i := 30) (by decide +kernel)) rfl
theorem m1_31 : Cond.classLink RL 8 RX12 ∈ bt := in_t1 (List.mem_of_getElem? (i := 31) (by decide +kernel)) rfl
theorem m1_32 : Cond.instantiable RX12 16 ∈ bt := in_t1 (List.mem_of_getElem? (i := 32) (by decide +kernel)) rfl
theorem m1_33 : Cond.methodLink RL 115 yX12_init ∈ bt := in_t1 (List.mem_of_getElem? (i := 33) (by decide +kernel)) rfl
theorem m1_34 : Cond.instanceMethod yX12_init ∈ bt := in_t1 (List.mem_of_getElem? (i := 34) (by decide +kernel)) rfl
theorem m1_35 : Cond.code yX12_init cX12_init 3 (Option.none : Option Jvm.ClassFile.FieldType) ∈ bt := in_t1 (List.mem_of_getElem? (i := 35) (by decide +kernel)) rfl
theorem m1_36 : Cond.methodLink RX12 3 ({ cls := "java/lang/Object", name := "<init>", desc := "()V" } : Jvm.MethodName) ∈ bt := in_t1 (List.mem_of_getElem? (i := 36) (by decide +kernel)) rfl
theorem m1_37 : Cond.instanceMethod ({ cls := "java/lang/Object", name := "<init>", desc := "()V" } : Jvm.MethodName) ∈ bt := in_t1 (List.mem_of_getElem? (i := 37) (by decide +kernel)) rfl
theorem m1_38 : Cond.code ({ cls := "java/lang/Object", name := "<init>", desc := "()V" } : Jvm.MethodName) object_method_1_code 1 (Option.none : Option Jvm.ClassFile.FieldType) ∈ bt := in_t1 (List.mem_of_getElem? (i := 38) (by decide +kernel)) rfl
theorem m1_39 : Cond.classLink RX12 9 RX9 ∈ bt := in_t1 (List.mem_of_getElem? (i := 39) (by decide +kernel)) rfl
theorem m1_40 : Cond.instantiable RX9 15 ∈ bt := in_t1 (List.mem_of_getElem? (i := 40) (by decide +kernel)) rfl
theorem m1_41 : Cond.methodLink RX12 11 yX9_init ∈ bt := in_t1 (List.mem_of_getElem? (i := 41) (by decide +kernel)) rfl
theorem m1_42 : Cond.instanceMethod yX9_init ∈ bt := in_t1 (List.mem_of_getElem? (i := 42) (by decide +kernel)) rfl
theorem m1_43 : Cond.code yX9_init cX9_init 2 (Option.none : Option Jvm.ClassFile.FieldType) ∈ bt := in_t1 (List.mem_of_getElem? (i := 43) (by decide +kernel)) rfl
theorem m1_44 : Cond.methodLink RX9 3 ({ cls := "java/lang/Object", name := "<init>", desc := "()V" } : Jvm.MethodName) ∈ bt := in_t1 (List.mem_of_getElem? (i := 44) (by decide +kernel)) rfl
theorem m1_45 : Cond.classLink RX9 9 RX4 ∈ bt := in_t1 (List.mem_of_getElem? (i := 45) (by decide +kernel)) rfl
theorem m1_46 : Cond.arrayOver (Jvm.ClassFile.FieldType.object RX4) ∈ lw_tbl := in_l1 (List.mem_of_getElem? (i := 46) (by decide +kernel))
theorem m1_47 : Cond.classLink RX9 42 RX3 ∈ bt := in_t1 (List.mem_of_getElem? (i := 47) (by decide +kernel)) rfl
theorem m1_48 : Cond.arrayOver (Jvm.ClassFile.FieldType.object RX3) ∈ lw_tbl := in_l1 (List.mem_of_getElem? (i := 48) (by decide +kernel))
theorem m1_49 : Cond.classLink RX9 48 RX2 ∈ bt := in_t1 (List.mem_of_getElem? (i := 49) (by decide +kernel)) rfl
theorem m1_50 : Cond.instantiable RX2 2 ∈ bt := in_t1 (List.mem_of_getElem? (i := 50) (by decide +kernel)) rfl
theorem m1_51 : Cond.methodLinkNest RX9 50 yX2_init RX12 ∈ nb := in_n1 (List.mem_of_getElem? (i := 51) (by decide +kernel)) rfl
theorem m1_52 : Cond.instanceMethod yX2_init ∈ bt := in_t1 (List.mem_of_getElem? (i := 52) (by decide +kernel)) rfl
theorem m1_53 : Cond.code yX2_init cX2_init 1 (Option.none : Option Jvm.ClassFile.FieldType) ∈ bt := in_t1 (List.mem_of_getElem? (i := 53) (by decide +kernel)) rfl
theorem m1_54 : Cond.methodLink RX2 3 ({ cls := "java/lang/Object", name := "<init>", desc := "()V" } : Jvm.MethodName) ∈ bt := in_t1 (List.mem_of_getElem? (i := 54) (by decide +kernel)) rfl
theorem m1_55 : Cond.fieldLink RX2 9 RX2 "bits" "[I" ∈ bt := in_t1 (List.mem_of_getElem? (i := 55) (by decide +kernel)) rfl
theorem m1_56 : Cond.fieldLink RX2 19 RX2 "size" "I" ∈ bt := in_t1 (List.mem_of_getElem? (i := 56) (by decide +kernel)) rfl
theorem m1_57 : Cond.fieldLinkNest RX5 107 RX2 "size" "I" RX12 ∈ nb := in_n1 (List.mem_of_getElem? (i := 57) (by decide +kernel)) rfl
theorem m1_58 : Cond.fieldLinkNest RX12 113 RX2 "size" "I" RX12 ∈ nb := in_n1 (List.mem_of_getElem? (i := 58) (by decide +kernel)) rfl
theorem m1_59 : Cond.laysFinal RX2 RX2 "bits" "[I" ∈ bt := in_t1 (List.mem_of_getElem? (i := 59) (by decide +kernel)) rfl
theorem m1_61 : Cond.lays RX2 RX2 "size" "I" ∈ bt := in_t1 (List.mem_of_getElem? (i := 61) (by decide +kernel)) rfl
theorem m1_64 : Cond.arrayClass Jvm.ClassFile.FieldType.int ∈ bt := in_t1 (List.mem_of_getElem? (i := 64) (by decide +kernel)) rfl
theorem m1_65 : Cond.instantiable RX4 2 ∈ bt := in_t1 (List.mem_of_getElem? (i := 65) (by decide +kernel)) rfl
theorem m1_66 : Cond.methodLink RX9 58 yX4_init ∈ bt := in_t1 (List.mem_of_getElem? (i := 66) (by decide +kernel)) rfl
theorem m1_67 : Cond.instanceMethod yX4_init ∈ bt := in_t1 (List.mem_of_getElem? (i := 67) (by decide +kernel)) rfl
theorem m1_68 : Cond.code yX4_init cX4_init 2 (Option.none : Option Jvm.ClassFile.FieldType) ∈ bt := in_t1 (List.mem_of_getElem? (i := 68) (by decide +kernel)) rfl
theorem m1_69 : Cond.methodLink RX4 3 ({ cls := "java/lang/Object", name := "<init>", desc := "()V" } : Jvm.MethodName) ∈ bt := in_t1 (List.mem_of_getElem? (i := 69) (by decide +kernel)) rfl
theorem m1_70 : Cond.methodLink RX4 9 yJ9_max_7cf53 ∈ bt := in_t1 (List.mem_of_getElem? (i := 70) (by decide +kernel)) rfl
theorem m1_71 : Cond.static yJ9_max_7cf53 ∈ bt := in_t1 (List.mem_of_getElem? (i := 71) (by decide +kernel)) rfl
theorem m1_72 : Cond.code yJ9_max_7cf53 cJ9_max_7cf53 2 (Option.some Jvm.ClassFile.FieldType.int) ∈ bt := in_t1 (List.mem_of_getElem? (i := 72) (by decide +kernel)) rfl
theorem m1_73 : Cond.fieldLink RX4 15 RX4 "packed" "[J" ∈ bt := in_t1 (List.mem_of_getElem? (i := 73) (by decide +kernel)) rfl
theorem m1_74 : Cond.fieldLink RX4 21 RX4 "size" "I" ∈ bt := in_t1 (List.mem_of_getElem? (i := 74) (by decide +kernel)) rfl
theorem m1_75 : Cond.fieldLinkNest RX9 65 RX4 "size" "I" RX12 ∈ nb := in_n1 (List.mem_of_getElem? (i := 75) (by decide +kernel)) rfl
theorem m1_76 : Cond.laysFinal RX4 RX4 "packed" "[J" ∈ bt := in_t1 (List.mem_of_getElem? (i := 76) (by decide +kernel)) rfl
theorem m1_78 : Cond.lays RX4 RX4 "size" "I" ∈ bt := in_t1 (List.mem_of_getElem? (i := 78) (by decide +kernel)) rfl
theorem m1_81 : Cond.arrayClass Jvm.ClassFile.FieldType.long ∈ bt := in_t1 (List.mem_of_getElem? (i := 81) (by decide +kernel)) rfl
theorem m1_82 : Cond.instantiable RX3 7 ∈ bt := in_t1 (List.mem_of_getElem? (i := 82) (by decide +kernel)) rfl
theorem m1_83 : Cond.methodLinkNest RX9 61 yX3_init RX12 ∈ nb := in_n1 (List.mem_of_getElem? (i := 83) (by decide +kernel)) rfl
theorem m1_84 : Cond.instanceMethod yX3_init ∈ bt := in_t1 (List.mem_of_getElem? (i := 84) (by decide +kernel)) rfl
theorem m1_85 : Cond.code yX3_init cX3_init 1 (Option.none : Option Jvm.ClassFile.FieldType) ∈ bt := in_t1 (List.mem_of_getElem? (i := 85) (by decide +kernel)) rfl
theorem m1_86 : Cond.methodLink RX3 1 ({ cls := "java/lang/Object", name := "<init>", desc := "()V" } : Jvm.MethodName) ∈ bt := in_t1 (List.mem_of_getElem? (i := 86) (by decide +kernel)) rfl
theorem m1_87 : Cond.fieldLink RX3 7 RX3 "filed" "I" ∈ bt := in_t1 (List.mem_of_getElem? (i := 87) (by decide +kernel)) rfl
theorem m1_88 : Cond.fieldLinkNest RX6 40 RX3 "filed" "I" RX12 ∈ nb := in_n1 (List.mem_of_getElem? (i := 88) (by decide +kernel)) rfl
theorem m1_89 : Cond.fieldLinkNest RX10 81 RX3 "filed" "I" RX12 ∈ nb := in_n1 (List.mem_of_getElem? (i := 89) (by decide +kernel)) rfl
theorem m1_90 : Cond.fieldLinkNest RX5 189 RX3 "filed" "I" RX12 ∈ nb := in_n1 (List.mem_of_getElem? (i := 90) (by decide +kernel)) rfl
theorem m1_91 : Cond.fieldLinkNest RX12 217 RX3 "filed" "I" RX12 ∈ nb := in_n1 (List.mem_of_getElem? (i := 91) (by decide +kernel)) rfl
theorem m1_92 : Cond.fieldLink RX3 13 RX3 "slots" "I" ∈ bt := in_t1 (List.mem_of_getElem? (i := 92) (by decide +kernel)) rfl
theorem m1_93 : Cond.fieldLinkNest RX6 61 RX3 "slots" "I" RX12 ∈ nb := in_n1 (List.mem_of_getElem? (i := 93) (by decide +kernel)) rfl
theorem m1_94 : Cond.fieldLinkNest RX5 194 RX3 "slots" "I" RX12 ∈ nb := in_n1 (List.mem_of_getElem? (i := 94) (by decide +kernel)) rfl
theorem m1_95 : Cond.fieldLinkNest RX10 113 RX3 "slots" "I" RX12 ∈ nb := in_n1 (List.mem_of_getElem? (i := 95) (by decide +kernel)) rfl
theorem m1_96 : Cond.fieldLinkNest RX12 222 RX3 "slots" "I" RX12 ∈ nb := in_n1 (List.mem_of_getElem? (i := 96) (by decide +kernel)) rfl
theorem m1_97 : Cond.fieldLink RX3 16 RX3 "limit" "I" ∈ bt := in_t1 (List.mem_of_getElem? (i := 97) (by decide +kernel)) rfl
theorem m1_98 : Cond.fieldLinkNest RX10 75 RX3 "limit" "I" RX12 ∈ nb := in_n1 (List.mem_of_getElem? (i := 98) (by decide +kernel)) rfl
theorem m1_99 : Cond.fieldLinkNest RX5 200 RX3 "limit" "I" RX12 ∈ nb := in_n1 (List.mem_of_getElem? (i := 99) (by decide +kernel)) rfl
theorem m1_100 : Cond.fieldLinkNest RX12 225 RX3 "limit" "I" RX12 ∈ nb := in_n1 (List.mem_of_getElem? (i := 100) (by decide +kernel)) rfl
theorem m1_101 : Cond.fieldLink RX3 19 RX3 "custody" "Z" ∈ bt := in_t1 (List.mem_of_getElem? (i := 101) (by decide +kernel)) rfl
theorem m1_102 : Cond.fieldLinkNest RX5 206 RX3 "custody" "Z" RX12 ∈ nb := in_n1 (List.mem_of_getElem? (i := 102) (by decide +kernel)) rfl
theorem m1_103 : Cond.fieldLinkNest RX10 151 RX3 "custody" "Z" RX12 ∈ nb := in_n1 (List.mem_of_getElem? (i := 103) (by decide +kernel)) rfl
theorem m1_104 : Cond.fieldLinkNest RX12 239 RX3 "custody" "Z" RX12 ∈ nb := in_n1 (List.mem_of_getElem? (i := 104) (by decide +kernel)) rfl
theorem m1_105 : Cond.fieldLink RX3 23 RX3 "needs" "I" ∈ bt := in_t1 (List.mem_of_getElem? (i := 105) (by decide +kernel)) rfl
theorem m1_106 : Cond.fieldLinkNest RX10 103 RX3 "needs" "I" RX12 ∈ nb := in_n1 (List.mem_of_getElem? (i := 106) (by decide +kernel)) rfl
theorem m1_107 : Cond.fieldLinkNest RX5 220 RX3 "needs" "I" RX12 ∈ nb := in_n1 (List.mem_of_getElem? (i := 107) (by decide +kernel)) rfl
theorem m1_108 : Cond.fieldLinkNest RX6 153 RX3 "needs" "I" RX12 ∈ nb := in_n1 (List.mem_of_getElem? (i := 108) (by decide +kernel)) rfl
theorem m1_109 : Cond.fieldLinkNest RX12 245 RX3 "needs" "I" RX12 ∈ nb := in_n1 (List.mem_of_getElem? (i := 109) (by decide +kernel)) rfl
theorem m1_110 : Cond.fieldLink RX3 26 RX3 "conflicts" "I" ∈ bt := in_t1 (List.mem_of_getElem? (i := 110) (by decide +kernel)) rfl
theorem m1_111 : Cond.fieldLinkNest RX1 61 RX3 "conflicts" "I" RX12 ∈ nb := in_n1 (List.mem_of_getElem? (i := 111) (by decide +kernel)) rfl
theorem m1_112 : Cond.fieldLinkNest RX9 94 RX3 "conflicts" "I" RX12 ∈ nb := in_n1 (List.mem_of_getElem? (i := 112) (by decide +kernel)) rfl
theorem m1_113 : Cond.fieldLinkNest RX5 229 RX3 "conflicts" "I" RX12 ∈ nb := in_n1 (List.mem_of_getElem? (i := 113) (by decide +kernel)) rfl
theorem m1_114 : Cond.fieldLinkNest RX10 132 RX3 "conflicts" "I" RX12 ∈ nb := in_n1 (List.mem_of_getElem? (i := 114) (by decide +kernel)) rfl
theorem m1_115 : Cond.fieldLinkNest RX12 253 RX3 "conflicts" "I" RX12 ∈ nb := in_n1 (List.mem_of_getElem? (i := 115) (by decide +kernel)) rfl
theorem m1_116 : Cond.fieldLink RX3 29 RX3 "bars" "I" ∈ bt := in_t1 (List.mem_of_getElem? (i := 116) (by decide +kernel)) rfl
theorem m1_117 : Cond.fieldLinkNest RX10 61 RX3 "bars" "I" RX12 ∈ nb := in_n1 (List.mem_of_getElem? (i := 117) (by decide +kernel)) rfl
theorem m1_118 : Cond.fieldLinkNest RX5 226 RX3 "bars" "I" RX12 ∈ nb := in_n1 (List.mem_of_getElem? (i := 118) (by decide +kernel)) rfl
theorem m1_119 : Cond.lays RX3 RX3 "filed" "I" ∈ bt := in_t1 (List.mem_of_getElem? (i := 119) (by decide +kernel)) rfl
theorem m1_121 : Cond.lays RX3 RX3 "slots" "I" ∈ bt := in_t1 (List.mem_of_getElem? (i := 121) (by decide +kernel)) rfl
theorem m1_123 : Cond.lays RX3 RX3 "limit" "I" ∈ bt := in_t1 (List.mem_of_getElem? (i := 123) (by decide +kernel)) rfl
theorem m1_125 : Cond.lays RX3 RX3 "custody" "Z" ∈ bt := in_t1 (List.mem_of_getElem? (i := 125) (by decide +kernel)) rfl
theorem m1_127 : Cond.lays RX3 RX3 "needs" "I" ∈ bt := in_t1 (List.mem_of_getElem? (i := 127) (by decide +kernel)) rfl
theorem m1_129 : Cond.lays RX3 RX3 "conflicts" "I" ∈ bt := in_t1 (List.mem_of_getElem? (i := 129) (by decide +kernel)) rfl
theorem m1_131 : Cond.lays RX3 RX3 "bars" "I" ∈ bt := in_t1 (List.mem_of_getElem? (i := 131) (by decide +kernel)) rfl
theorem m1_134 : Cond.methodLink RX9 62 yX9_clear ∈ bt := in_t1 (List.mem_of_getElem? (i := 134) (by decide +kernel)) rfl
theorem m1_135 : Cond.instanceMethod yX9_clear ∈ bt := in_t1 (List.mem_of_getElem? (i := 135) (by decide +kernel)) rfl
theorem m1_136 : Cond.selects RX9 yX9_clear yX9_clear ∈ bt := in_t1 (List.mem_of_getElem? (i := 136) (by decide +kernel)) rfl
theorem m1_137 : Cond.code yX9_clear cX9_clear 2 (Option.none : Option Jvm.ClassFile.FieldType) ∈ bt := in_t1 (List.mem_of_getElem? (i := 137) (by decide +kernel)) rfl
theorem m1_138 : Cond.methodLink RX9 69 yX3_clear ∈ bt := in_t1 (List.mem_of_getElem? (i := 138) (by decide +kernel)) rfl
theorem m1_139 : Cond.instanceMethod yX3_clear ∈ bt := in_t1 (List.mem_of_getElem? (i := 139) (by decide +kernel)) rfl
theorem m1_140 : Cond.selects RX3 yX3_clear yX3_clear ∈ bt := in_t1 (List.mem_of_getElem? (i := 140) (by decide +kernel)) rfl
theorem m1_141 : Cond.code yX3_clear cX3_clear 1 (Option.none : Option Jvm.ClassFile.FieldType) ∈ bt := in_t1 (List.mem_of_getElem? (i := 141) (by decide +kernel)) rfl
theorem m1_142 : Cond.methodLink RX9 70 yJ7_fill_53178 ∈ bt := in_t1 (List.mem_of_getElem? (i := 142) (by decide +kernel)) rfl
theorem m1_143 : Cond.static yJ7_fill_53178 ∈ bt := in_t1 (List.mem_of_getElem? (i := 143) (by decide +kernel)) rfl
theorem m1_144 : Cond.code yJ7_fill_53178 cJ7_fill_53178 4 (Option.none : Option Jvm.ClassFile.FieldType) ∈ bt := in_t1 (List.mem_of_getElem? (i := 144) (by decide +kernel)) rfl
theorem m1_145 : Cond.methodLink RX9 76 yX2_clear ∈ bt := in_t1 (List.mem_of_getElem? (i := 145) (by decide +kernel)) rfl
theorem m1_146 : Cond.instanceMethod yX2_clear ∈ bt := in_t1 (List.mem_of_getElem? (i := 146) (by decide +kernel)) rfl
theorem m1_147 : Cond.selects RX2 yX2_clear yX2_clear ∈ bt := in_t1 (List.mem_of_getElem? (i := 147) (by decide +kernel)) rfl
theorem m1_148 : Cond.code yX2_clear cX2_clear 1 (Option.none : Option Jvm.ClassFile.FieldType) ∈ bt := in_t1 (List.mem_of_getElem? (i := 148) (by decide +kernel)) rfl
theorem m1_149 : Cond.methodLink RX2 23 yJ7_fill_53178 ∈ bt := in_t1 (List.mem_of_getElem? (i := 149) (by decide +kernel)) rfl
theorem m1_150 : Cond.fieldLink RX9 11 RX9 "names" "[LCourtCalendar$Names;" ∈ bt := in_t1 (List.mem_of_getElem? (i := 150) (by decide +kernel)) rfl
theorem m1_151 : Cond.fieldLinkNest RX12 140 RX9 "names" "[LCourtCalendar$Names;" RX12 ∈ nb := in_n1 (List.mem_of_getElem? (i := 151) (by decide +kernel)) rfl
theorem m1_152 : Cond.fieldLinkNest RX5 244 RX9 "names" "[LCourtCalendar$Names;" RX12 ∈ nb := in_n1 (List.mem_of_getElem? (i := 152) (by decide +kernel)) rfl
theorem m1_153 : Cond.fieldLink RX9 17 RX9 "roomSlots" "[I" ∈ bt := in_t1 (List.mem_of_getElem? (i := 153) (by decide +kernel)) rfl
theorem m1_154 : Cond.fieldLinkNest RX6 68 RX9 "roomSlots" "[I" RX12 ∈ nb := in_n1 (List.mem_of_getElem? (i := 154) (by decide +kernel)) rfl
theorem m1_155 : Cond.fieldLinkNest RX5 138 RX9 "roomSlots" "[I" RX12 ∈ nb := in_n1 (List.mem_of_getElem? (i := 155) (by decide +kernel)) rfl
theorem m1_156 : Cond.fieldLinkNest RX12 316 RX9 "roomSlots" "[I" RX12 ∈ nb := in_n1 (List.mem_of_getElem? (i := 156) (by decide +kernel)) rfl
theorem m1_157 : Cond.fieldLink RX9 21 RX9 "offs" "[I" ∈ bt := in_t1 (List.mem_of_getElem? (i := 157) (by decide +kernel)) rfl
theorem m1_158 : Cond.fieldLink RX9 24 RX9 "firstOffs" "[I" ∈ bt := in_t1 (List.mem_of_getElem? (i := 158) (by decide +kernel)) rfl
theorem m1_159 : Cond.fieldLink RX9 27 RX9 "lastOffs" "[I" ∈ bt := in_t1 (List.mem_of_getElem? (i := 159) (by decide +kernel)) rfl
theorem m1_160 : Cond.fieldLink RX9 30 RX9 "firstDays" "[I" ∈ bt := in_t1 (List.mem_of_getElem? (i := 160) (by decide +kernel)) rfl
theorem m1_161 : Cond.fieldLinkNest RX5 164 RX9 "firstDays" "[I" RX12 ∈ nb := in_n1 (List.mem_of_getElem? (i := 161) (by decide +kernel)) rfl
theorem m1_162 : Cond.fieldLinkNest RX12 178 RX9 "firstDays" "[I" RX12 ∈ nb := in_n1 (List.mem_of_getElem? (i := 162) (by decide +kernel)) rfl
theorem m1_163 : Cond.fieldLinkNest RX10 135 RX9 "firstDays" "[I" RX12 ∈ nb := in_n1 (List.mem_of_getElem? (i := 163) (by decide +kernel)) rfl
theorem m1_164 : Cond.fieldLink RX9 33 RX9 "lastDays" "[I" ∈ bt := in_t1 (List.mem_of_getElem? (i := 164) (by decide +kernel)) rfl
theorem m1_165 : Cond.fieldLinkNest RX10 50 RX9 "lastDays" "[I" RX12 ∈ nb := in_n1 (List.mem_of_getElem? (i := 165) (by decide +kernel)) rfl
theorem m1_166 : Cond.fieldLinkNest RX5 167 RX9 "lastDays" "[I" RX12 ∈ nb := in_n1 (List.mem_of_getElem? (i := 166) (by decide +kernel)) rfl
theorem m1_167 : Cond.fieldLink RX9 36 RX9 "firstSlots" "[I" ∈ bt := in_t1 (List.mem_of_getElem? (i := 167) (by decide +kernel)) rfl
theorem m1_168 : Cond.fieldLinkNest RX5 170 RX9 "firstSlots" "[I" RX12 ∈ nb := in_n1 (List.mem_of_getElem? (i := 168) (by decide +kernel)) rfl
theorem m1_169 : Cond.fieldLinkNest RX12 184 RX9 "firstSlots" "[I" RX12 ∈ nb := in_n1 (List.mem_of_getElem? (i := 169) (by decide +kernel)) rfl
theorem m1_170 : Cond.fieldLinkNest RX10 138 RX9 "firstSlots" "[I" RX12 ∈ nb := in_n1 (List.mem_of_getElem? (i := 170) (by decide +kernel)) rfl
theorem m1_171 : Cond.fieldLink RX9 39 RX9 "lastSlots" "[I" ∈ bt := in_t1 (List.mem_of_getElem? (i := 171) (by decide +kernel)) rfl
theorem m1_172 : Cond.fieldLinkNest RX5 173 RX9 "lastSlots" "[I" RX12 ∈ nb := in_n1 (List.mem_of_getElem? (i := 172) (by decide +kernel)) rfl
theorem m1_173 : Cond.fieldLinkNest RX12 187 RX9 "lastSlots" "[I" RX12 ∈ nb := in_n1 (List.mem_of_getElem? (i := 173) (by decide +kernel)) rfl
theorem m1_174 : Cond.fieldLinkNest RX10 141 RX9 "lastSlots" "[I" RX12 ∈ nb := in_n1 (List.mem_of_getElem? (i := 174) (by decide +kernel)) rfl
theorem m1_175 : Cond.fieldLink RX9 44 RX9 "matters" "[LCourtCalendar$Matter;" ∈ bt := in_t1 (List.mem_of_getElem? (i := 175) (by decide +kernel)) rfl
theorem m1_176 : Cond.fieldLinkNest RX6 30 RX9 "matters" "[LCourtCalendar$Matter;" RX12 ∈ nb := in_n1 (List.mem_of_getElem? (i := 176) (by decide +kernel)) rfl
theorem m1_177 : Cond.fieldLinkNest RX10 57 RX9 "matters" "[LCourtCalendar$Matter;" RX12 ∈ nb := in_n1 (List.mem_of_getElem? (i := 177) (by decide +kernel)) rfl
theorem m1_178 : Cond.fieldLinkNest RX1 57 RX9 "matters" "[LCourtCalendar$Matter;" RX12 ∈ nb := in_n1 (List.mem_of_getElem? (i := 178) (by decide +kernel)) rfl
theorem m1_179 : Cond.fieldLinkNest RX5 176 RX9 "matters" "[LCourtCalendar$Matter;" RX12 ∈ nb := in_n1 (List.mem_of_getElem? (i := 179) (by decide +kernel)) rfl
theorem m1_180 : Cond.fieldLinkNest RX12 209 RX9 "matters" "[LCourtCalendar$Matter;" RX12 ∈ nb := in_n1 (List.mem_of_getElem? (i := 180) (by decide +kernel)) rfl
theorem m1_181 : Cond.fieldLink RX9 51 RX9 "holidays" "LCourtCalendar$Days;" ∈ bt := in_t1 (List.mem_of_getElem? (i := 181) (by decide +kernel)) rfl
theorem m1_182 : Cond.fieldLinkNest RX10 43 RX9 "holidays" "LCourtCalendar$Days;" RX12 ∈ nb := in_n1 (List.mem_of_getElem? (i := 182) (by decide +kernel)) rfl
theorem m1_183 : Cond.fieldLinkNest RX5 103 RX9 "holidays" "LCourtCalendar$Days;" RX12 ∈ nb := in_n1 (List.mem_of_getElem? (i := 183) (by decide +kernel)) rfl
theorem m1_184 : Cond.fieldLink RX9 55 RX9 "reasonDays" "[I" ∈ bt := in_t1 (List.mem_of_getElem? (i := 184) (by decide +kernel)) rfl
theorem m1_185 : Cond.fieldLinkNest RX12 172 RX9 "reasonDays" "[I" RX12 ∈ nb := in_n1 (List.mem_of_getElem? (i := 185) (by decide +kernel)) rfl
theorem m1_186 : Cond.fieldLinkNest RX5 235 RX9 "reasonDays" "[I" RX12 ∈ nb := in_n1 (List.mem_of_getElem? (i := 186) (by decide +kernel)) rfl
theorem m1_187 : Cond.fieldLinkNest RX10 158 RX9 "reasonDays" "[I" RX12 ∈ nb := in_n1 (List.mem_of_getElem? (i := 187) (by decide +kernel)) rfl
theorem m1_188 : Cond.fieldLink RX9 77 RX9 "toldReasons" "I" ∈ bt := in_t1 (List.mem_of_getElem? (i := 188) (by decide +kernel)) rfl
theorem m1_189 : Cond.fieldLinkNest RX5 232 RX9 "toldReasons" "I" RX12 ∈ nb := in_n1 (List.mem_of_getElem? (i := 189) (by decide +kernel)) rfl
theorem m1_190 : Cond.fieldLink RX9 80 RX9 "cap" "I" ∈ bt := in_t1 (List.mem_of_getElem? (i := 190) (by decide +kernel)) rfl
theorem m1_191 : Cond.fieldLinkNest RX12 127 RX9 "cap" "I" RX12 ∈ nb := in_n1 (List.mem_of_getElem? (i := 191) (by decide +kernel)) rfl
theorem m1_192 : Cond.fieldLinkNest RX5 241 RX9 "cap" "I" RX12 ∈ nb := in_n1 (List.mem_of_getElem? (i := 192) (by decide +kernel)) rfl
theorem m1_193 : Cond.fieldLinkNest RX10 161 RX9 "cap" "I" RX12 ∈ nb := in_n1 (List.mem_of_getElem? (i := 193) (by decide +kernel)) rfl
theorem m1_194 : Cond.fieldLink RX9 83 RX9 "toldCap" "Z" ∈ bt := in_t1 (List.mem_of_getElem? (i := 194) (by decide +kernel)) rfl
theorem m1_195 : Cond.fieldLinkNest RX5 238 RX9 "toldCap" "Z" RX12 ∈ nb := in_n1 (List.mem_of_getElem? (i := 195) (by decide +kernel)) rfl
theorem m1_196 : Cond.laysFinal RX9 RX9 "names" "[LCourtCalendar$Names;" ∈ bt := in_t1 (List.mem_of_getElem? (i := 196) (by decide +kernel)) rfl
theorem m1_198 : Cond.laysFinal RX9 RX9 "roomSlots" "[I" ∈ bt := in_t1 (List.mem_of_getElem? (i := 198) (by decide +kernel)) rfl
theorem m1_200 : Cond.laysFinal RX9 RX9 "offs" "[I" ∈ bt := in_t1 (List.mem_of_getElem? (i := 200) (by decide +kernel)) rfl
theorem m1_202 : Cond.laysFinal RX9 RX9 "firstOffs" "[I" ∈ bt := in_t1 (List.mem_of_getElem? (i := 202) (by decide +kernel)) rfl
theorem m1_204 : Cond.laysFinal RX9 RX9 "lastOffs" "[I" ∈ bt := in_t1 (List.mem_of_getElem? (i := 204) (by decide +kernel)) rfl
theorem m1_206 : Cond.laysFinal RX9 RX9 "firstDays" "[I" ∈ bt := in_t1 (List.mem_of_getElem? (i := 206) (by decide +kernel)) rfl
theorem m1_208 : Cond.laysFinal RX9 RX9 "lastDays" "[I" ∈ bt := in_t1 (List.mem_of_getElem? (i := 208) (by decide +kernel)) rfl
theorem m1_210 : Cond.laysFinal RX9 RX9 "firstSlots" "[I" ∈ bt := in_t1 (List.mem_of_getElem? (i := 210) (by decide +kernel)) rfl
theorem m1_212 : Cond.laysFinal RX9 RX9 "lastSlots" "[I" ∈ bt := in_t1 (List.mem_of_getElem? (i := 212) (by decide +kernel)) rfl
theorem m1_214 : Cond.laysFinal RX9 RX9 "matters" "[LCourtCalendar$Matter;" ∈ bt := in_t1 (List.mem_of_getElem? (i := 214) (by decide +kernel)) rfl
theorem m1_216 : Cond.laysFinal RX9 RX9 "holidays" "LCourtCalendar$Days;" ∈ bt := in_t1 (List.mem_of_getElem? (i := 216) (by decide +kernel)) rfl
theorem m1_218 : Cond.laysFinal RX9 RX9 "reasonDays" "[I" ∈ bt := in_t1 (List.mem_of_getElem? (i := 218) (by decide +kernel)) rfl
theorem m1_220 : Cond.lays RX9 RX9 "toldReasons" "I" ∈ bt := in_t1 (List.mem_of_getElem? (i := 220) (by decide +kernel)) rfl
theorem m1_222 : Cond.lays RX9 RX9 "cap" "I" ∈ bt := in_t1 (List.mem_of_getElem? (i := 222) (by decide +kernel)) rfl
theorem m1_224 : Cond.lays RX9 RX9 "toldCap" "Z" ∈ bt := in_t1 (List.mem_of_getElem? (i := 224) (by decide +kernel)) rfl
theorem m1_227 : Cond.classLink RX12 16 RX5 ∈ bt := in_t1 (List.mem_of_getElem? (i := 227) (by decide +kernel)) rfl
theorem m1_228 : Cond.instantiable RX5 7 ∈ bt := in_t1 (List.mem_of_getElem? (i := 228) (by decide +kernel)) rfl
theorem m1_229 : Cond.methodLinkNest RX12 18 yX5_init RX12 ∈ nb := in_n1 (List.mem_of_getElem? (i := 229) (by decide +kernel)) rfl
theorem m1_230 : Cond.instanceMethod yX5_init ∈ bt := in_t1 (List.mem_of_getElem? (i := 230) (by decide +kernel)) rfl
theorem m1_231 : Cond.code yX5_init cX5_init 1 (Option.none : Option Jvm.ClassFile.FieldType) ∈ bt := in_t1 (List.mem_of_getElem? (i := 231) (by decide +kernel)) rfl
theorem m1_232 : Cond.methodLink RX5 3 ({ cls := "java/lang/Object", name := "<init>", desc := "()V" } : Jvm.MethodName) ∈ bt := in_t1 (List.mem_of_getElem? (i := 232) (by decide +kernel)) rfl
theorem m1_233 : Cond.classLink RX5 9 RX8 ∈ bt := in_t1 (List.mem_of_getElem? (i := 233) (by decide +kernel)) rfl
theorem m1_234 : Cond.instantiable RX8 7 ∈ bt := in_t1 (List.mem_of_getElem? (i := 234) (by decide +kernel)) rfl
theorem m1_235 : Cond.methodLinkNest RX5 11 yX8_init RX12 ∈ nb := in_n1 (List.mem_of_getElem? (i := 235) (by decide +kernel)) rfl
theorem m1_236 : Cond.instanceMethod yX8_init ∈ bt := in_t1 (List.mem_of_getElem? (i := 236) (by decide +kernel)) rfl
theorem m1_237 : Cond.code yX8_init cX8_init 1 (Option.none : Option Jvm.ClassFile.FieldType) ∈ bt := in_t1 (List.mem_of_getElem? (i := 237) (by decide +kernel)) rfl
theorem m1_238 : Cond.methodLink RX8 3 ({ cls := "java/lang/Object", name := "<init>", desc := "()V" } : Jvm.MethodName) ∈ bt := in_t1 (List.mem_of_getElem? (i := 238) (by decide +kernel)) rfl
theorem m1_239 : Cond.fieldLink RX8 15 RX11 "END" "LCourtCalendar$Token;" ∈ bt := in_t1 (List.mem_of_getElem? (i := 239) (by decide +kernel)) rfl
theorem m2_0 : Cond.laysStatic RX11 "END" "LCourtCalendar$Token;" ∈ lw_tbl := in_l2 (List.mem_of_getElem? (i := 0) (by decide +kernel))
theorem m2_1 : Cond.fieldLink RX8 9 RX8 "text" "[B" ∈ bt := in_t2 (List.mem_of_getElem? (i := 1) (by decide +kernel)) rfl
theorem m2_2 : Cond.fieldLink RX8 30 RX8 "length" "I" ∈ bt := in_t2 (List.mem_of_getElem? (i := 2) (by decide +kernel)) rfl
theorem m2_3 : Cond.fieldLink RX8 40 RX8 "start" "I" ∈ bt := in_t2 (List.mem_of_getElem? (i := 3) (by decide +kernel)) rfl
theorem m2_4 : Cond.fieldLinkNest RX5 59 RX8 "start" "I" RX12 ∈ nb := in_n2 (List.mem_of_getElem? (i := 4) (by decide +kernel)) rfl
theorem m2_5 : Cond.fieldLink RX8 34 RX8 "end" "I" ∈ bt := in_t2 (List.mem_of_getElem? (i := 5) (by decide +kernel)) rfl
theorem m2_6 : Cond.fieldLink RX8 21 RX8 "token" "LCourtCalendar$Token;" ∈ bt := in_t2 (List.mem_of_getElem? (i := 6) (by decide +kernel)) rfl
theorem m2_7 : Cond.fieldLinkNest RX5 39 RX8 "token" "LCourtCalendar$Token;" RX12 ∈ nb := in_n2 (List.mem_of_getElem? (i := 7) (by decide +kernel)) rfl
theorem m2_8 : Cond.fieldLink RX8 43 RX8 "word" "J" ∈ bt := in_t2 (List.mem_of_getElem? (i := 8) (by decide +kernel)) rfl
theorem m2_9 : Cond.fieldLinkNest RX5 256 RX8 "word" "J" RX12 ∈ nb := in_n2 (List.mem_of_getElem? (i := 9) (by decide +kernel)) rfl
theorem m2_10 : Cond.fieldLink RX8 47 RX8 "number" "I" ∈ bt := in_t2 (List.mem_of_getElem? (i := 10) (by decide +kernel)) rfl
theorem m2_11 : Cond.fieldLinkNest RX5 119 RX8 "number" "I" RX12 ∈ nb := in_n2 (List.mem_of_getElem? (i := 11) (by decide +kernel)) rfl
theorem m2_12 : Cond.lays RX8 RX8 "text" "[B" ∈ bt := in_t2 (List.mem_of_getElem? (i := 12) (by decide +kernel)) rfl
theorem m2_14 : Cond.lays RX8 RX8 "length" "I" ∈ bt := in_t2 (List.mem_of_getElem? (i := 14) (by decide +kernel)) rfl
theorem m2_16 : Cond.lays RX8 RX8 "start" "I" ∈ bt := in_t2 (List.mem_of_getElem? (i := 16) (by decide +kernel)) rfl
theorem m2_18 : Cond.lays RX8 RX8 "end" "I" ∈ bt := in_t2 (List.mem_of_getElem? (i := 18) (by decide +kernel)) rfl
theorem m2_20 : Cond.lays RX8 RX8 "token" "LCourtCalendar$Token;" ∈ bt := in_t2 (List.mem_of_getElem? (i := 20) (by decide +kernel)) rfl
theorem m2_22 : Cond.lays RX8 RX8 "word" "J" ∈ bt := in_t2 (List.mem_of_getElem? (i := 22) (by decide +kernel)) rfl
theorem m2_24 : Cond.lays RX8 RX8 "number" "I" ∈ bt := in_t2 (List.mem_of_getElem? (i := 24) (by decide +kernel)) rfl
theorem m2_27 : Cond.arrayClass Jvm.ClassFile.FieldType.byte ∈ bt := in_t2 (List.mem_of_getElem? (i := 27) (by decide +kernel)) rfl
theorem m2_28 : Cond.classLink RX5 18 RX9 ∈ bt := in_t2 (List.mem_of_getElem? (i := 28) (by decide +kernel)) rfl
theorem m2_29 : Cond.methodLink RX5 20 yX9_init ∈ bt := in_t2 (List.mem_of_getElem? (i := 29) (by decide +kernel)) rfl
theorem m2_30 : Cond.fieldLink RX5 12 RX5 "scanner" "LCourtCalendar$Scanner;" ∈ bt := in_t2 (List.mem_of_getElem? (i := 30) (by decide +kernel)) rfl
theorem m2_31 : Cond.fieldLink RX5 21 RX5 "setup" "LCourtCalendar$Setup;" ∈ bt := in_t2 (List.mem_of_getElem? (i := 31) (by decide +kernel)) rfl
theorem m2_32 : Cond.fieldLink RX5 29 RX5 "code" "I" ∈ bt := in_t2 (List.mem_of_getElem? (i := 32) (by decide +kernel)) rfl
theorem m2_33 : Cond.fieldLinkNest RX12 81 RX5 "code" "I" RX12 ∈ nb := in_n2 (List.mem_of_getElem? (i := 33) (by decide +kernel)) rfl
theorem m2_34 : Cond.fieldLink RX5 25 RX5 "offset" "I" ∈ bt := in_t2 (List.mem_of_getElem? (i := 34) (by decide +kernel)) rfl
theorem m2_35 : Cond.fieldLinkNest RX12 84 RX5 "offset" "I" RX12 ∈ nb := in_n2 (List.mem_of_getElem? (i := 35) (by decide +kernel)) rfl
theorem m2_36 : Cond.fieldLink RX5 186 RX5 "taken" "I" ∈ bt := in_t2 (List.mem_of_getElem? (i := 36) (by decide +kernel)) rfl
theorem m2_37 : Cond.fieldLink RX5 144 RX5 "first" "I" ∈ bt := in_t2 (List.mem_of_getElem? (i := 37) (by decide +kernel)) rfl
theorem m2_38 : Cond.fieldLink RX5 147 RX5 "last" "I" ∈ bt := in_t2 (List.mem_of_getElem? (i := 38) (by decide +kernel)) rfl
theorem m2_39 : Cond.laysFinal RX5 RX5 "scanner" "LCourtCalendar$Scanner;" ∈ bt := in_t2 (List.mem_of_getElem? (i := 39) (by decide +kernel)) rfl
theorem m2_41 : Cond.lays RX5 RX5 "setup" "LCourtCalendar$Setup;" ∈ bt := in_t2 (List.mem_of_getElem? (i := 41) (by decide +kernel)) rfl
theorem m2_43 : Cond.lays RX5 RX5 "code" "I" ∈ bt := in_t2 (List.mem_of_getElem? (i := 43) (by decide +kernel)) rfl
theorem m2_45 : Cond.lays RX5 RX5 "offset" "I" ∈ bt := in_t2 (List.mem_of_getElem? (i := 45) (by decide +kernel)) rfl
theorem m2_47 : Cond.lays RX5 RX5 "taken" "I" ∈ bt := in_t2 (List.mem_of_getElem? (i := 47) (by decide +kernel)) rfl
theorem m2_49 : Cond.lays RX5 RX5 "first" "I" ∈ bt := in_t2 (List.mem_of_getElem? (i := 49) (by decide +kernel)) rfl
theorem m2_51 : Cond.lays RX5 RX5 "last" "I" ∈ bt := in_t2 (List.mem_of_getElem? (i := 51) (by decide +kernel)) rfl
theorem m2_54 : Cond.classLink RX12 30 RX10 ∈ bt := in_t2 (List.mem_of_getElem? (i := 54) (by decide +kernel)) rfl
theorem m2_55 : Cond.instantiable RX10 6 ∈ bt := in_t2 (List.mem_of_getElem? (i := 55) (by decide +kernel)) rfl
theorem m2_56 : Cond.methodLink RX12 32 yX10_init ∈ bt := in_t2 (List.mem_of_getElem? (i := 56) (by decide +kernel)) rfl
theorem m2_57 : Cond.instanceMethod yX10_init ∈ bt := in_t2 (List.mem_of_getElem? (i := 57) (by decide +kernel)) rfl
theorem m2_58 : Cond.code yX10_init cX10_init 3 (Option.none : Option Jvm.ClassFile.FieldType) ∈ bt := in_t2 (List.mem_of_getElem? (i := 58) (by decide +kernel)) rfl
theorem m2_59 : Cond.methodLink RX10 3 ({ cls := "java/lang/Object", name := "<init>", desc := "()V" } : Jvm.MethodName) ∈ bt := in_t2 (List.mem_of_getElem? (i := 59) (by decide +kernel)) rfl
theorem m2_60 : Cond.classLink RX10 9 RX2 ∈ bt := in_t2 (List.mem_of_getElem? (i := 60) (by decide +kernel)) rfl
theorem m2_61 : Cond.methodLinkNest RX10 11 yX2_init RX12 ∈ nb := in_n2 (List.mem_of_getElem? (i := 61) (by decide +kernel)) rfl
theorem m2_62 : Cond.classLink RX10 25 RX7 ∈ bt := in_t2 (List.mem_of_getElem? (i := 62) (by decide +kernel)) rfl
theorem m2_63 : Cond.arrayOver (Jvm.ClassFile.FieldType.object RX7) ∈ lw_tbl := in_l2 (List.mem_of_getElem? (i := 63) (by decide +kernel))
theorem m2_64 : Cond.instantiable RX7 8 ∈ bt := in_t2 (List.mem_of_getElem? (i := 64) (by decide +kernel)) rfl
theorem m2_65 : Cond.methodLinkNest RX10 35 yX7_init RX12 ∈ nb := in_n2 (List.mem_of_getElem? (i := 65) (by decide +kernel)) rfl
theorem m2_66 : Cond.instanceMethod yX7_init ∈ bt := in_t2 (List.mem_of_getElem? (i := 66) (by decide +kernel)) rfl
theorem m2_67 : Cond.code yX7_init cX7_init 1 (Option.none : Option Jvm.ClassFile.FieldType) ∈ bt := in_t2 (List.mem_of_getElem? (i := 67) (by decide +kernel)) rfl
theorem m2_68 : Cond.methodLink RX7 3 ({ cls := "java/lang/Object", name := "<init>", desc := "()V" } : Jvm.MethodName) ∈ bt := in_t2 (List.mem_of_getElem? (i := 68) (by decide +kernel)) rfl
theorem m2_69 : Cond.fieldLink RX7 25 RX7 "phase" "I" ∈ bt := in_t2 (List.mem_of_getElem? (i := 69) (by decide +kernel)) rfl
theorem m2_70 : Cond.fieldLinkNest RX10 95 RX7 "phase" "I" RX12 ∈ nb := in_n2 (List.mem_of_getElem? (i := 70) (by decide +kernel)) rfl
theorem m2_71 : Cond.fieldLinkNest RX12 236 RX7 "phase" "I" RX12 ∈ nb := in_n2 (List.mem_of_getElem? (i := 71) (by decide +kernel)) rfl
theorem m2_72 : Cond.fieldLink RX7 15 RX7 "lengthening" "I" ∈ bt := in_t2 (List.mem_of_getElem? (i := 72) (by decide +kernel)) rfl
theorem m2_73 : Cond.fieldLinkNest RX10 78 RX7 "lengthening" "I" RX12 ∈ nb := in_n2 (List.mem_of_getElem? (i := 73) (by decide +kernel)) rfl
theorem m2_74 : Cond.fieldLinkNest RX12 228 RX7 "lengthening" "I" RX12 ∈ nb := in_n2 (List.mem_of_getElem? (i := 74) (by decide +kernel)) rfl
theorem m2_75 : Cond.fieldLink RX7 28 RX7 "day" "I" ∈ bt := in_t2 (List.mem_of_getElem? (i := 75) (by decide +kernel)) rfl
theorem m2_76 : Cond.fieldLinkNest RX10 119 RX7 "day" "I" RX12 ∈ nb := in_n2 (List.mem_of_getElem? (i := 76) (by decide +kernel)) rfl
theorem m2_77 : Cond.fieldLinkNest RX12 256 RX7 "day" "I" RX12 ∈ nb := in_n2 (List.mem_of_getElem? (i := 77) (by decide +kernel)) rfl
theorem m2_78 : Cond.fieldLink RX7 31 RX7 "slot" "I" ∈ bt := in_t2 (List.mem_of_getElem? (i := 78) (by decide +kernel)) rfl
theorem m2_79 : Cond.fieldLinkNest RX10 126 RX7 "slot" "I" RX12 ∈ nb := in_n2 (List.mem_of_getElem? (i := 79) (by decide +kernel)) rfl
theorem m2_80 : Cond.fieldLinkNest RX12 257 RX7 "slot" "I" RX12 ∈ nb := in_n2 (List.mem_of_getElem? (i := 80) (by decide +kernel)) rfl
theorem m2_81 : Cond.fieldLink RX7 34 RX7 "room" "I" ∈ bt := in_t2 (List.mem_of_getElem? (i := 81) (by decide +kernel)) rfl
theorem m2_82 : Cond.fieldLinkNest RX10 116 RX7 "room" "I" RX12 ∈ nb := in_n2 (List.mem_of_getElem? (i := 82) (by decide +kernel)) rfl
theorem m2_83 : Cond.fieldLinkNest RX6 174 RX7 "room" "I" RX12 ∈ nb := in_n2 (List.mem_of_getElem? (i := 83) (by decide +kernel)) rfl
theorem m2_84 : Cond.fieldLinkNest RX12 260 RX7 "room" "I" RX12 ∈ nb := in_n2 (List.mem_of_getElem? (i := 84) (by decide +kernel)) rfl
theorem m2_85 : Cond.fieldLink RX7 37 RX7 "officer" "I" ∈ bt := in_t2 (List.mem_of_getElem? (i := 85) (by decide +kernel)) rfl
theorem m2_86 : Cond.fieldLinkNest RX10 110 RX7 "officer" "I" RX12 ∈ nb := in_n2 (List.mem_of_getElem? (i := 86) (by decide +kernel)) rfl
theorem m2_87 : Cond.fieldLinkNest RX6 179 RX7 "officer" "I" RX12 ∈ nb := in_n2 (List.mem_of_getElem? (i := 87) (by decide +kernel)) rfl
theorem m2_88 : Cond.fieldLinkNest RX12 263 RX7 "officer" "I" RX12 ∈ nb := in_n2 (List.mem_of_getElem? (i := 88) (by decide +kernel)) rfl
theorem m2_89 : Cond.fieldLink RX7 19 RX7 "adjournments" "I" ∈ bt := in_t2 (List.mem_of_getElem? (i := 89) (by decide +kernel)) rfl
theorem m2_90 : Cond.fieldLinkNest RX12 242 RX7 "adjournments" "I" RX12 ∈ nb := in_n2 (List.mem_of_getElem? (i := 90) (by decide +kernel)) rfl
theorem m2_91 : Cond.fieldLinkNest RX10 155 RX7 "adjournments" "I" RX12 ∈ nb := in_n2 (List.mem_of_getElem? (i := 91) (by decide +kernel)) rfl
theorem m2_92 : Cond.fieldLink RX7 9 RX7 "log" "[I" ∈ bt := in_t2 (List.mem_of_getElem? (i := 92) (by decide +kernel)) rfl
theorem m2_93 : Cond.fieldLinkNest RX12 266 RX7 "log" "[I" RX12 ∈ nb := in_n2 (List.mem_of_getElem? (i := 93) (by decide +kernel)) rfl
theorem m2_94 : Cond.lays RX7 RX7 "phase" "I" ∈ bt := in_t2 (List.mem_of_getElem? (i := 94) (by decide +kernel)) rfl
theorem m2_96 : Cond.lays RX7 RX7 "lengthening" "I" ∈ bt := in_t2 (List.mem_of_getElem? (i := 96) (by decide +kernel)) rfl
theorem m2_98 : Cond.lays RX7 RX7 "day" "I" ∈ bt := in_t2 (List.mem_of_getElem? (i := 98) (by decide +kernel)) rfl
theorem m2_100 : Cond.lays RX7 RX7 "slot" "I" ∈ bt := in_t2 (List.mem_of_getElem? (i := 100) (by decide +kernel)) rfl
theorem m2_102 : Cond.lays RX7 RX7 "room" "I" ∈ bt := in_t2 (List.mem_of_getElem? (i := 102) (by decide +kernel)) rfl
theorem m2_104 : Cond.lays RX7 RX7 "officer" "I" ∈ bt := in_t2 (List.mem_of_getElem? (i := 104) (by decide +kernel)) rfl
theorem m2_106 : Cond.lays RX7 RX7 "adjournments" "I" ∈ bt := in_t2 (List.mem_of_getElem? (i := 106) (by decide +kernel)) rfl
theorem m2_108 : Cond.laysFinal RX7 RX7 "log" "[I" ∈ bt := in_t2 (List.mem_of_getElem? (i := 108) (by decide +kernel)) rfl
theorem m2_111 : Cond.methodLink RX10 36 yX7_clear ∈ bt := in_t2 (List.mem_of_getElem? (i := 111) (by decide +kernel)) rfl
theorem m2_112 : Cond.instanceMethod yX7_clear ∈ bt := in_t2 (List.mem_of_getElem? (i := 112) (by decide +kernel)) rfl
theorem m2_113 : Cond.selects RX7 yX7_clear yX7_clear ∈ bt := in_t2 (List.mem_of_getElem? (i := 113) (by decide +kernel)) rfl
theorem m2_114 : Cond.code yX7_clear cX7_clear 1 (Option.none : Option Jvm.ClassFile.FieldType) ∈ bt := in_t2 (List.mem_of_getElem? (i := 114) (by decide +kernel)) rfl
theorem m2_115 : Cond.methodLink RX7 22 yX7_dropHearing ∈ bt := in_t2 (List.mem_of_getElem? (i := 115) (by decide +kernel)) rfl
theorem m2_116 : Cond.instanceMethod yX7_dropHearing ∈ bt := in_t2 (List.mem_of_getElem? (i := 116) (by decide +kernel)) rfl
theorem m2_117 : Cond.selects RX7 yX7_dropHearing yX7_dropHearing ∈ bt := in_t2 (List.mem_of_getElem? (i := 117) (by decide +kernel)) rfl
theorem m2_118 : Cond.code yX7_dropHearing cX7_dropHearing 1 (Option.none : Option Jvm.ClassFile.FieldType) ∈ bt := in_t2 (List.mem_of_getElem? (i := 118) (by decide +kernel)) rfl
theorem m2_119 : Cond.fieldLink RX10 31 RX10 "setup" "LCourtCalendar$Setup;" ∈ bt := in_t2 (List.mem_of_getElem? (i := 119) (by decide +kernel)) rfl
theorem m2_120 : Cond.fieldLinkNest RX6 24 RX10 "setup" "LCourtCalendar$Setup;" RX12 ∈ nb := in_n2 (List.mem_of_getElem? (i := 120) (by decide +kernel)) rfl
theorem m2_121 : Cond.fieldLinkNest RX1 40 RX10 "setup" "LCourtCalendar$Setup;" RX12 ∈ nb := in_n2 (List.mem_of_getElem? (i := 121) (by decide +kernel)) rfl
theorem m2_122 : Cond.fieldLinkNest RX12 87 RX10 "setup" "LCourtCalendar$Setup;" RX12 ∈ nb := in_n2 (List.mem_of_getElem? (i := 122) (by decide +kernel)) rfl
theorem m2_123 : Cond.fieldLink RX10 39 RX10 "day" "I" ∈ bt := in_t2 (List.mem_of_getElem? (i := 123) (by decide +kernel)) rfl
theorem m2_124 : Cond.fieldLinkNest RX6 36 RX10 "day" "I" RX12 ∈ nb := in_n2 (List.mem_of_getElem? (i := 124) (by decide +kernel)) rfl
theorem m2_125 : Cond.fieldLinkNest RX12 124 RX10 "day" "I" RX12 ∈ nb := in_n2 (List.mem_of_getElem? (i := 125) (by decide +kernel)) rfl
theorem m2_126 : Cond.fieldLink RX10 12 RX10 "holidays" "LCourtCalendar$Days;" ∈ bt := in_t2 (List.mem_of_getElem? (i := 126) (by decide +kernel)) rfl
theorem m2_127 : Cond.fieldLinkNest RX12 109 RX10 "holidays" "LCourtCalendar$Days;" RX12 ∈ nb := in_n2 (List.mem_of_getElem? (i := 127) (by decide +kernel)) rfl
theorem m2_128 : Cond.fieldLink RX10 18 RX10 "lastDays" "[I" ∈ bt := in_t2 (List.mem_of_getElem? (i := 128) (by decide +kernel)) rfl
theorem m2_129 : Cond.fieldLinkNest RX12 181 RX10 "lastDays" "[I" RX12 ∈ nb := in_n2 (List.mem_of_getElem? (i := 129) (by decide +kernel)) rfl
theorem m2_130 : Cond.fieldLink RX10 22 RX10 "bars" "[I" ∈ bt := in_t2 (List.mem_of_getElem? (i := 130) (by decide +kernel)) rfl
theorem m2_131 : Cond.fieldLinkNest RX1 65 RX10 "bars" "[I" RX12 ∈ nb := in_n2 (List.mem_of_getElem? (i := 131) (by decide +kernel)) rfl
theorem m2_132 : Cond.fieldLinkNest RX12 359 RX10 "bars" "[I" RX12 ∈ nb := in_n2 (List.mem_of_getElem? (i := 132) (by decide +kernel)) rfl
theorem m2_133 : Cond.fieldLink RX10 27 RX10 "progress" "[LCourtCalendar$Progress;" ∈ bt := in_t2 (List.mem_of_getElem? (i := 133) (by decide +kernel)) rfl
theorem m2_134 : Cond.fieldLinkNest RX6 98 RX10 "progress" "[LCourtCalendar$Progress;" RX12 ∈ nb := in_n2 (List.mem_of_getElem? (i := 134) (by decide +kernel)) rfl
theorem m2_135 : Cond.fieldLinkNest RX12 213 RX10 "progress" "[LCourtCalendar$Progress;" RX12 ∈ nb := in_n2 (List.mem_of_getElem? (i := 135) (by decide +kernel)) rfl
theorem m2_136 : Cond.lays RX10 RX10 "setup" "LCourtCalendar$Setup;" ∈ bt := in_t2 (List.mem_of_getElem? (i := 136) (by decide +kernel)) rfl
theorem m2_138 : Cond.lays RX10 RX10 "day" "I" ∈ bt := in_t2 (List.mem_of_getElem? (i := 138) (by decide +kernel)) rfl
theorem m2_140 : Cond.laysFinal RX10 RX10 "holidays" "LCourtCalendar$Days;" ∈ bt := in_t2 (List.mem_of_getElem? (i := 140) (by decide +kernel)) rfl
theorem m2_142 : Cond.laysFinal RX10 RX10 "lastDays" "[I" ∈ bt := in_t2 (List.mem_of_getElem? (i := 142) (by decide +kernel)) rfl
theorem m2_144 : Cond.laysFinal RX10 RX10 "bars" "[I" ∈ bt := in_t2 (List.mem_of_getElem? (i := 144) (by decide +kernel)) rfl
theorem m2_146 : Cond.laysFinal RX10 RX10 "progress" "[LCourtCalendar$Progress;" ∈ bt := in_t2 (List.mem_of_getElem? (i := 146) (by decide +kernel)) rfl
theorem m2_149 : Cond.arrayOver (Jvm.ClassFile.FieldType.object RX10) ∈ lw_tbl := in_l2 (List.mem_of_getElem? (i := 149) (by decide +kernel))
theorem m2_150 : Cond.classLink RX12 49 RX6 ∈ bt := in_t2 (List.mem_of_getElem? (i := 150) (by decide +kernel)) rfl
theorem m2_151 : Cond.instantiable RX6 12 ∈ bt := in_t2 (List.mem_of_getElem? (i := 151) (by decide +kernel)) rfl
theorem m2_152 : Cond.methodLinkNest RX12 51 yX6_init RX12 ∈ nb := in_n2 (List.mem_of_getElem? (i := 152) (by decide +kernel)) rfl
theorem m2_153 : Cond.instanceMethod yX6_init ∈ bt := in_t2 (List.mem_of_getElem? (i := 153) (by decide +kernel)) rfl
theorem m2_154 : Cond.code yX6_init cX6_init 1 (Option.none : Option Jvm.ClassFile.FieldType) ∈ bt := in_t2 (List.mem_of_getElem? (i := 154) (by decide +kernel)) rfl
theorem m2_155 : Cond.methodLink RX6 3 ({ cls := "java/lang/Object", name := "<init>", desc := "()V" } : Jvm.MethodName) ∈ bt := in_t2 (List.mem_of_getElem? (i := 155) (by decide +kernel)) rfl
theorem m2_156 : Cond.fieldLink RX6 9 RX6 "roomTaken" "[I" ∈ bt := in_t2 (List.mem_of_getElem? (i := 156) (by decide +kernel)) rfl
theorem m2_157 : Cond.fieldLink RX6 15 RX6 "officerTaken" "[I" ∈ bt := in_t2 (List.mem_of_getElem? (i := 157) (by decide +kernel)) rfl
theorem m2_158 : Cond.fieldLink RX6 18 RX6 "loads" "[I" ∈ bt := in_t2 (List.mem_of_getElem? (i := 158) (by decide +kernel)) rfl
theorem m2_159 : Cond.fieldLink RX6 21 RX6 "order" "[I" ∈ bt := in_t2 (List.mem_of_getElem? (i := 159) (by decide +kernel)) rfl
theorem m2_160 : Cond.fieldLink RX6 78 RX6 "barred" "I" ∈ bt := in_t2 (List.mem_of_getElem? (i := 160) (by decide +kernel)) rfl
theorem m2_161 : Cond.fieldLink RX6 71 RX6 "away" "I" ∈ bt := in_t2 (List.mem_of_getElem? (i := 161) (by decide +kernel)) rfl
theorem m2_162 : Cond.fieldLink RX6 81 RX6 "outside" "I" ∈ bt := in_t2 (List.mem_of_getElem? (i := 162) (by decide +kernel)) rfl
theorem m2_163 : Cond.fieldLink RX6 84 RX6 "witnessTaken" "I" ∈ bt := in_t2 (List.mem_of_getElem? (i := 163) (by decide +kernel)) rfl
theorem m2_164 : Cond.fieldLink RX6 102 RX6 "day" "I" ∈ bt := in_t2 (List.mem_of_getElem? (i := 164) (by decide +kernel)) rfl
theorem m2_165 : Cond.fieldLinkNest RX12 291 RX6 "day" "I" RX12 ∈ nb := in_n2 (List.mem_of_getElem? (i := 165) (by decide +kernel)) rfl
theorem m2_166 : Cond.fieldLink RX6 103 RX6 "slot" "I" ∈ bt := in_t2 (List.mem_of_getElem? (i := 166) (by decide +kernel)) rfl
theorem m2_167 : Cond.fieldLinkNest RX12 292 RX6 "slot" "I" RX12 ∈ nb := in_n2 (List.mem_of_getElem? (i := 167) (by decide +kernel)) rfl
theorem m2_168 : Cond.fieldLink RX6 106 RX6 "room" "I" ∈ bt := in_t2 (List.mem_of_getElem? (i := 168) (by decide +kernel)) rfl
theorem m2_169 : Cond.fieldLinkNest RX12 293 RX6 "room" "I" RX12 ∈ nb := in_n2 (List.mem_of_getElem? (i := 169) (by decide +kernel)) rfl
theorem m2_170 : Cond.fieldLink RX6 109 RX6 "officer" "I" ∈ bt := in_t2 (List.mem_of_getElem? (i := 170) (by decide +kernel)) rfl
theorem m2_171 : Cond.fieldLinkNest RX12 294 RX6 "officer" "I" RX12 ∈ nb := in_n2 (List.mem_of_getElem? (i := 171) (by decide +kernel)) rfl
theorem m2_172 : Cond.laysFinal RX6 RX6 "roomTaken" "[I" ∈ bt := in_t2 (List.mem_of_getElem? (i := 172) (by decide +kernel)) rfl
theorem m2_174 : Cond.laysFinal RX6 RX6 "officerTaken" "[I" ∈ bt := in_t2 (List.mem_of_getElem? (i := 174) (by decide +kernel)) rfl
theorem m2_176 : Cond.laysFinal RX6 RX6 "loads" "[I" ∈ bt := in_t2 (List.mem_of_getElem? (i := 176) (by decide +kernel)) rfl
theorem m2_178 : Cond.laysFinal RX6 RX6 "order" "[I" ∈ bt := in_t2 (List.mem_of_getElem? (i := 178) (by decide +kernel)) rfl
theorem m2_180 : Cond.lays RX6 RX6 "barred" "I" ∈ bt := in_t2 (List.mem_of_getElem? (i := 180) (by decide +kernel)) rfl
theorem m2_182 : Cond.lays RX6 RX6 "away" "I" ∈ bt := in_t2 (List.mem_of_getElem? (i := 182) (by decide +kernel)) rfl
theorem m2_184 : Cond.lays RX6 RX6 "outside" "I" ∈ bt := in_t2 (List.mem_of_getElem? (i := 184) (by decide +kernel)) rfl
theorem m2_186 : Cond.lays RX6 RX6 "witnessTaken" "I" ∈ bt := in_t2 (List.mem_of_getElem? (i := 186) (by decide +kernel)) rfl
theorem m2_188 : Cond.lays RX6 RX6 "day" "I" ∈ bt := in_t2 (List.mem_of_getElem? (i := 188) (by decide +kernel)) rfl
theorem m2_190 : Cond.lays RX6 RX6 "slot" "I" ∈ bt := in_t2 (List.mem_of_getElem? (i := 190) (by decide +kernel)) rfl
theorem m2_192 : Cond.lays RX6 RX6 "room" "I" ∈ bt := in_t2 (List.mem_of_getElem? (i := 192) (by decide +kernel)) rfl
theorem m2_194 : Cond.lays RX6 RX6 "officer" "I" ∈ bt := in_t2 (List.mem_of_getElem? (i := 194) (by decide +kernel)) rfl
theorem m2_197 : Cond.classLink RX12 56 RX1 ∈ bt := in_t2 (List.mem_of_getElem? (i := 197) (by decide +kernel)) rfl
theorem m2_198 : Cond.instantiable RX1 5 ∈ bt := in_t2 (List.mem_of_getElem? (i := 198) (by decide +kernel)) rfl
theorem m2_199 : Cond.methodLinkNest RX12 58 yX1_init RX12 ∈ nb := in_n2 (List.mem_of_getElem? (i := 199) (by decide +kernel)) rfl
theorem m2_200 : Cond.instanceMethod yX1_init ∈ bt := in_t2 (List.mem_of_getElem? (i := 200) (by decide +kernel)) rfl
theorem m2_201 : Cond.code yX1_init cX1_init 1 (Option.none : Option Jvm.ClassFile.FieldType) ∈ bt := in_t2 (List.mem_of_getElem? (i := 201) (by decide +kernel)) rfl
theorem m2_202 : Cond.methodLink RX1 3 ({ cls := "java/lang/Object", name := "<init>", desc := "()V" } : Jvm.MethodName) ∈ bt := in_t2 (List.mem_of_getElem? (i := 202) (by decide +kernel)) rfl
theorem m2_203 : Cond.fieldLink RX1 9 RX1 "conflicts" "[I" ∈ bt := in_t2 (List.mem_of_getElem? (i := 203) (by decide +kernel)) rfl
theorem m2_204 : Cond.fieldLink RX1 15 RX1 "permittedCases" "[I" ∈ bt := in_t2 (List.mem_of_getElem? (i := 204) (by decide +kernel)) rfl
theorem m2_205 : Cond.fieldLink RX1 18 RX1 "choices" "[I" ∈ bt := in_t2 (List.mem_of_getElem? (i := 205) (by decide +kernel)) rfl
theorem m2_206 : Cond.fieldLink RX1 29 RX1 "cases" "I" ∈ bt := in_t2 (List.mem_of_getElem? (i := 206) (by decide +kernel)) rfl
theorem m2_207 : Cond.fieldLink RX1 25 RX1 "officers" "I" ∈ bt := in_t2 (List.mem_of_getElem? (i := 207) (by decide +kernel)) rfl
theorem m2_208 : Cond.laysFinal RX1 RX1 "conflicts" "[I" ∈ bt := in_t2 (List.mem_of_getElem? (i := 208) (by decide +kernel)) rfl
theorem m2_210 : Cond.laysFinal RX1 RX1 "permittedCases" "[I" ∈ bt := in_t2 (List.mem_of_getElem? (i := 210) (by decide +kernel)) rfl
theorem m2_212 : Cond.laysFinal RX1 RX1 "choices" "[I" ∈ bt := in_t2 (List.mem_of_getElem? (i := 212) (by decide +kernel)) rfl
theorem m2_214 : Cond.lays RX1 RX1 "cases" "I" ∈ bt := in_t2 (List.mem_of_getElem? (i := 214) (by decide +kernel)) rfl
theorem m2_216 : Cond.lays RX1 RX1 "officers" "I" ∈ bt := in_t2 (List.mem_of_getElem? (i := 216) (by decide +kernel)) rfl
theorem m2_219 : Cond.fieldLink RX12 12 RX12 "buffer" "[B" ∈ bt := in_t2 (List.mem_of_getElem? (i := 219) (by decide +kernel)) rfl
theorem m2_220 : Cond.fieldLink RX12 70 RX12 "length" "I" ∈ bt := in_t2 (List.mem_of_getElem? (i := 220) (by decide +kernel)) rfl
theorem m2_221 : Cond.fieldLink RX12 19 RX12 "parser" "LCourtCalendar$Parser;" ∈ bt := in_t2 (List.mem_of_getElem? (i := 221) (by decide +kernel)) rfl
theorem m2_222 : Cond.fieldLink RX12 23 RX12 "errorCode" "I" ∈ bt := in_t2 (List.mem_of_getElem? (i := 222) (by decide +kernel)) rfl
theorem m2_223 : Cond.fieldLink RX12 27 RX12 "errorOffset" "I" ∈ bt := in_t2 (List.mem_of_getElem? (i := 223) (by decide +kernel)) rfl
theorem m2_224 : Cond.fieldLink RX12 35 RX12 "state" "LCourtCalendar$State;" ∈ bt := in_t2 (List.mem_of_getElem? (i := 224) (by decide +kernel)) rfl
theorem m2_225 : Cond.fieldLink RX12 39 RX12 "saved" "LCourtCalendar$State;" ∈ bt := in_t2 (List.mem_of_getElem? (i := 225) (by decide +kernel)) rfl
theorem m2_226 : Cond.fieldLink RX12 98 RX12 "hasSaved" "Z" ∈ bt := in_t2 (List.mem_of_getElem? (i := 226) (by decide +kernel)) rfl
theorem m2_227 : Cond.fieldLink RX12 42 RX12 "forecast" "LCourtCalendar$State;" ∈ bt := in_t2 (List.mem_of_getElem? (i := 227) (by decide +kernel)) rfl
theorem m2_228 : Cond.fieldLink RX12 45 RX12 "past" "[LCourtCalendar$State;" ∈ bt := in_t2 (List.mem_of_getElem? (i := 228) (by decide +kernel)) rfl
theorem m2_229 : Cond.fieldLink RX12 102 RX12 "pastSize" "I" ∈ bt := in_t2 (List.mem_of_getElem? (i := 229) (by decide +kernel)) rfl
theorem m2_230 : Cond.fieldLink RX12 52 RX12 "planner" "LCourtCalendar$Planner;" ∈ bt := in_t2 (List.mem_of_getElem? (i := 230) (by decide +kernel)) rfl
theorem m2_231 : Cond.fieldLink RX12 59 RX12 "bench" "LCourtCalendar$Bench;" ∈ bt := in_t2 (List.mem_of_getElem? (i := 231) (by decide +kernel)) rfl
theorem m2_232 : Cond.fieldLink RX12 63 RX12 "order" "[I" ∈ bt := in_t2 (List.mem_of_getElem? (i := 232) (by decide +kernel)) rfl
theorem m2_233 : Cond.fieldLink RX12 67 RX12 "output" "[B" ∈ bt := in_t2 (List.mem_of_getElem? (i := 233) (by decide +kernel)) rfl
theorem m2_234 : Cond.fieldLink RX12 369 RX12 "outputLength" "I" ∈ bt := in_t2 (List.mem_of_getElem? (i := 234) (by decide +kernel)) rfl
theorem m2_235 : Cond.laysFinal RX12 RX12 "buffer" "[B" ∈ bt := in_t2 (List.mem_of_getElem? (i := 235) (by decide +kernel)) rfl
theorem m2_237 : Cond.lays RX12 RX12 "length" "I" ∈ bt := in_t2 (List.mem_of_getElem? (i := 237) (by decide +kernel)) rfl
theorem m2_239 : Cond.laysFinal RX12 RX12 "parser" "LCourtCalendar$Parser;" ∈ bt := in_t2 (List.mem_of_getElem? (i := 239) (by decide +kernel)) rfl
theorem m3_1 : Cond.lays RX12 RX12 "errorCode" "I" ∈ bt := in_t3 (List.mem_of_getElem? (i := 1) (by decide +kernel)) rfl
theorem m3_3 : Cond.lays RX12 RX12 "errorOffset" "I" ∈ bt := in_t3 (List.mem_of_getElem? (i := 3) (by decide +kernel)) rfl
theorem m3_5 : Cond.laysFinal RX12 RX12 "state" "LCourtCalendar$State;" ∈ bt := in_t3 (List.mem_of_getElem? (i := 5) (by decide +kernel)) rfl
theorem m3_7 : Cond.laysFinal RX12 RX12 "saved" "LCourtCalendar$State;" ∈ bt := in_t3 (List.mem_of_getElem? (i := 7) (by decide +kernel)) rfl
theorem m3_9 : Cond.lays RX12 RX12 "hasSaved" "Z" ∈ bt := in_t3 (List.mem_of_getElem? (i := 9) (by decide +kernel)) rfl
theorem m3_11 : Cond.laysFinal RX12 RX12 "forecast" "LCourtCalendar$State;" ∈ bt := in_t3 (List.mem_of_getElem? (i := 11) (by decide +kernel)) rfl
theorem m3_13 : Cond.laysFinal RX12 RX12 "past" "[LCourtCalendar$State;" ∈ bt := in_t3 (List.mem_of_getElem? (i := 13) (by decide +kernel)) rfl
theorem m3_15 : Cond.lays RX12 RX12 "pastSize" "I" ∈ bt := in_t3 (List.mem_of_getElem? (i := 15) (by decide +kernel)) rfl
theorem m3_17 : Cond.laysFinal RX12 RX12 "planner" "LCourtCalendar$Planner;" ∈ bt := in_t3 (List.mem_of_getElem? (i := 17) (by decide +kernel)) rfl
theorem m3_19 : Cond.laysFinal RX12 RX12 "bench" "LCourtCalendar$Bench;" ∈ bt := in_t3 (List.mem_of_getElem? (i := 19) (by decide +kernel)) rfl
theorem m3_21 : Cond.laysFinal RX12 RX12 "order" "[I" ∈ bt := in_t3 (List.mem_of_getElem? (i := 21) (by decide +kernel)) rfl
theorem m3_23 : Cond.laysFinal RX12 RX12 "output" "[B" ∈ bt := in_t3 (List.mem_of_getElem? (i := 23) (by decide +kernel)) rfl
theorem m3_25 : Cond.lays RX12 RX12 "outputLength" "I" ∈ bt := in_t3 (List.mem_of_getElem? (i := 25) (by decide +kernel)) rfl
theorem m3_28 : Cond.methodLink RL 119 yX12_feed ∈ bt := in_t3 (List.mem_of_getElem? (i := 28) (by decide +kernel)) rfl
theorem m3_29 : Cond.instanceMethod yX12_feed ∈ bt := in_t3 (List.mem_of_getElem? (i := 29) (by decide +kernel)) rfl
theorem m3_30 : Cond.selects RX12 yX12_feed yX12_feed ∈ bt := in_t3 (List.mem_of_getElem? (i := 30) (by decide +kernel)) rfl
theorem m3_31 : Cond.code yX12_feed cX12_feed 6 (Option.some Jvm.ClassFile.FieldType.int) ∈ bt := in_t3 (List.mem_of_getElem? (i := 31) (by decide +kernel)) rfl
theorem m3_32 : Cond.methodLink RX12 73 yX12_append ∈ bt := in_t3 (List.mem_of_getElem? (i := 32) (by decide +kernel)) rfl
theorem m3_34 : Cond.instanceMethod yX12_append ∈ bt := in_t3 (List.mem_of_getElem? (i := 34) (by decide +kernel)) rfl
theorem m3_35 : Cond.code yX12_append cX12_append 3 (Option.none : Option Jvm.ClassFile.FieldType) ∈ bt := in_t3 (List.mem_of_getElem? (i := 35) (by decide +kernel)) rfl
theorem m3_36 : Cond.methodLink RL 123 yX12_truncate ∈ bt := in_t3 (List.mem_of_getElem? (i := 36) (by decide +kernel)) rfl
theorem m3_37 : Cond.instanceMethod yX12_truncate ∈ bt := in_t3 (List.mem_of_getElem? (i := 37) (by decide +kernel)) rfl
theorem m3_38 : Cond.selects RX12 yX12_truncate yX12_truncate ∈ bt := in_t3 (List.mem_of_getElem? (i := 38) (by decide +kernel)) rfl
theorem m3_39 : Cond.code yX12_truncate cX12_truncate 2 (Option.some Jvm.ClassFile.FieldType.boolean) ∈ bt := in_t3 (List.mem_of_getElem? (i := 39) (by decide +kernel)) rfl
theorem m3_40 : Cond.methodLink RL 127 yX12_parse ∈ bt := in_t3 (List.mem_of_getElem? (i := 40) (by decide +kernel)) rfl
theorem m3_41 : Cond.instanceMethod yX12_parse ∈ bt := in_t3 (List.mem_of_getElem? (i := 41) (by decide +kernel)) rfl
theorem m3_42 : Cond.selects RX12 yX12_parse yX12_parse ∈ bt := in_t3 (List.mem_of_getElem? (i := 42) (by decide +kernel)) rfl
theorem m3_43 : Cond.code yX12_parse cX12_parse 2 (Option.some Jvm.ClassFile.FieldType.int) ∈ bt := in_t3 (List.mem_of_getElem? (i := 43) (by decide +kernel)) rfl
theorem m3_44 : Cond.methodLink RX12 77 yX5_read ∈ bt := in_t3 (List.mem_of_getElem? (i := 44) (by decide +kernel)) rfl
theorem m3_45 : Cond.instanceMethod yX5_read ∈ bt := in_t3 (List.mem_of_getElem? (i := 45) (by decide +kernel)) rfl
theorem m3_46 : Cond.selects RX5 yX5_read yX5_read ∈ bt := in_t3 (List.mem_of_getElem? (i := 46) (by decide +kernel)) rfl
theorem m3_47 : Cond.code yX5_read cX5_read 4 (Option.some Jvm.ClassFile.FieldType.boolean) ∈ bt := in_t3 (List.mem_of_getElem? (i := 47) (by decide +kernel)) rfl
theorem m3_48 : Cond.methodLink RX5 32 yX9_clear ∈ bt := in_t3 (List.mem_of_getElem? (i := 48) (by decide +kernel)) rfl
theorem m3_49 : Cond.methodLink RX5 35 yX8_begin ∈ bt := in_t3 (List.mem_of_getElem? (i := 49) (by decide +kernel)) rfl
theorem m3_50 : Cond.instanceMethod yX8_begin ∈ bt := in_t3 (List.mem_of_getElem? (i := 50) (by decide +kernel)) rfl
theorem m3_51 : Cond.selects RX8 yX8_begin yX8_begin ∈ bt := in_t3 (List.mem_of_getElem? (i := 51) (by decide +kernel)) rfl
theorem m3_52 : Cond.code yX8_begin cX8_begin 3 (Option.none : Option Jvm.ClassFile.FieldType) ∈ bt := in_t3 (List.mem_of_getElem? (i := 52) (by decide +kernel)) rfl
theorem m3_53 : Cond.methodLink RX8 24 yJ9_min_7cf53 ∈ bt := in_t3 (List.mem_of_getElem? (i := 53) (by decide +kernel)) rfl
theorem m3_54 : Cond.static yJ9_min_7cf53 ∈ bt := in_t3 (List.mem_of_getElem? (i := 54) (by decide +kernel)) rfl
theorem m3_55 : Cond.code yJ9_min_7cf53 cJ9_min_7cf53 2 (Option.some Jvm.ClassFile.FieldType.int) ∈ bt := in_t3 (List.mem_of_getElem? (i := 55) (by decide +kernel)) rfl
theorem m3_56 : Cond.methodLink RX8 37 yX8_advance ∈ bt := in_t3 (List.mem_of_getElem? (i := 56) (by decide +kernel)) rfl
theorem m3_57 : Cond.instanceMethod yX8_advance ∈ bt := in_t3 (List.mem_of_getElem? (i := 57) (by decide +kernel)) rfl
theorem m3_58 : Cond.selects RX8 yX8_advance yX8_advance ∈ bt := in_t3 (List.mem_of_getElem? (i := 58) (by decide +kernel)) rfl
theorem m3_59 : Cond.code yX8_advance cX8_advance 1 (Option.none : Option Jvm.ClassFile.FieldType) ∈ bt := in_t3 (List.mem_of_getElem? (i := 59) (by decide +kernel)) rfl
theorem m3_60 : Cond.methodLinkNest RX8 50 yX12_isLetter RX12 ∈ nb := in_n3 (List.mem_of_getElem? (i := 60) (by decide +kernel)) rfl
theorem m3_61 : Cond.static yX12_isLetter ∈ bt := in_t3 (List.mem_of_getElem? (i := 61) (by decide +kernel)) rfl
theorem m3_62 : Cond.code yX12_isLetter cX12_isLetter 1 (Option.some Jvm.ClassFile.FieldType.boolean) ∈ bt := in_t3 (List.mem_of_getElem? (i := 62) (by decide +kernel)) rfl
theorem m3_63 : Cond.fieldLink RX8 54 RX11 "WRONG" "LCourtCalendar$Token;" ∈ bt := in_t3 (List.mem_of_getElem? (i := 63) (by decide +kernel)) rfl
theorem m3_64 : Cond.laysStatic RX11 "WRONG" "LCourtCalendar$Token;" ∈ lw_tbl := in_l3 (List.mem_of_getElem? (i := 64) (by decide +kernel))
theorem m3_65 : Cond.methodLink RX8 57 yX11_ofWord ∈ bt := in_t3 (List.mem_of_getElem? (i := 65) (by decide +kernel)) rfl
theorem m3_66 : Cond.static yX11_ofWord ∈ bt := in_t3 (List.mem_of_getElem? (i := 66) (by decide +kernel)) rfl
theorem m3_67 : Cond.code yX11_ofWord cX11_ofWord 3 (Option.some (Jvm.ClassFile.FieldType.object RX11)) ∈ bt := in_t3 (List.mem_of_getElem? (i := 67) (by decide +kernel)) rfl
theorem m3_68 : Cond.fieldLink RX11 100 RX11 "ALL" "[LCourtCalendar$Token;" ∈ bt := in_t3 (List.mem_of_getElem? (i := 68) (by decide +kernel)) rfl
theorem m3_69 : Cond.laysStatic RX11 "ALL" "[LCourtCalendar$Token;" ∈ lw_tbl := in_l3 (List.mem_of_getElem? (i := 69) (by decide +kernel))
theorem m3_70 : Cond.fieldLink RX11 52 RX11 "NAME" "LCourtCalendar$Token;" ∈ bt := in_t3 (List.mem_of_getElem? (i := 70) (by decide +kernel)) rfl
theorem m3_71 : Cond.laysStatic RX11 "NAME" "LCourtCalendar$Token;" ∈ lw_tbl := in_l3 (List.mem_of_getElem? (i := 71) (by decide +kernel))
theorem m3_72 : Cond.methodLink RX8 61 yX8_isDigit ∈ bt := in_t3 (List.mem_of_getElem? (i := 72) (by decide +kernel)) rfl
theorem m3_73 : Cond.static yX8_isDigit ∈ bt := in_t3 (List.mem_of_getElem? (i := 73) (by decide +kernel)) rfl
theorem m3_74 : Cond.code yX8_isDigit cX8_isDigit 1 (Option.some Jvm.ClassFile.FieldType.boolean) ∈ bt := in_t3 (List.mem_of_getElem? (i := 74) (by decide +kernel)) rfl
theorem m3_75 : Cond.fieldLink RX8 64 RX11 "NUMBER" "LCourtCalendar$Token;" ∈ bt := in_t3 (List.mem_of_getElem? (i := 75) (by decide +kernel)) rfl
theorem m3_76 : Cond.laysStatic RX11 "NUMBER" "LCourtCalendar$Token;" ∈ lw_tbl := in_l3 (List.mem_of_getElem? (i := 76) (by decide +kernel))
theorem m3_77 : Cond.fieldLink RX8 67 RX11 "SEMICOLON" "LCourtCalendar$Token;" ∈ bt := in_t3 (List.mem_of_getElem? (i := 77) (by decide +kernel)) rfl
theorem m3_78 : Cond.laysStatic RX11 "SEMICOLON" "LCourtCalendar$Token;" ∈ lw_tbl := in_l3 (List.mem_of_getElem? (i := 78) (by decide +kernel))
theorem m3_79 : Cond.fieldLink RX5 43 RX11 "END" "LCourtCalendar$Token;" ∈ bt := in_t3 (List.mem_of_getElem? (i := 79) (by decide +kernel)) rfl
theorem m3_80 : Cond.methodLink RX5 48 yX5_takesStatement ∈ bt := in_t3 (List.mem_of_getElem? (i := 80) (by decide +kernel)) rfl
theorem m3_82 : Cond.instanceMethod yX5_takesStatement ∈ bt := in_t3 (List.mem_of_getElem? (i := 82) (by decide +kernel)) rfl
theorem m3_83 : Cond.code yX5_takesStatement cX5_takesStatement 1 (Option.some Jvm.ClassFile.FieldType.boolean) ∈ bt := in_t3 (List.mem_of_getElem? (i := 83) (by decide +kernel)) rfl
theorem m3_84 : Cond.fieldLink RX5 62 RX0 "$SwitchMap$CourtCalendar$Token" "[I" ∈ bt := in_t3 (List.mem_of_getElem? (i := 84) (by decide +kernel)) rfl
theorem m3_85 : Cond.laysStatic RX0 "$SwitchMap$CourtCalendar$Token" "[I" ∈ lw_tbl := in_l3 (List.mem_of_getElem? (i := 85) (by decide +kernel))
theorem m3_86 : Cond.methodLink RX5 68 ({ cls := RX11, name := "ordinal", desc := "()I" } : Jvm.MethodName) ∈ bt := in_t3 (List.mem_of_getElem? (i := 86) (by decide +kernel)) rfl
theorem m3_87 : Cond.sameMethod RX11 RJx29ce0 "ordinal" "()I" ∈ bt := in_t3 (List.mem_of_getElem? (i := 87) (by decide +kernel)) rfl
theorem m3_89 : Cond.selects RX11 ({ cls := RX11, name := "ordinal", desc := "()I" } : Jvm.MethodName) yJx29ce0_ordinal_8abf5 ∈ bt := in_t3 (List.mem_of_getElem? (i := 89) (by decide +kernel)) rfl
theorem m3_90 : Cond.instanceMethod yJx29ce0_ordinal_8abf5 ∈ bt := in_t3 (List.mem_of_getElem? (i := 90) (by decide +kernel)) rfl
theorem m3_91 : Cond.code yJx29ce0_ordinal_8abf5 cJx29ce0_ordinal_8abf5 1 (Option.some Jvm.ClassFile.FieldType.int) ∈ bt := in_t3 (List.mem_of_getElem? (i := 91) (by decide +kernel)) rfl
theorem m3_92 : Cond.methodLink RX5 72 yX5_takesHoliday ∈ bt := in_t3 (List.mem_of_getElem? (i := 92) (by decide +kernel)) rfl
theorem m3_94 : Cond.instanceMethod yX5_takesHoliday ∈ bt := in_t3 (List.mem_of_getElem? (i := 94) (by decide +kernel)) rfl
theorem m3_95 : Cond.code yX5_takesHoliday cX5_takesHoliday 1 (Option.some Jvm.ClassFile.FieldType.boolean) ∈ bt := in_t3 (List.mem_of_getElem? (i := 95) (by decide +kernel)) rfl
theorem m3_96 : Cond.methodLink RX5 99 yX5_fail ∈ bt := in_t3 (List.mem_of_getElem? (i := 96) (by decide +kernel)) rfl
theorem m3_98 : Cond.instanceMethod yX5_fail ∈ bt := in_t3 (List.mem_of_getElem? (i := 98) (by decide +kernel)) rfl
theorem m3_99 : Cond.code yX5_fail cX5_fail 2 (Option.some Jvm.ClassFile.FieldType.boolean) ∈ bt := in_t3 (List.mem_of_getElem? (i := 99) (by decide +kernel)) rfl
theorem m3_100 : Cond.methodLink RX5 112 yX8_advance ∈ bt := in_t3 (List.mem_of_getElem? (i := 100) (by decide +kernel)) rfl
theorem m3_101 : Cond.methodLink RX5 115 yX5_seesNumber ∈ bt := in_t3 (List.mem_of_getElem? (i := 101) (by decide +kernel)) rfl
theorem m3_103 : Cond.instanceMethod yX5_seesNumber ∈ bt := in_t3 (List.mem_of_getElem? (i := 103) (by decide +kernel)) rfl
theorem m3_104 : Cond.code yX5_seesNumber cX5_seesNumber 3 (Option.some Jvm.ClassFile.FieldType.boolean) ∈ bt := in_t3 (List.mem_of_getElem? (i := 104) (by decide +kernel)) rfl
theorem m3_105 : Cond.fieldLink RX5 267 RX11 "NUMBER" "LCourtCalendar$Token;" ∈ bt := in_t3 (List.mem_of_getElem? (i := 105) (by decide +kernel)) rfl
theorem m3_106 : Cond.methodLink RX5 122 yX2_contains ∈ bt := in_t3 (List.mem_of_getElem? (i := 106) (by decide +kernel)) rfl
theorem m3_107 : Cond.instanceMethod yX2_contains ∈ bt := in_t3 (List.mem_of_getElem? (i := 107) (by decide +kernel)) rfl
theorem m3_108 : Cond.selects RX2 yX2_contains yX2_contains ∈ bt := in_t3 (List.mem_of_getElem? (i := 108) (by decide +kernel)) rfl
theorem m3_109 : Cond.code yX2_contains cX2_contains 2 (Option.some Jvm.ClassFile.FieldType.boolean) ∈ bt := in_t3 (List.mem_of_getElem? (i := 109) (by decide +kernel)) rfl
theorem m3_110 : Cond.methodLink RX5 125 yX2_add ∈ bt := in_t3 (List.mem_of_getElem? (i := 110) (by decide +kernel)) rfl
theorem m3_111 : Cond.instanceMethod yX2_add ∈ bt := in_t3 (List.mem_of_getElem? (i := 111) (by decide +kernel)) rfl
theorem m3_112 : Cond.selects RX2 yX2_add yX2_add ∈ bt := in_t3 (List.mem_of_getElem? (i := 112) (by decide +kernel)) rfl
theorem m3_113 : Cond.code yX2_add cX2_add 2 (Option.none : Option Jvm.ClassFile.FieldType) ∈ bt := in_t3 (List.mem_of_getElem? (i := 113) (by decide +kernel)) rfl
theorem m3_114 : Cond.methodLink RX2 15 yX2_contains ∈ bt := in_t3 (List.mem_of_getElem? (i := 114) (by decide +kernel)) rfl
theorem m3_115 : Cond.methodLink RX5 75 yX5_takesRoom ∈ bt := in_t3 (List.mem_of_getElem? (i := 115) (by decide +kernel)) rfl
theorem m3_117 : Cond.instanceMethod yX5_takesRoom ∈ bt := in_t3 (List.mem_of_getElem? (i := 117) (by decide +kernel)) rfl
theorem m3_118 : Cond.code yX5_takesRoom cX5_takesRoom 1 (Option.some Jvm.ClassFile.FieldType.boolean) ∈ bt := in_t3 (List.mem_of_getElem? (i := 118) (by decide +kernel)) rfl
theorem m3_119 : Cond.methodLink RX5 129 yX5_takesNewName ∈ bt := in_t3 (List.mem_of_getElem? (i := 119) (by decide +kernel)) rfl
theorem m3_121 : Cond.instanceMethod yX5_takesNewName ∈ bt := in_t3 (List.mem_of_getElem? (i := 121) (by decide +kernel)) rfl
theorem m3_122 : Cond.code yX5_takesNewName cX5_takesNewName 3 (Option.some Jvm.ClassFile.FieldType.boolean) ∈ bt := in_t3 (List.mem_of_getElem? (i := 122) (by decide +kernel)) rfl
theorem m3_123 : Cond.methodLink RX5 248 yX4_isFull ∈ bt := in_t3 (List.mem_of_getElem? (i := 123) (by decide +kernel)) rfl
theorem m3_124 : Cond.instanceMethod yX4_isFull ∈ bt := in_t3 (List.mem_of_getElem? (i := 124) (by decide +kernel)) rfl
theorem m3_125 : Cond.selects RX4 yX4_isFull yX4_isFull ∈ bt := in_t3 (List.mem_of_getElem? (i := 125) (by decide +kernel)) rfl
theorem m3_126 : Cond.code yX4_isFull cX4_isFull 1 (Option.some Jvm.ClassFile.FieldType.boolean) ∈ bt := in_t3 (List.mem_of_getElem? (i := 126) (by decide +kernel)) rfl
theorem m3_127 : Cond.fieldLink RX5 253 RX11 "NAME" "LCourtCalendar$Token;" ∈ bt := in_t3 (List.mem_of_getElem? (i := 127) (by decide +kernel)) rfl
theorem m3_128 : Cond.methodLink RX5 260 yX4_indexOf ∈ bt := in_t3 (List.mem_of_getElem? (i := 128) (by decide +kernel)) rfl
theorem m3_129 : Cond.instanceMethod yX4_indexOf ∈ bt := in_t3 (List.mem_of_getElem? (i := 129) (by decide +kernel)) rfl
theorem m3_130 : Cond.selects RX4 yX4_indexOf yX4_indexOf ∈ bt := in_t3 (List.mem_of_getElem? (i := 130) (by decide +kernel)) rfl
theorem m3_131 : Cond.code yX4_indexOf cX4_indexOf 4 (Option.some Jvm.ClassFile.FieldType.int) ∈ bt := in_t3 (List.mem_of_getElem? (i := 131) (by decide +kernel)) rfl
theorem m3_132 : Cond.methodLink RX5 264 yX4_add ∈ bt := in_t3 (List.mem_of_getElem? (i := 132) (by decide +kernel)) rfl
theorem m3_133 : Cond.instanceMethod yX4_add ∈ bt := in_t3 (List.mem_of_getElem? (i := 133) (by decide +kernel)) rfl
theorem m3_134 : Cond.selects RX4 yX4_add yX4_add ∈ bt := in_t3 (List.mem_of_getElem? (i := 134) (by decide +kernel)) rfl
theorem m3_135 : Cond.code yX4_add cX4_add 3 (Option.none : Option Jvm.ClassFile.FieldType) ∈ bt := in_t3 (List.mem_of_getElem? (i := 135) (by decide +kernel)) rfl
theorem m3_136 : Cond.fieldLink RX5 132 RX11 "SLOTS" "LCourtCalendar$Token;" ∈ bt := in_t3 (List.mem_of_getElem? (i := 136) (by decide +kernel)) rfl
theorem m3_137 : Cond.laysStatic RX11 "SLOTS" "LCourtCalendar$Token;" ∈ lw_tbl := in_l3 (List.mem_of_getElem? (i := 137) (by decide +kernel))
theorem m3_138 : Cond.methodLink RX5 55 yX5_takes ∈ bt := in_t3 (List.mem_of_getElem? (i := 138) (by decide +kernel)) rfl
theorem m3_140 : Cond.instanceMethod yX5_takes ∈ bt := in_t3 (List.mem_of_getElem? (i := 140) (by decide +kernel)) rfl
theorem m3_141 : Cond.code yX5_takes cX5_takes 2 (Option.some Jvm.ClassFile.FieldType.boolean) ∈ bt := in_t3 (List.mem_of_getElem? (i := 141) (by decide +kernel)) rfl
theorem m3_142 : Cond.methodLink RX5 135 yX5_takesSpan ∈ bt := in_t3 (List.mem_of_getElem? (i := 142) (by decide +kernel)) rfl
theorem m3_144 : Cond.instanceMethod yX5_takesSpan ∈ bt := in_t3 (List.mem_of_getElem? (i := 144) (by decide +kernel)) rfl
theorem m3_145 : Cond.code yX5_takesSpan cX5_takesSpan 2 (Option.some Jvm.ClassFile.FieldType.boolean) ∈ bt := in_t3 (List.mem_of_getElem? (i := 145) (by decide +kernel)) rfl
theorem m3_146 : Cond.methodLink RX5 183 yX5_takesNumber ∈ bt := in_t3 (List.mem_of_getElem? (i := 146) (by decide +kernel)) rfl
theorem m3_148 : Cond.instanceMethod yX5_takesNumber ∈ bt := in_t3 (List.mem_of_getElem? (i := 148) (by decide +kernel)) rfl
theorem m3_149 : Cond.code yX5_takesNumber cX5_takesNumber 3 (Option.some Jvm.ClassFile.FieldType.boolean) ∈ bt := in_t3 (List.mem_of_getElem? (i := 149) (by decide +kernel)) rfl
theorem m3_150 : Cond.methodLink RX5 141 yX9_size ∈ bt := in_t3 (List.mem_of_getElem? (i := 150) (by decide +kernel)) rfl
theorem m3_151 : Cond.instanceMethod yX9_size ∈ bt := in_t3 (List.mem_of_getElem? (i := 151) (by decide +kernel)) rfl
theorem m3_152 : Cond.selects RX9 yX9_size yX9_size ∈ bt := in_t3 (List.mem_of_getElem? (i := 152) (by decide +kernel)) rfl
theorem m3_153 : Cond.code yX9_size cX9_size 2 (Option.some Jvm.ClassFile.FieldType.int) ∈ bt := in_t3 (List.mem_of_getElem? (i := 153) (by decide +kernel)) rfl
theorem m3_154 : Cond.methodLinkNest RX5 150 yX12_slotSet RX12 ∈ nb := in_n3 (List.mem_of_getElem? (i := 154) (by decide +kernel)) rfl
theorem m3_155 : Cond.static yX12_slotSet ∈ bt := in_t3 (List.mem_of_getElem? (i := 155) (by decide +kernel)) rfl
theorem m3_156 : Cond.code yX12_slotSet cX12_slotSet 2 (Option.some Jvm.ClassFile.FieldType.int) ∈ bt := in_t3 (List.mem_of_getElem? (i := 156) (by decide +kernel)) rfl
theorem m3_157 : Cond.methodLink RX5 78 yX5_takesOfficer ∈ bt := in_t3 (List.mem_of_getElem? (i := 157) (by decide +kernel)) rfl
theorem m3_159 : Cond.instanceMethod yX5_takesOfficer ∈ bt := in_t3 (List.mem_of_getElem? (i := 159) (by decide +kernel)) rfl
theorem m3_160 : Cond.code yX5_takesOfficer cX5_takesOfficer 2 (Option.some Jvm.ClassFile.FieldType.boolean) ∈ bt := in_t3 (List.mem_of_getElem? (i := 160) (by decide +kernel)) rfl
theorem m3_161 : Cond.fieldLink RX5 154 RX11 "OFF" "LCourtCalendar$Token;" ∈ bt := in_t3 (List.mem_of_getElem? (i := 161) (by decide +kernel)) rfl
theorem m3_162 : Cond.laysStatic RX11 "OFF" "LCourtCalendar$Token;" ∈ lw_tbl := in_l3 (List.mem_of_getElem? (i := 162) (by decide +kernel))
theorem m3_163 : Cond.methodLink RX5 157 yX9_addOff ∈ bt := in_t3 (List.mem_of_getElem? (i := 163) (by decide +kernel)) rfl
theorem m3_164 : Cond.instanceMethod yX9_addOff ∈ bt := in_t3 (List.mem_of_getElem? (i := 164) (by decide +kernel)) rfl
theorem m3_165 : Cond.selects RX9 yX9_addOff yX9_addOff ∈ bt := in_t3 (List.mem_of_getElem? (i := 165) (by decide +kernel)) rfl
theorem m3_166 : Cond.code yX9_addOff cX9_addOff 5 (Option.none : Option Jvm.ClassFile.FieldType) ∈ bt := in_t3 (List.mem_of_getElem? (i := 166) (by decide +kernel)) rfl
theorem m3_167 : Cond.methodLink RX5 81 yX5_takesWitness ∈ bt := in_t3 (List.mem_of_getElem? (i := 167) (by decide +kernel)) rfl
theorem m3_169 : Cond.instanceMethod yX5_takesWitness ∈ bt := in_t3 (List.mem_of_getElem? (i := 169) (by decide +kernel)) rfl
theorem m3_170 : Cond.code yX5_takesWitness cX5_takesWitness 2 (Option.some Jvm.ClassFile.FieldType.boolean) ∈ bt := in_t3 (List.mem_of_getElem? (i := 170) (by decide +kernel)) rfl
theorem m3_171 : Cond.fieldLink RX5 161 RX11 "DAYS" "LCourtCalendar$Token;" ∈ bt := in_t3 (List.mem_of_getElem? (i := 171) (by decide +kernel)) rfl
theorem m3_172 : Cond.laysStatic RX11 "DAYS" "LCourtCalendar$Token;" ∈ lw_tbl := in_l3 (List.mem_of_getElem? (i := 172) (by decide +kernel))
theorem m3_173 : Cond.methodLink RX5 84 yX5_takesCase ∈ bt := in_t3 (List.mem_of_getElem? (i := 173) (by decide +kernel)) rfl
theorem m3_175 : Cond.instanceMethod yX5_takesCase ∈ bt := in_t3 (List.mem_of_getElem? (i := 175) (by decide +kernel)) rfl
theorem m3_176 : Cond.code yX5_takesCase cX5_takesCase 2 (Option.some Jvm.ClassFile.FieldType.boolean) ∈ bt := in_t3 (List.mem_of_getElem? (i := 176) (by decide +kernel)) rfl
theorem m3_177 : Cond.fieldLink RX5 180 RX11 "FILED" "LCourtCalendar$Token;" ∈ bt := in_t3 (List.mem_of_getElem? (i := 177) (by decide +kernel)) rfl
theorem m3_178 : Cond.laysStatic RX11 "FILED" "LCourtCalendar$Token;" ∈ lw_tbl := in_l3 (List.mem_of_getElem? (i := 178) (by decide +kernel))
theorem m3_179 : Cond.fieldLink RX5 197 RX11 "LIMIT" "LCourtCalendar$Token;" ∈ bt := in_t3 (List.mem_of_getElem? (i := 179) (by decide +kernel)) rfl
theorem m3_180 : Cond.laysStatic RX11 "LIMIT" "LCourtCalendar$Token;" ∈ lw_tbl := in_l3 (List.mem_of_getElem? (i := 180) (by decide +kernel))
theorem m3_181 : Cond.fieldLink RX5 203 RX11 "CUSTODY" "LCourtCalendar$Token;" ∈ bt := in_t3 (List.mem_of_getElem? (i := 181) (by decide +kernel)) rfl
theorem m3_182 : Cond.laysStatic RX11 "CUSTODY" "LCourtCalendar$Token;" ∈ lw_tbl := in_l3 (List.mem_of_getElem? (i := 182) (by decide +kernel))
theorem m3_183 : Cond.methodLink RX5 210 yX5_takesNeeds ∈ bt := in_t3 (List.mem_of_getElem? (i := 183) (by decide +kernel)) rfl
theorem m3_185 : Cond.instanceMethod yX5_takesNeeds ∈ bt := in_t3 (List.mem_of_getElem? (i := 185) (by decide +kernel)) rfl
theorem m3_186 : Cond.code yX5_takesNeeds cX5_takesNeeds 3 (Option.some Jvm.ClassFile.FieldType.boolean) ∈ bt := in_t3 (List.mem_of_getElem? (i := 186) (by decide +kernel)) rfl
theorem m3_187 : Cond.fieldLink RX5 214 RX11 "NEEDS" "LCourtCalendar$Token;" ∈ bt := in_t3 (List.mem_of_getElem? (i := 187) (by decide +kernel)) rfl
theorem m3_188 : Cond.laysStatic RX11 "NEEDS" "LCourtCalendar$Token;" ∈ lw_tbl := in_l3 (List.mem_of_getElem? (i := 188) (by decide +kernel))
theorem m3_189 : Cond.methodLink RX5 217 yX5_seesToldName ∈ bt := in_t3 (List.mem_of_getElem? (i := 189) (by decide +kernel)) rfl
theorem m3_191 : Cond.instanceMethod yX5_seesToldName ∈ bt := in_t3 (List.mem_of_getElem? (i := 191) (by decide +kernel)) rfl
theorem m3_192 : Cond.code yX5_seesToldName cX5_seesToldName 2 (Option.some Jvm.ClassFile.FieldType.boolean) ∈ bt := in_t3 (List.mem_of_getElem? (i := 192) (by decide +kernel)) rfl
theorem m3_193 : Cond.methodLinkNest RX5 223 yX12_has RX12 ∈ nb := in_n3 (List.mem_of_getElem? (i := 193) (by decide +kernel)) rfl
theorem m3_194 : Cond.static yX12_has ∈ bt := in_t3 (List.mem_of_getElem? (i := 194) (by decide +kernel)) rfl
theorem m3_195 : Cond.code yX12_has cX12_has 2 (Option.some Jvm.ClassFile.FieldType.boolean) ∈ bt := in_t3 (List.mem_of_getElem? (i := 195) (by decide +kernel)) rfl
theorem m3_196 : Cond.methodLink RX5 87 yX5_takesBar ∈ bt := in_t3 (List.mem_of_getElem? (i := 196) (by decide +kernel)) rfl
theorem m3_198 : Cond.instanceMethod yX5_takesBar ∈ bt := in_t3 (List.mem_of_getElem? (i := 198) (by decide +kernel)) rfl
theorem m3_199 : Cond.code yX5_takesBar cX5_takesBar 3 (Option.some Jvm.ClassFile.FieldType.boolean) ∈ bt := in_t3 (List.mem_of_getElem? (i := 199) (by decide +kernel)) rfl
theorem m3_200 : Cond.methodLink RX5 90 yX5_takesConflict ∈ bt := in_t3 (List.mem_of_getElem? (i := 200) (by decide +kernel)) rfl
theorem m3_202 : Cond.instanceMethod yX5_takesConflict ∈ bt := in_t3 (List.mem_of_getElem? (i := 202) (by decide +kernel)) rfl
theorem m3_203 : Cond.code yX5_takesConflict cX5_takesConflict 3 (Option.some Jvm.ClassFile.FieldType.boolean) ∈ bt := in_t3 (List.mem_of_getElem? (i := 203) (by decide +kernel)) rfl
theorem m3_204 : Cond.methodLink RX5 93 yX5_takesLengthen ∈ bt := in_t3 (List.mem_of_getElem? (i := 204) (by decide +kernel)) rfl
theorem m3_206 : Cond.instanceMethod yX5_takesLengthen ∈ bt := in_t3 (List.mem_of_getElem? (i := 206) (by decide +kernel)) rfl
theorem m3_207 : Cond.code yX5_takesLengthen cX5_takesLengthen 2 (Option.some Jvm.ClassFile.FieldType.boolean) ∈ bt := in_t3 (List.mem_of_getElem? (i := 207) (by decide +kernel)) rfl
theorem m3_208 : Cond.methodLink RX5 96 yX5_takesCap ∈ bt := in_t3 (List.mem_of_getElem? (i := 208) (by decide +kernel)) rfl
theorem m3_210 : Cond.instanceMethod yX5_takesCap ∈ bt := in_t3 (List.mem_of_getElem? (i := 210) (by decide +kernel)) rfl
theorem m3_211 : Cond.code yX5_takesCap cX5_takesCap 1 (Option.some Jvm.ClassFile.FieldType.boolean) ∈ bt := in_t3 (List.mem_of_getElem? (i := 211) (by decide +kernel)) rfl
theorem m3_212 : Cond.fieldLink RX5 52 RX11 "SEMICOLON" "LCourtCalendar$Token;" ∈ bt := in_t3 (List.mem_of_getElem? (i := 212) (by decide +kernel)) rfl
theorem m3_213 : Cond.methodLink RX12 91 yX5_exchange ∈ bt := in_t3 (List.mem_of_getElem? (i := 213) (by decide +kernel)) rfl
theorem m3_214 : Cond.instanceMethod yX5_exchange ∈ bt := in_t3 (List.mem_of_getElem? (i := 214) (by decide +kernel)) rfl
theorem m3_215 : Cond.selects RX5 yX5_exchange yX5_exchange ∈ bt := in_t3 (List.mem_of_getElem? (i := 215) (by decide +kernel)) rfl
theorem m3_216 : Cond.code yX5_exchange cX5_exchange 3 (Option.some (Jvm.ClassFile.FieldType.object RX9)) ∈ bt := in_t3 (List.mem_of_getElem? (i := 216) (by decide +kernel)) rfl
theorem m3_217 : Cond.methodLink RX12 95 yX10_begin ∈ bt := in_t3 (List.mem_of_getElem? (i := 217) (by decide +kernel)) rfl
theorem m3_218 : Cond.instanceMethod yX10_begin ∈ bt := in_t3 (List.mem_of_getElem? (i := 218) (by decide +kernel)) rfl
theorem m3_219 : Cond.selects RX10 yX10_begin yX10_begin ∈ bt := in_t3 (List.mem_of_getElem? (i := 219) (by decide +kernel)) rfl
theorem m3_220 : Cond.code yX10_begin cX10_begin 3 (Option.none : Option Jvm.ClassFile.FieldType) ∈ bt := in_t3 (List.mem_of_getElem? (i := 220) (by decide +kernel)) rfl
theorem m3_221 : Cond.methodLink RX10 46 yX2_copyFrom ∈ bt := in_t3 (List.mem_of_getElem? (i := 221) (by decide +kernel)) rfl
theorem m3_222 : Cond.instanceMethod yX2_copyFrom ∈ bt := in_t3 (List.mem_of_getElem? (i := 222) (by decide +kernel)) rfl
theorem m3_223 : Cond.selects RX2 yX2_copyFrom yX2_copyFrom ∈ bt := in_t3 (List.mem_of_getElem? (i := 223) (by decide +kernel)) rfl
theorem m3_224 : Cond.code yX2_copyFrom cX2_copyFrom 2 (Option.none : Option Jvm.ClassFile.FieldType) ∈ bt := in_t3 (List.mem_of_getElem? (i := 224) (by decide +kernel)) rfl
theorem m3_225 : Cond.methodLink RX2 29 ({ cls := RJ10, name := "arraycopy", desc := "(Ljava/lang/Object;ILjava/lang/Object;II)V" } : Jvm.MethodName) ∈ bt := in_t3 (List.mem_of_getElem? (i := 225) (by decide +kernel)) rfl
theorem m3_226 : Cond.static ({ cls := RJ10, name := "arraycopy", desc := "(Ljava/lang/Object;ILjava/lang/Object;II)V" } : Jvm.MethodName) ∈ bt := in_t3 (List.mem_of_getElem? (i := 226) (by decide +kernel)) rfl
theorem m3_227 : Cond.native ({ cls := RJ10, name := "arraycopy", desc := "(Ljava/lang/Object;ILjava/lang/Object;II)V" } : Jvm.MethodName) ∈ lw_tbl := in_l3 (List.mem_of_getElem? (i := 227) (by decide +kernel))
theorem m3_228 : Cond.methodLink RX10 51 ({ cls := RJ10, name := "arraycopy", desc := "(Ljava/lang/Object;ILjava/lang/Object;II)V" } : Jvm.MethodName) ∈ bt := in_t3 (List.mem_of_getElem? (i := 228) (by decide +kernel)) rfl
theorem m3_229 : Cond.methodLink RX12 105 yX9_size ∈ bt := in_t3 (List.mem_of_getElem? (i := 229) (by decide +kernel)) rfl
theorem m3_230 : Cond.methodLink RL 131 yX12_errorCode ∈ bt := in_t3 (List.mem_of_getElem? (i := 230) (by decide +kernel)) rfl
theorem m3_231 : Cond.instanceMethod yX12_errorCode ∈ bt := in_t3 (List.mem_of_getElem? (i := 231) (by decide +kernel)) rfl
theorem m3_232 : Cond.selects RX12 yX12_errorCode yX12_errorCode ∈ bt := in_t3 (List.mem_of_getElem? (i := 232) (by decide +kernel)) rfl
theorem m3_233 : Cond.code yX12_errorCode cX12_errorCode 1 (Option.some Jvm.ClassFile.FieldType.int) ∈ bt := in_t3 (List.mem_of_getElem? (i := 233) (by decide +kernel)) rfl
theorem m3_234 : Cond.methodLink RL 135 yX12_errorOffset ∈ bt := in_t3 (List.mem_of_getElem? (i := 234) (by decide +kernel)) rfl
theorem m3_235 : Cond.instanceMethod yX12_errorOffset ∈ bt := in_t3 (List.mem_of_getElem? (i := 235) (by decide +kernel)) rfl
theorem m3_236 : Cond.selects RX12 yX12_errorOffset yX12_errorOffset ∈ bt := in_t3 (List.mem_of_getElem? (i := 236) (by decide +kernel)) rfl
theorem m3_237 : Cond.code yX12_errorOffset cX12_errorOffset 1 (Option.some Jvm.ClassFile.FieldType.int) ∈ bt := in_t3 (List.mem_of_getElem? (i := 237) (by decide +kernel)) rfl
theorem m3_238 : Cond.methodLink RL 139 yX12_count ∈ bt := in_t3 (List.mem_of_getElem? (i := 238) (by decide +kernel)) rfl
theorem m3_239 : Cond.instanceMethod yX12_count ∈ bt := in_t3 (List.mem_of_getElem? (i := 239) (by decide +kernel)) rfl
theorem m4_0 : Cond.selects RX12 yX12_count yX12_count ∈ bt := in_t4 (List.mem_of_getElem? (i := 0) (by decide +kernel)) rfl
theorem m4_1 : Cond.code yX12_count cX12_count 2 (Option.some Jvm.ClassFile.FieldType.int) ∈ bt := in_t4 (List.mem_of_getElem? (i := 1) (by decide +kernel)) rfl
theorem m4_2 : Cond.methodLink RX12 117 yX10_countBars ∈ bt := in_t4 (List.mem_of_getElem? (i := 2) (by decide +kernel)) rfl
theorem m4_3 : Cond.instanceMethod yX10_countBars ∈ bt := in_t4 (List.mem_of_getElem? (i := 3) (by decide +kernel)) rfl
theorem m4_4 : Cond.selects RX10 yX10_countBars yX10_countBars ∈ bt := in_t4 (List.mem_of_getElem? (i := 4) (by decide +kernel)) rfl
theorem m4_5 : Cond.code yX10_countBars cX10_countBars 3 (Option.some Jvm.ClassFile.FieldType.int) ∈ bt := in_t4 (List.mem_of_getElem? (i := 5) (by decide +kernel)) rfl
theorem m4_6 : Cond.methodLink RX10 92 yX9_size ∈ bt := in_t4 (List.mem_of_getElem? (i := 6) (by decide +kernel)) rfl
theorem m4_7 : Cond.methodLink RX10 98 yJ6_bitCount_0f7a4 ∈ bt := in_t4 (List.mem_of_getElem? (i := 7) (by decide +kernel)) rfl
theorem m4_8 : Cond.static yJ6_bitCount_0f7a4 ∈ bt := in_t4 (List.mem_of_getElem? (i := 8) (by decide +kernel)) rfl
theorem m4_9 : Cond.code yJ6_bitCount_0f7a4 cJ6_bitCount_0f7a4 1 (Option.some Jvm.ClassFile.FieldType.int) ∈ bt := in_t4 (List.mem_of_getElem? (i := 9) (by decide +kernel)) rfl
theorem m4_10 : Cond.constant RJ6 265 (1431655765 : Int32) ∈ bt := in_t4 (List.mem_of_getElem? (i := 10) (by decide +kernel)) rfl
theorem m4_11 : Cond.constant RJ6 266 (858993459 : Int32) ∈ bt := in_t4 (List.mem_of_getElem? (i := 11) (by decide +kernel)) rfl
theorem m4_12 : Cond.constant RJ6 267 (252645135 : Int32) ∈ bt := in_t4 (List.mem_of_getElem? (i := 12) (by decide +kernel)) rfl
theorem m4_13 : Cond.methodLink RX12 121 yX9_countConflicts ∈ bt := in_t4 (List.mem_of_getElem? (i := 13) (by decide +kernel)) rfl
theorem m4_14 : Cond.instanceMethod yX9_countConflicts ∈ bt := in_t4 (List.mem_of_getElem? (i := 14) (by decide +kernel)) rfl
theorem m4_15 : Cond.selects RX9 yX9_countConflicts yX9_countConflicts ∈ bt := in_t4 (List.mem_of_getElem? (i := 15) (by decide +kernel)) rfl
theorem m4_16 : Cond.code yX9_countConflicts cX9_countConflicts 3 (Option.some Jvm.ClassFile.FieldType.int) ∈ bt := in_t4 (List.mem_of_getElem? (i := 16) (by decide +kernel)) rfl
theorem m4_17 : Cond.methodLink RX9 87 yX9_size ∈ bt := in_t4 (List.mem_of_getElem? (i := 17) (by decide +kernel)) rfl
theorem m4_18 : Cond.methodLink RX9 97 yJ6_bitCount_0f7a4 ∈ bt := in_t4 (List.mem_of_getElem? (i := 18) (by decide +kernel)) rfl
theorem m4_19 : Cond.methodLink RX12 130 yX10_countPhase ∈ bt := in_t4 (List.mem_of_getElem? (i := 19) (by decide +kernel)) rfl
theorem m4_20 : Cond.instanceMethod yX10_countPhase ∈ bt := in_t4 (List.mem_of_getElem? (i := 20) (by decide +kernel)) rfl
theorem m4_21 : Cond.selects RX10 yX10_countPhase yX10_countPhase ∈ bt := in_t4 (List.mem_of_getElem? (i := 21) (by decide +kernel)) rfl
theorem m4_22 : Cond.code yX10_countPhase cX10_countPhase 4 (Option.some Jvm.ClassFile.FieldType.int) ∈ bt := in_t4 (List.mem_of_getElem? (i := 22) (by decide +kernel)) rfl
theorem m4_23 : Cond.methodLink RL 206 yX12_fewestOfficers ∈ bt := in_t4 (List.mem_of_getElem? (i := 23) (by decide +kernel)) rfl
theorem m4_24 : Cond.instanceMethod yX12_fewestOfficers ∈ bt := in_t4 (List.mem_of_getElem? (i := 24) (by decide +kernel)) rfl
theorem m4_25 : Cond.selects RX12 yX12_fewestOfficers yX12_fewestOfficers ∈ bt := in_t4 (List.mem_of_getElem? (i := 25) (by decide +kernel)) rfl
theorem m4_26 : Cond.code yX12_fewestOfficers cX12_fewestOfficers 1 (Option.some Jvm.ClassFile.FieldType.int) ∈ bt := in_t4 (List.mem_of_getElem? (i := 26) (by decide +kernel)) rfl
theorem m4_27 : Cond.methodLink RX12 312 yX1_countFewest ∈ bt := in_t4 (List.mem_of_getElem? (i := 27) (by decide +kernel)) rfl
theorem m4_28 : Cond.instanceMethod yX1_countFewest ∈ bt := in_t4 (List.mem_of_getElem? (i := 28) (by decide +kernel)) rfl
theorem m4_29 : Cond.selects RX1 yX1_countFewest yX1_countFewest ∈ bt := in_t4 (List.mem_of_getElem? (i := 29) (by decide +kernel)) rfl
theorem m4_30 : Cond.code yX1_countFewest cX1_countFewest 3 (Option.some Jvm.ClassFile.FieldType.int) ∈ bt := in_t4 (List.mem_of_getElem? (i := 30) (by decide +kernel)) rfl
theorem m4_31 : Cond.methodLink RX1 21 yX1_prepare ∈ bt := in_t4 (List.mem_of_getElem? (i := 31) (by decide +kernel)) rfl
theorem m4_33 : Cond.instanceMethod yX1_prepare ∈ bt := in_t4 (List.mem_of_getElem? (i := 33) (by decide +kernel)) rfl
theorem m4_34 : Cond.code yX1_prepare cX1_prepare 4 (Option.none : Option Jvm.ClassFile.FieldType) ∈ bt := in_t4 (List.mem_of_getElem? (i := 34) (by decide +kernel)) rfl
theorem m4_35 : Cond.methodLink RX1 46 yX9_size ∈ bt := in_t4 (List.mem_of_getElem? (i := 35) (by decide +kernel)) rfl
theorem m4_36 : Cond.methodLink RX1 51 yJ7_fill_53178 ∈ bt := in_t4 (List.mem_of_getElem? (i := 36) (by decide +kernel)) rfl
theorem m4_37 : Cond.methodLinkNest RX1 32 yX12_allOf RX12 ∈ nb := in_n4 (List.mem_of_getElem? (i := 37) (by decide +kernel)) rfl
theorem m4_38 : Cond.static yX12_allOf ∈ bt := in_t4 (List.mem_of_getElem? (i := 38) (by decide +kernel)) rfl
theorem m4_39 : Cond.code yX12_allOf cX12_allOf 1 (Option.some Jvm.ClassFile.FieldType.int) ∈ bt := in_t4 (List.mem_of_getElem? (i := 39) (by decide +kernel)) rfl
theorem m4_40 : Cond.methodLinkNest RX1 68 yX12_has RX12 ∈ nb := in_n4 (List.mem_of_getElem? (i := 40) (by decide +kernel)) rfl
theorem m4_41 : Cond.methodLink RX1 36 yX1_gives ∈ bt := in_t4 (List.mem_of_getElem? (i := 41) (by decide +kernel)) rfl
theorem m4_42 : Cond.static yX1_gives ∈ bt := in_t4 (List.mem_of_getElem? (i := 42) (by decide +kernel)) rfl
theorem m4_43 : Cond.code yX1_gives cX1_gives 9 (Option.some Jvm.ClassFile.FieldType.boolean) ∈ bt := in_t4 (List.mem_of_getElem? (i := 43) (by decide +kernel)) rfl
theorem m4_44 : Cond.methodLink RX1 72 yJ6_bitCount_0f7a4 ∈ bt := in_t4 (List.mem_of_getElem? (i := 44) (by decide +kernel)) rfl
theorem m4_45 : Cond.methodLink RX1 77 yX1_hardest ∈ bt := in_t4 (List.mem_of_getElem? (i := 45) (by decide +kernel)) rfl
theorem m4_47 : Cond.instanceMethod yX1_hardest ∈ bt := in_t4 (List.mem_of_getElem? (i := 47) (by decide +kernel)) rfl
theorem m4_48 : Cond.code yX1_hardest cX1_hardest 9 (Option.some Jvm.ClassFile.FieldType.int) ∈ bt := in_t4 (List.mem_of_getElem? (i := 48) (by decide +kernel)) rfl
theorem m4_49 : Cond.methodLink RX1 81 yX1_isSpare ∈ bt := in_t4 (List.mem_of_getElem? (i := 49) (by decide +kernel)) rfl
theorem m4_51 : Cond.instanceMethod yX1_isSpare ∈ bt := in_t4 (List.mem_of_getElem? (i := 51) (by decide +kernel)) rfl
theorem m4_52 : Cond.code yX1_isSpare cX1_isSpare 6 (Option.some Jvm.ClassFile.FieldType.boolean) ∈ bt := in_t4 (List.mem_of_getElem? (i := 52) (by decide +kernel)) rfl
theorem m4_53 : Cond.methodLink RX1 85 yX1_giveTo ∈ bt := in_t4 (List.mem_of_getElem? (i := 53) (by decide +kernel)) rfl
theorem m4_55 : Cond.instanceMethod yX1_giveTo ∈ bt := in_t4 (List.mem_of_getElem? (i := 55) (by decide +kernel)) rfl
theorem m4_56 : Cond.code yX1_giveTo cX1_giveTo 7 (Option.none : Option Jvm.ClassFile.FieldType) ∈ bt := in_t4 (List.mem_of_getElem? (i := 56) (by decide +kernel)) rfl
theorem m4_57 : Cond.methodLink RL 210 yX12_meanSlack ∈ bt := in_t4 (List.mem_of_getElem? (i := 57) (by decide +kernel)) rfl
theorem m4_58 : Cond.instanceMethod yX12_meanSlack ∈ bt := in_t4 (List.mem_of_getElem? (i := 58) (by decide +kernel)) rfl
theorem m4_59 : Cond.selects RX12 yX12_meanSlack yX12_meanSlack ∈ bt := in_t4 (List.mem_of_getElem? (i := 59) (by decide +kernel)) rfl
theorem m4_60 : Cond.code yX12_meanSlack cX12_meanSlack 4 (Option.some Jvm.ClassFile.FieldType.double) ∈ bt := in_t4 (List.mem_of_getElem? (i := 60) (by decide +kernel)) rfl
theorem m4_61 : Cond.methodLink RX12 306 yX10_slackOf ∈ bt := in_t4 (List.mem_of_getElem? (i := 61) (by decide +kernel)) rfl
theorem m4_62 : Cond.instanceMethod yX10_slackOf ∈ bt := in_t4 (List.mem_of_getElem? (i := 62) (by decide +kernel)) rfl
theorem m4_63 : Cond.selects RX10 yX10_slackOf yX10_slackOf ∈ bt := in_t4 (List.mem_of_getElem? (i := 63) (by decide +kernel)) rfl
theorem m4_64 : Cond.code yX10_slackOf cX10_slackOf 2 (Option.some Jvm.ClassFile.FieldType.int) ∈ bt := in_t4 (List.mem_of_getElem? (i := 64) (by decide +kernel)) rfl
theorem m4_65 : Cond.methodLink RX10 84 yX10_limitDay ∈ bt := in_t4 (List.mem_of_getElem? (i := 65) (by decide +kernel)) rfl
theorem m4_66 : Cond.instanceMethod yX10_limitDay ∈ bt := in_t4 (List.mem_of_getElem? (i := 66) (by decide +kernel)) rfl
theorem m4_67 : Cond.selects RX10 yX10_limitDay yX10_limitDay ∈ bt := in_t4 (List.mem_of_getElem? (i := 67) (by decide +kernel)) rfl
theorem m4_68 : Cond.code yX10_limitDay cX10_limitDay 5 (Option.some Jvm.ClassFile.FieldType.int) ∈ bt := in_t4 (List.mem_of_getElem? (i := 68) (by decide +kernel)) rfl
theorem m4_69 : Cond.methodLink RX10 72 yX10_works ∈ bt := in_t4 (List.mem_of_getElem? (i := 69) (by decide +kernel)) rfl
theorem m4_70 : Cond.instanceMethod yX10_works ∈ bt := in_t4 (List.mem_of_getElem? (i := 70) (by decide +kernel)) rfl
theorem m4_71 : Cond.selects RX10 yX10_works yX10_works ∈ bt := in_t4 (List.mem_of_getElem? (i := 71) (by decide +kernel)) rfl
theorem m4_72 : Cond.code yX10_works cX10_works 2 (Option.some Jvm.ClassFile.FieldType.boolean) ∈ bt := in_t4 (List.mem_of_getElem? (i := 72) (by decide +kernel)) rfl
theorem m4_73 : Cond.methodLink RX10 68 yX2_contains ∈ bt := in_t4 (List.mem_of_getElem? (i := 73) (by decide +kernel)) rfl
theorem m4_74 : Cond.methodLink RX10 88 yX10_countWorking ∈ bt := in_t4 (List.mem_of_getElem? (i := 74) (by decide +kernel)) rfl
theorem m4_75 : Cond.instanceMethod yX10_countWorking ∈ bt := in_t4 (List.mem_of_getElem? (i := 75) (by decide +kernel)) rfl
theorem m4_76 : Cond.selects RX10 yX10_countWorking yX10_countWorking ∈ bt := in_t4 (List.mem_of_getElem? (i := 76) (by decide +kernel)) rfl
theorem m4_77 : Cond.code yX10_countWorking cX10_countWorking 5 (Option.some Jvm.ClassFile.FieldType.int) ∈ bt := in_t4 (List.mem_of_getElem? (i := 77) (by decide +kernel)) rfl
theorem m4_78 : Cond.methodLink RL 228 yX12_planAll ∈ bt := in_t4 (List.mem_of_getElem? (i := 78) (by decide +kernel)) rfl
theorem m4_79 : Cond.instanceMethod yX12_planAll ∈ bt := in_t4 (List.mem_of_getElem? (i := 79) (by decide +kernel)) rfl
theorem m4_80 : Cond.selects RX12 yX12_planAll yX12_planAll ∈ bt := in_t4 (List.mem_of_getElem? (i := 80) (by decide +kernel)) rfl
theorem m4_81 : Cond.code yX12_planAll cX12_planAll 1 (Option.some Jvm.ClassFile.FieldType.int) ∈ bt := in_t4 (List.mem_of_getElem? (i := 81) (by decide +kernel)) rfl
theorem m4_82 : Cond.methodLink RX12 325 yX12_remember ∈ bt := in_t4 (List.mem_of_getElem? (i := 82) (by decide +kernel)) rfl
theorem m4_84 : Cond.instanceMethod yX12_remember ∈ bt := in_t4 (List.mem_of_getElem? (i := 84) (by decide +kernel)) rfl
theorem m4_85 : Cond.code yX12_remember cX12_remember 3 (Option.none : Option Jvm.ClassFile.FieldType) ∈ bt := in_t4 (List.mem_of_getElem? (i := 85) (by decide +kernel)) rfl
theorem m4_86 : Cond.methodLink RX12 362 yX10_copyFrom ∈ bt := in_t4 (List.mem_of_getElem? (i := 86) (by decide +kernel)) rfl
theorem m4_87 : Cond.instanceMethod yX10_copyFrom ∈ bt := in_t4 (List.mem_of_getElem? (i := 87) (by decide +kernel)) rfl
theorem m4_88 : Cond.selects RX10 yX10_copyFrom yX10_copyFrom ∈ bt := in_t4 (List.mem_of_getElem? (i := 88) (by decide +kernel)) rfl
theorem m4_89 : Cond.code yX10_copyFrom cX10_copyFrom 3 (Option.none : Option Jvm.ClassFile.FieldType) ∈ bt := in_t4 (List.mem_of_getElem? (i := 89) (by decide +kernel)) rfl
theorem m4_90 : Cond.methodLink RX10 65 yX7_copyFrom ∈ bt := in_t4 (List.mem_of_getElem? (i := 90) (by decide +kernel)) rfl
theorem m4_91 : Cond.instanceMethod yX7_copyFrom ∈ bt := in_t4 (List.mem_of_getElem? (i := 91) (by decide +kernel)) rfl
theorem m4_92 : Cond.selects RX7 yX7_copyFrom yX7_copyFrom ∈ bt := in_t4 (List.mem_of_getElem? (i := 92) (by decide +kernel)) rfl
theorem m4_93 : Cond.code yX7_copyFrom cX7_copyFrom 2 (Option.none : Option Jvm.ClassFile.FieldType) ∈ bt := in_t4 (List.mem_of_getElem? (i := 93) (by decide +kernel)) rfl
theorem m4_94 : Cond.methodLink RX7 40 ({ cls := RJ10, name := "arraycopy", desc := "(Ljava/lang/Object;ILjava/lang/Object;II)V" } : Jvm.MethodName) ∈ bt := in_t4 (List.mem_of_getElem? (i := 94) (by decide +kernel)) rfl
theorem m4_95 : Cond.methodLink RX12 342 yX6_planWaiting ∈ bt := in_t4 (List.mem_of_getElem? (i := 95) (by decide +kernel)) rfl
theorem m4_96 : Cond.instanceMethod yX6_planWaiting ∈ bt := in_t4 (List.mem_of_getElem? (i := 96) (by decide +kernel)) rfl
theorem m4_97 : Cond.selects RX6 yX6_planWaiting yX6_planWaiting ∈ bt := in_t4 (List.mem_of_getElem? (i := 97) (by decide +kernel)) rfl
theorem m4_98 : Cond.code yX6_planWaiting cX6_planWaiting 6 (Option.some Jvm.ClassFile.FieldType.int) ∈ bt := in_t4 (List.mem_of_getElem? (i := 98) (by decide +kernel)) rfl
theorem m4_99 : Cond.methodLink RX6 118 yX10_sortWaiting ∈ bt := in_t4 (List.mem_of_getElem? (i := 99) (by decide +kernel)) rfl
theorem m4_100 : Cond.instanceMethod yX10_sortWaiting ∈ bt := in_t4 (List.mem_of_getElem? (i := 100) (by decide +kernel)) rfl
theorem m4_101 : Cond.selects RX10 yX10_sortWaiting yX10_sortWaiting ∈ bt := in_t4 (List.mem_of_getElem? (i := 101) (by decide +kernel)) rfl
theorem m4_102 : Cond.code yX10_sortWaiting cX10_sortWaiting 4 (Option.some Jvm.ClassFile.FieldType.int) ∈ bt := in_t4 (List.mem_of_getElem? (i := 102) (by decide +kernel)) rfl
theorem m4_103 : Cond.methodLink RX10 144 yX10_urgencyKey ∈ bt := in_t4 (List.mem_of_getElem? (i := 103) (by decide +kernel)) rfl
theorem m4_105 : Cond.instanceMethod yX10_urgencyKey ∈ bt := in_t4 (List.mem_of_getElem? (i := 105) (by decide +kernel)) rfl
theorem m4_106 : Cond.code yX10_urgencyKey cX10_urgencyKey 3 (Option.some Jvm.ClassFile.FieldType.int) ∈ bt := in_t4 (List.mem_of_getElem? (i := 106) (by decide +kernel)) rfl
theorem m4_107 : Cond.methodLink RX10 147 yX10_insert ∈ bt := in_t4 (List.mem_of_getElem? (i := 107) (by decide +kernel)) rfl
theorem m4_108 : Cond.static yX10_insert ∈ bt := in_t4 (List.mem_of_getElem? (i := 108) (by decide +kernel)) rfl
theorem m4_109 : Cond.code yX10_insert cX10_insert 4 (Option.none : Option Jvm.ClassFile.FieldType) ∈ bt := in_t4 (List.mem_of_getElem? (i := 109) (by decide +kernel)) rfl
theorem m4_110 : Cond.methodLink RX6 122 yX6_findFirst ∈ bt := in_t4 (List.mem_of_getElem? (i := 110) (by decide +kernel)) rfl
theorem m4_111 : Cond.instanceMethod yX6_findFirst ∈ bt := in_t4 (List.mem_of_getElem? (i := 111) (by decide +kernel)) rfl
theorem m4_112 : Cond.selects RX6 yX6_findFirst yX6_findFirst ∈ bt := in_t4 (List.mem_of_getElem? (i := 112) (by decide +kernel)) rfl
theorem m4_113 : Cond.code yX6_findFirst cX6_findFirst 6 (Option.some Jvm.ClassFile.FieldType.boolean) ∈ bt := in_t4 (List.mem_of_getElem? (i := 113) (by decide +kernel)) rfl
theorem m4_114 : Cond.methodLink RX6 53 yX6_lookAtOfficers ∈ bt := in_t4 (List.mem_of_getElem? (i := 114) (by decide +kernel)) rfl
theorem m4_116 : Cond.instanceMethod yX6_lookAtOfficers ∈ bt := in_t4 (List.mem_of_getElem? (i := 116) (by decide +kernel)) rfl
theorem m4_117 : Cond.code yX6_lookAtOfficers cX6_lookAtOfficers 4 (Option.none : Option Jvm.ClassFile.FieldType) ∈ bt := in_t4 (List.mem_of_getElem? (i := 117) (by decide +kernel)) rfl
theorem m4_118 : Cond.methodLink RX6 147 yX10_barredOfficers ∈ bt := in_t4 (List.mem_of_getElem? (i := 118) (by decide +kernel)) rfl
theorem m4_119 : Cond.instanceMethod yX10_barredOfficers ∈ bt := in_t4 (List.mem_of_getElem? (i := 119) (by decide +kernel)) rfl
theorem m4_120 : Cond.selects RX10 yX10_barredOfficers yX10_barredOfficers ∈ bt := in_t4 (List.mem_of_getElem? (i := 120) (by decide +kernel)) rfl
theorem m4_121 : Cond.code yX10_barredOfficers cX10_barredOfficers 5 (Option.some Jvm.ClassFile.FieldType.int) ∈ bt := in_t4 (List.mem_of_getElem? (i := 121) (by decide +kernel)) rfl
theorem m4_122 : Cond.methodLinkNest RX10 106 yX12_has RX12 ∈ nb := in_n4 (List.mem_of_getElem? (i := 122) (by decide +kernel)) rfl
theorem m4_123 : Cond.methodLink RX6 141 yX9_size ∈ bt := in_t4 (List.mem_of_getElem? (i := 123) (by decide +kernel)) rfl
theorem m4_124 : Cond.methodLink RX6 150 yX10_loadOf ∈ bt := in_t4 (List.mem_of_getElem? (i := 124) (by decide +kernel)) rfl
theorem m4_125 : Cond.instanceMethod yX10_loadOf ∈ bt := in_t4 (List.mem_of_getElem? (i := 125) (by decide +kernel)) rfl
theorem m4_126 : Cond.selects RX10 yX10_loadOf yX10_loadOf ∈ bt := in_t4 (List.mem_of_getElem? (i := 126) (by decide +kernel)) rfl
theorem m4_127 : Cond.code yX10_loadOf cX10_loadOf 4 (Option.some Jvm.ClassFile.FieldType.int) ∈ bt := in_t4 (List.mem_of_getElem? (i := 127) (by decide +kernel)) rfl
theorem m4_128 : Cond.methodLink RX6 87 yX6_lastDay ∈ bt := in_t4 (List.mem_of_getElem? (i := 128) (by decide +kernel)) rfl
theorem m4_129 : Cond.static yX6_lastDay ∈ bt := in_t4 (List.mem_of_getElem? (i := 129) (by decide +kernel)) rfl
theorem m4_130 : Cond.code yX6_lastDay cX6_lastDay 2 (Option.some Jvm.ClassFile.FieldType.int) ∈ bt := in_t4 (List.mem_of_getElem? (i := 130) (by decide +kernel)) rfl
theorem m4_131 : Cond.methodLink RX6 49 yX10_limitDay ∈ bt := in_t4 (List.mem_of_getElem? (i := 131) (by decide +kernel)) rfl
theorem m4_132 : Cond.methodLink RX6 134 yJ9_min_7cf53 ∈ bt := in_t4 (List.mem_of_getElem? (i := 132) (by decide +kernel)) rfl
theorem m4_133 : Cond.methodLink RX6 91 yX6_firstDay ∈ bt := in_t4 (List.mem_of_getElem? (i := 133) (by decide +kernel)) rfl
theorem m4_134 : Cond.static yX6_firstDay ∈ bt := in_t4 (List.mem_of_getElem? (i := 134) (by decide +kernel)) rfl
theorem m4_135 : Cond.code yX6_firstDay cX6_firstDay 2 (Option.some Jvm.ClassFile.FieldType.int) ∈ bt := in_t4 (List.mem_of_getElem? (i := 135) (by decide +kernel)) rfl
theorem m4_136 : Cond.methodLink RX6 129 yJ9_max_7cf53 ∈ bt := in_t4 (List.mem_of_getElem? (i := 136) (by decide +kernel)) rfl
theorem m4_137 : Cond.methodLink RX6 94 yX6_findOn ∈ bt := in_t4 (List.mem_of_getElem? (i := 137) (by decide +kernel)) rfl
theorem m4_139 : Cond.instanceMethod yX6_findOn ∈ bt := in_t4 (List.mem_of_getElem? (i := 139) (by decide +kernel)) rfl
theorem m4_140 : Cond.code yX6_findOn cX6_findOn 8 (Option.some Jvm.ClassFile.FieldType.boolean) ∈ bt := in_t4 (List.mem_of_getElem? (i := 140) (by decide +kernel)) rfl
theorem m4_141 : Cond.methodLink RX6 45 yX10_works ∈ bt := in_t4 (List.mem_of_getElem? (i := 141) (by decide +kernel)) rfl
theorem m4_142 : Cond.methodLink RX6 57 yX6_lookAtDay ∈ bt := in_t4 (List.mem_of_getElem? (i := 142) (by decide +kernel)) rfl
theorem m4_144 : Cond.instanceMethod yX6_lookAtDay ∈ bt := in_t4 (List.mem_of_getElem? (i := 144) (by decide +kernel)) rfl
theorem m4_145 : Cond.code yX6_lookAtDay cX6_lookAtDay 10 (Option.none : Option Jvm.ClassFile.FieldType) ∈ bt := in_t4 (List.mem_of_getElem? (i := 145) (by decide +kernel)) rfl
theorem m4_146 : Cond.methodLink RX6 156 yJ7_fill_53178 ∈ bt := in_t4 (List.mem_of_getElem? (i := 146) (by decide +kernel)) rfl
theorem m4_147 : Cond.methodLink RX6 162 yX9_awayOfficers ∈ bt := in_t4 (List.mem_of_getElem? (i := 147) (by decide +kernel)) rfl
theorem m4_148 : Cond.instanceMethod yX9_awayOfficers ∈ bt := in_t4 (List.mem_of_getElem? (i := 148) (by decide +kernel)) rfl
theorem m4_149 : Cond.selects RX9 yX9_awayOfficers yX9_awayOfficers ∈ bt := in_t4 (List.mem_of_getElem? (i := 149) (by decide +kernel)) rfl
theorem m4_150 : Cond.code yX9_awayOfficers cX9_awayOfficers 4 (Option.some Jvm.ClassFile.FieldType.int) ∈ bt := in_t4 (List.mem_of_getElem? (i := 150) (by decide +kernel)) rfl
theorem m4_151 : Cond.methodLink RX9 90 yX9_isAway ∈ bt := in_t4 (List.mem_of_getElem? (i := 151) (by decide +kernel)) rfl
theorem m4_152 : Cond.instanceMethod yX9_isAway ∈ bt := in_t4 (List.mem_of_getElem? (i := 152) (by decide +kernel)) rfl
theorem m4_153 : Cond.selects RX9 yX9_isAway yX9_isAway ∈ bt := in_t4 (List.mem_of_getElem? (i := 153) (by decide +kernel)) rfl
theorem m4_154 : Cond.code yX9_isAway cX9_isAway 5 (Option.some Jvm.ClassFile.FieldType.boolean) ∈ bt := in_t4 (List.mem_of_getElem? (i := 154) (by decide +kernel)) rfl
theorem m4_155 : Cond.methodLink RX6 165 yX10_slotsOutside ∈ bt := in_t4 (List.mem_of_getElem? (i := 155) (by decide +kernel)) rfl
theorem m4_156 : Cond.instanceMethod yX10_slotsOutside ∈ bt := in_t4 (List.mem_of_getElem? (i := 156) (by decide +kernel)) rfl
theorem m4_157 : Cond.selects RX10 yX10_slotsOutside yX10_slotsOutside ∈ bt := in_t4 (List.mem_of_getElem? (i := 157) (by decide +kernel)) rfl
theorem m4_158 : Cond.code yX10_slotsOutside cX10_slotsOutside 7 (Option.some Jvm.ClassFile.FieldType.int) ∈ bt := in_t4 (List.mem_of_getElem? (i := 158) (by decide +kernel)) rfl
theorem m4_159 : Cond.methodLinkNest RX10 129 yX12_slotSet RX12 ∈ nb := in_n4 (List.mem_of_getElem? (i := 159) (by decide +kernel)) rfl
theorem m4_160 : Cond.methodLink RX6 168 yX7_isOn ∈ bt := in_t4 (List.mem_of_getElem? (i := 160) (by decide +kernel)) rfl
theorem m4_161 : Cond.instanceMethod yX7_isOn ∈ bt := in_t4 (List.mem_of_getElem? (i := 161) (by decide +kernel)) rfl
theorem m4_162 : Cond.selects RX7 yX7_isOn yX7_isOn ∈ bt := in_t4 (List.mem_of_getElem? (i := 162) (by decide +kernel)) rfl
theorem m4_163 : Cond.code yX7_isOn cX7_isOn 2 (Option.some Jvm.ClassFile.FieldType.boolean) ∈ bt := in_t4 (List.mem_of_getElem? (i := 163) (by decide +kernel)) rfl
theorem m4_164 : Cond.methodLink RX6 171 yX10_slotsOf ∈ bt := in_t4 (List.mem_of_getElem? (i := 164) (by decide +kernel)) rfl
theorem m4_165 : Cond.instanceMethod yX10_slotsOf ∈ bt := in_t4 (List.mem_of_getElem? (i := 165) (by decide +kernel)) rfl
theorem m4_166 : Cond.selects RX10 yX10_slotsOf yX10_slotsOf ∈ bt := in_t4 (List.mem_of_getElem? (i := 166) (by decide +kernel)) rfl
theorem m4_167 : Cond.code yX10_slotsOf cX10_slotsOf 2 (Option.some Jvm.ClassFile.FieldType.int) ∈ bt := in_t4 (List.mem_of_getElem? (i := 167) (by decide +kernel)) rfl
theorem m4_168 : Cond.methodLink RX6 175 yX6_take ∈ bt := in_t4 (List.mem_of_getElem? (i := 168) (by decide +kernel)) rfl
theorem m4_169 : Cond.static yX6_take ∈ bt := in_t4 (List.mem_of_getElem? (i := 169) (by decide +kernel)) rfl
theorem m4_170 : Cond.code yX6_take cX6_take 3 (Option.none : Option Jvm.ClassFile.FieldType) ∈ bt := in_t4 (List.mem_of_getElem? (i := 170) (by decide +kernel)) rfl
theorem m4_171 : Cond.methodLinkNest RX6 64 yX12_slotSet RX12 ∈ nb := in_n4 (List.mem_of_getElem? (i := 171) (by decide +kernel)) rfl
theorem m4_172 : Cond.methodLink RX6 137 yX6_findIn ∈ bt := in_t4 (List.mem_of_getElem? (i := 172) (by decide +kernel)) rfl
theorem m4_174 : Cond.instanceMethod yX6_findIn ∈ bt := in_t4 (List.mem_of_getElem? (i := 174) (by decide +kernel)) rfl
theorem m4_175 : Cond.code yX6_findIn cX6_findIn 5 (Option.some Jvm.ClassFile.FieldType.boolean) ∈ bt := in_t4 (List.mem_of_getElem? (i := 175) (by decide +kernel)) rfl
theorem m4_176 : Cond.methodLink RX6 144 yX6_leastLoaded ∈ bt := in_t4 (List.mem_of_getElem? (i := 176) (by decide +kernel)) rfl
theorem m4_178 : Cond.instanceMethod yX6_leastLoaded ∈ bt := in_t4 (List.mem_of_getElem? (i := 178) (by decide +kernel)) rfl
theorem m4_179 : Cond.code yX6_leastLoaded cX6_leastLoaded 6 (Option.some Jvm.ClassFile.FieldType.int) ∈ bt := in_t4 (List.mem_of_getElem? (i := 179) (by decide +kernel)) rfl
theorem m4_180 : Cond.methodLinkNest RX6 74 yX12_has RX12 ∈ nb := in_n4 (List.mem_of_getElem? (i := 180) (by decide +kernel)) rfl
theorem m4_181 : Cond.methodLink RX6 126 yX6_setFound ∈ bt := in_t4 (List.mem_of_getElem? (i := 181) (by decide +kernel)) rfl
theorem m4_182 : Cond.instanceMethod yX6_setFound ∈ bt := in_t4 (List.mem_of_getElem? (i := 182) (by decide +kernel)) rfl
theorem m4_183 : Cond.selects RX6 yX6_setFound yX6_setFound ∈ bt := in_t4 (List.mem_of_getElem? (i := 183) (by decide +kernel)) rfl
theorem m4_184 : Cond.code yX6_setFound cX6_setFound 3 (Option.none : Option Jvm.ClassFile.FieldType) ∈ bt := in_t4 (List.mem_of_getElem? (i := 184) (by decide +kernel)) rfl
theorem m4_185 : Cond.methodLink RX6 112 yX7_setHearing ∈ bt := in_t4 (List.mem_of_getElem? (i := 185) (by decide +kernel)) rfl
theorem m4_186 : Cond.instanceMethod yX7_setHearing ∈ bt := in_t4 (List.mem_of_getElem? (i := 186) (by decide +kernel)) rfl
theorem m4_187 : Cond.selects RX7 yX7_setHearing yX7_setHearing ∈ bt := in_t4 (List.mem_of_getElem? (i := 187) (by decide +kernel)) rfl
theorem m4_188 : Cond.code yX7_setHearing cX7_setHearing 5 (Option.none : Option Jvm.ClassFile.FieldType) ∈ bt := in_t4 (List.mem_of_getElem? (i := 188) (by decide +kernel)) rfl
theorem m4_189 : Cond.methodLink RL 251 yX12_plannable ∈ bt := in_t4 (List.mem_of_getElem? (i := 189) (by decide +kernel)) rfl
theorem m4_190 : Cond.instanceMethod yX12_plannable ∈ bt := in_t4 (List.mem_of_getElem? (i := 190) (by decide +kernel)) rfl
theorem m4_191 : Cond.selects RX12 yX12_plannable yX12_plannable ∈ bt := in_t4 (List.mem_of_getElem? (i := 191) (by decide +kernel)) rfl
theorem m4_192 : Cond.code yX12_plannable cX12_plannable 1 (Option.some Jvm.ClassFile.FieldType.int) ∈ bt := in_t4 (List.mem_of_getElem? (i := 192) (by decide +kernel)) rfl
theorem m4_193 : Cond.methodLink RX12 366 yX12_forecastPlanned ∈ bt := in_t4 (List.mem_of_getElem? (i := 193) (by decide +kernel)) rfl
theorem m4_195 : Cond.instanceMethod yX12_forecastPlanned ∈ bt := in_t4 (List.mem_of_getElem? (i := 195) (by decide +kernel)) rfl
theorem m4_196 : Cond.code yX12_forecastPlanned cX12_forecastPlanned 2 (Option.some Jvm.ClassFile.FieldType.int) ∈ bt := in_t4 (List.mem_of_getElem? (i := 196) (by decide +kernel)) rfl
theorem m4_197 : Cond.methodLink RL 255 yX12_keyOfficer ∈ bt := in_t4 (List.mem_of_getElem? (i := 197) (by decide +kernel)) rfl
theorem m4_198 : Cond.instanceMethod yX12_keyOfficer ∈ bt := in_t4 (List.mem_of_getElem? (i := 198) (by decide +kernel)) rfl
theorem m4_199 : Cond.selects RX12 yX12_keyOfficer yX12_keyOfficer ∈ bt := in_t4 (List.mem_of_getElem? (i := 199) (by decide +kernel)) rfl
theorem m4_200 : Cond.code yX12_keyOfficer cX12_keyOfficer 5 (Option.some Jvm.ClassFile.FieldType.int) ∈ bt := in_t4 (List.mem_of_getElem? (i := 200) (by decide +kernel)) rfl
theorem m4_201 : Cond.methodLink RL 262 yX12_outputByte ∈ bt := in_t4 (List.mem_of_getElem? (i := 201) (by decide +kernel)) rfl
theorem m4_202 : Cond.instanceMethod yX12_outputByte ∈ bt := in_t4 (List.mem_of_getElem? (i := 202) (by decide +kernel)) rfl
theorem m4_203 : Cond.selects RX12 yX12_outputByte yX12_outputByte ∈ bt := in_t4 (List.mem_of_getElem? (i := 203) (by decide +kernel)) rfl
theorem m4_204 : Cond.code yX12_outputByte cX12_outputByte 2 (Option.some Jvm.ClassFile.FieldType.int) ∈ bt := in_t4 (List.mem_of_getElem? (i := 204) (by decide +kernel)) rfl
theorem m4_205 : Cond.methodLink RL 266 yX12_saveState ∈ bt := in_t4 (List.mem_of_getElem? (i := 205) (by decide +kernel)) rfl
theorem m4_206 : Cond.instanceMethod yX12_saveState ∈ bt := in_t4 (List.mem_of_getElem? (i := 206) (by decide +kernel)) rfl
theorem m4_207 : Cond.selects RX12 yX12_saveState yX12_saveState ∈ bt := in_t4 (List.mem_of_getElem? (i := 207) (by decide +kernel)) rfl
theorem m4_208 : Cond.code yX12_saveState cX12_saveState 1 (Option.some Jvm.ClassFile.FieldType.int) ∈ bt := in_t4 (List.mem_of_getElem? (i := 208) (by decide +kernel)) rfl
theorem m4_209 : Cond.methodLink RL 143 yL_find ∈ bt := in_t4 (List.mem_of_getElem? (i := 209) (by decide +kernel)) rfl
theorem m4_210 : Cond.static yL_find ∈ bt := in_t4 (List.mem_of_getElem? (i := 210) (by decide +kernel)) rfl
theorem m4_211 : Cond.codeWith yL_find cL_find 4 (Option.some Jvm.ClassFile.FieldType.int) [(0, 9, 12, 13)] ∈ bt := in_t4 (List.mem_of_getElem? (i := 211) (by decide +kernel)) rfl
theorem m4_212 : Cond.classLink RL 13 "java/lang/IllegalArgumentException" ∈ bt := in_t4 (List.mem_of_getElem? (i := 212) (by decide +kernel)) rfl
theorem m4_213 : Cond.methodLink RL 7 yX12_find ∈ bt := in_t4 (List.mem_of_getElem? (i := 213) (by decide +kernel)) rfl
theorem m4_214 : Cond.instanceMethod yX12_find ∈ bt := in_t4 (List.mem_of_getElem? (i := 214) (by decide +kernel)) rfl
theorem m4_215 : Cond.selects RX12 yX12_find yX12_find ∈ bt := in_t4 (List.mem_of_getElem? (i := 215) (by decide +kernel)) rfl
theorem m4_216 : Cond.code yX12_find cX12_find 4 (Option.some Jvm.ClassFile.FieldType.int) ∈ bt := in_t4 (List.mem_of_getElem? (i := 216) (by decide +kernel)) rfl
theorem m4_217 : Cond.classLink RX12 133 "java/lang/IllegalArgumentException" ∈ bt := in_t4 (List.mem_of_getElem? (i := 217) (by decide +kernel)) rfl
theorem m4_218 : Cond.instantiable "java/lang/IllegalArgumentException" 6 ∈ bt := in_t4 (List.mem_of_getElem? (i := 218) (by decide +kernel)) rfl
theorem m4_219 : Cond.castable "java/lang/IllegalArgumentException" "java/lang/IllegalArgumentException" ∈ nb := in_n4 (List.mem_of_getElem? (i := 219) (by decide +kernel)) rfl
theorem m4_226 : Cond.selects "java/lang/IllegalArgumentException" ({ cls := "java/lang/Throwable", name := "fillInStackTrace", desc := "(I)Ljava/lang/Throwable;" } : Jvm.MethodName) ({ cls := "java/lang/Throwable", name := "fillInStackTrace", desc := "(I)Ljava/lang/Throwable;" } : Jvm.MethodName) ∈ bt := in_t4 (List.mem_of_getElem? (i := 226) (by decide +kernel)) rfl
theorem m4_227 : Cond.selects "java/lang/IllegalArgumentException" ({ cls := "java/lang/Throwable", name := "fillInStackTrace", desc := "()Ljava/lang/Throwable;" } : Jvm.MethodName) ({ cls := "java/lang/Throwable", name := "fillInStackTrace", desc := "()Ljava/lang/Throwable;" } : Jvm.MethodName) ∈ bt := in_t4 (List.mem_of_getElem? (i := 227) (by decide +kernel)) rfl
theorem m4_228 : Cond.lays "java/lang/IllegalArgumentException" "java/lang/Throwable" "cause" "Ljava/lang/Throwable;" ∈ bt := in_t4 (List.mem_of_getElem? (i := 228) (by decide +kernel)) rfl
theorem m4_229 : Cond.lays "java/lang/Throwable" "java/lang/Throwable" "cause" "Ljava/lang/Throwable;" ∈ bt := in_t4 (List.mem_of_getElem? (i := 229) (by decide +kernel)) rfl
theorem m4_230 : Cond.lays "java/lang/IllegalArgumentException" "java/lang/Throwable" "stackTrace" "[Ljava/lang/StackTraceElement;" ∈ bt := in_t4 (List.mem_of_getElem? (i := 230) (by decide +kernel)) rfl
theorem m4_231 : Cond.lays "java/lang/Throwable" "java/lang/Throwable" "stackTrace" "[Ljava/lang/StackTraceElement;" ∈ bt := in_t4 (List.mem_of_getElem? (i := 231) (by decide +kernel)) rfl
theorem m4_232 : Cond.lays "java/lang/IllegalArgumentException" "java/lang/Throwable" "suppressedExceptions" "Ljava/util/List;" ∈ bt := in_t4 (List.mem_of_getElem? (i := 232) (by decide +kernel)) rfl
theorem m4_233 : Cond.lays "java/lang/Throwable" "java/lang/Throwable" "suppressedExceptions" "Ljava/util/List;" ∈ bt := in_t4 (List.mem_of_getElem? (i := 233) (by decide +kernel)) rfl
theorem m4_234 : Cond.lays "java/lang/IllegalArgumentException" "java/lang/Throwable" "detailMessage" "Ljava/lang/String;" ∈ bt := in_t4 (List.mem_of_getElem? (i := 234) (by decide +kernel)) rfl
theorem m4_235 : Cond.lays "java/lang/Throwable" "java/lang/Throwable" "detailMessage" "Ljava/lang/String;" ∈ bt := in_t4 (List.mem_of_getElem? (i := 235) (by decide +kernel)) rfl
theorem m4_236 : Cond.lays "java/lang/IllegalArgumentException" "java/lang/Throwable" "backtrace" "Ljava/lang/Object;" ∈ bt := in_t4 (List.mem_of_getElem? (i := 236) (by decide +kernel)) rfl
theorem m4_237 : Cond.lays "java/lang/Throwable" "java/lang/Throwable" "backtrace" "Ljava/lang/Object;" ∈ bt := in_t4 (List.mem_of_getElem? (i := 237) (by decide +kernel)) rfl
theorem m4_238 : Cond.fieldLink "java/lang/Throwable" 198 "java/lang/Throwable" "backtrace" "Ljava/lang/Object;" ∈ bt := in_t4 (List.mem_of_getElem? (i := 238) (by decide +kernel)) rfl
theorem m5_0 : Cond.instanceMethod ({ cls := "java/lang/Throwable", name := "<init>", desc := "()V" } : Jvm.MethodName) ∈ bt := in_t5 (List.mem_of_getElem? (i := 0) (by decide +kernel)) rfl
theorem m5_1 : Cond.code ({ cls := "java/lang/Throwable", name := "<init>", desc := "()V" } : Jvm.MethodName) prog_31_method_1_code 1 (Option.none : Option Jvm.ClassFile.FieldType) ∈ bt := in_t5 (List.mem_of_getElem? (i := 1) (by decide +kernel)) rfl
theorem m5_2 : Cond.methodLink "java/lang/Throwable" 1 ({ cls := "java/lang/Object", name := "<init>", desc := "()V" } : Jvm.MethodName) ∈ bt := in_t5 (List.mem_of_getElem? (i := 2) (by decide +kernel)) rfl
theorem m5_3 : Cond.fieldLink "java/lang/Throwable" 13 "java/lang/Throwable" "UNASSIGNED_STACK" "[Ljava/lang/StackTraceElement;" ∈ bt := in_t5 (List.mem_of_getElem? (i := 3) (by decide +kernel)) rfl
theorem m5_4 : Cond.laysStatic "java/lang/Throwable" "UNASSIGNED_STACK" "[Ljava/lang/StackTraceElement;" ∈ lw_tbl := in_l5 (List.mem_of_getElem? (i := 4) (by decide +kernel))
theorem m5_5 : Cond.fieldLink "java/lang/Throwable" 20 "java/lang/Throwable" "SUPPRESSED_SENTINEL" "Ljava/util/List;" ∈ bt := in_t5 (List.mem_of_getElem? (i := 5) (by decide +kernel)) rfl
theorem m5_6 : Cond.laysStatic "java/lang/Throwable" "SUPPRESSED_SENTINEL" "Ljava/util/List;" ∈ lw_tbl := in_l5 (List.mem_of_getElem? (i := 6) (by decide +kernel))
theorem m5_7 : Cond.methodLink "java/lang/Throwable" 27 ({ cls := "java/lang/Throwable", name := "fillInStackTrace", desc := "()Ljava/lang/Throwable;" } : Jvm.MethodName) ∈ bt := in_t5 (List.mem_of_getElem? (i := 7) (by decide +kernel)) rfl
theorem m5_8 : Cond.instanceMethod ({ cls := "java/lang/Throwable", name := "fillInStackTrace", desc := "()Ljava/lang/Throwable;" } : Jvm.MethodName) ∈ bt := in_t5 (List.mem_of_getElem? (i := 8) (by decide +kernel)) rfl
theorem m5_9 : Cond.sameMethod "java/lang/Throwable" "java/lang/Throwable" "fillInStackTrace" "()Ljava/lang/Throwable;" ∈ bt := in_t5 (List.mem_of_getElem? (i := 9) (by decide +kernel)) rfl
theorem m5_10 : Cond.selects "java/lang/IllegalStateException" ({ cls := "java/lang/Throwable", name := "fillInStackTrace", desc := "()Ljava/lang/Throwable;" } : Jvm.MethodName) ({ cls := "java/lang/Throwable", name := "fillInStackTrace", desc := "()Ljava/lang/Throwable;" } : Jvm.MethodName) ∈ bt := in_t5 (List.mem_of_getElem? (i := 10) (by decide +kernel)) rfl
theorem m5_11 : Cond.selects "java/lang/IndexOutOfBoundsException" ({ cls := "java/lang/Throwable", name := "fillInStackTrace", desc := "()Ljava/lang/Throwable;" } : Jvm.MethodName) ({ cls := "java/lang/Throwable", name := "fillInStackTrace", desc := "()Ljava/lang/Throwable;" } : Jvm.MethodName) ∈ bt := in_t5 (List.mem_of_getElem? (i := 11) (by decide +kernel)) rfl
theorem m5_12 : Cond.selects "java/util/NoSuchElementException" ({ cls := "java/lang/Throwable", name := "fillInStackTrace", desc := "()Ljava/lang/Throwable;" } : Jvm.MethodName) ({ cls := "java/lang/Throwable", name := "fillInStackTrace", desc := "()Ljava/lang/Throwable;" } : Jvm.MethodName) ∈ bt := in_t5 (List.mem_of_getElem? (i := 12) (by decide +kernel)) rfl
theorem m5_13 : Cond.codeSync ({ cls := "java/lang/Throwable", name := "fillInStackTrace", desc := "()Ljava/lang/Throwable;" } : Jvm.MethodName) prog_31_method_18_code 1 (Option.some (Jvm.ClassFile.FieldType.object "java/lang/Throwable")) ∈ lw_tbl := in_l5 (List.mem_of_getElem? (i := 13) (by decide +kernel))
theorem m5_14 : Cond.methodLink "java/lang/Throwable" 202 ({ cls := "java/lang/Throwable", name := "fillInStackTrace", desc := "(I)Ljava/lang/Throwable;" } : Jvm.MethodName) ∈ bt := in_t5 (List.mem_of_getElem? (i := 14) (by decide +kernel)) rfl
theorem m5_16 : Cond.instanceMethod ({ cls := "java/lang/Throwable", name := "fillInStackTrace", desc := "(I)Ljava/lang/Throwable;" } : Jvm.MethodName) ∈ bt := in_t5 (List.mem_of_getElem? (i := 16) (by decide +kernel)) rfl
theorem m5_17 : Cond.instantiable "java/lang/Throwable" 6 ∈ bt := in_t5 (List.mem_of_getElem? (i := 17) (by decide +kernel)) rfl
theorem m5_18 : Cond.native ({ cls := "java/lang/Throwable", name := "fillInStackTrace", desc := "(I)Ljava/lang/Throwable;" } : Jvm.MethodName) ∈ lw_tbl := in_l5 (List.mem_of_getElem? (i := 18) (by decide +kernel))
theorem m5_19 : Cond.methodLink RX12 135 ({ cls := "java/lang/IllegalArgumentException", name := "<init>", desc := "()V" } : Jvm.MethodName) ∈ bt := in_t5 (List.mem_of_getElem? (i := 19) (by decide +kernel)) rfl
theorem m5_20 : Cond.instanceMethod ({ cls := "java/lang/IllegalArgumentException", name := "<init>", desc := "()V" } : Jvm.MethodName) ∈ bt := in_t5 (List.mem_of_getElem? (i := 20) (by decide +kernel)) rfl
theorem m5_21 : Cond.code ({ cls := "java/lang/IllegalArgumentException", name := "<init>", desc := "()V" } : Jvm.MethodName) prog_21_method_1_code 1 (Option.none : Option Jvm.ClassFile.FieldType) ∈ bt := in_t5 (List.mem_of_getElem? (i := 21) (by decide +kernel)) rfl
theorem m5_22 : Cond.methodLink "java/lang/IllegalArgumentException" 1 ({ cls := "java/lang/RuntimeException", name := "<init>", desc := "()V" } : Jvm.MethodName) ∈ bt := in_t5 (List.mem_of_getElem? (i := 22) (by decide +kernel)) rfl
theorem m5_23 : Cond.instanceMethod ({ cls := "java/lang/RuntimeException", name := "<init>", desc := "()V" } : Jvm.MethodName) ∈ bt := in_t5 (List.mem_of_getElem? (i := 23) (by decide +kernel)) rfl
theorem m5_24 : Cond.code ({ cls := "java/lang/RuntimeException", name := "<init>", desc := "()V" } : Jvm.MethodName) prog_26_method_1_code 1 (Option.none : Option Jvm.ClassFile.FieldType) ∈ bt := in_t5 (List.mem_of_getElem? (i := 24) (by decide +kernel)) rfl
theorem m5_25 : Cond.methodLink "java/lang/RuntimeException" 1 ({ cls := "java/lang/Exception", name := "<init>", desc := "()V" } : Jvm.MethodName) ∈ bt := in_t5 (List.mem_of_getElem? (i := 25) (by decide +kernel)) rfl
theorem m5_26 : Cond.instanceMethod ({ cls := "java/lang/Exception", name := "<init>", desc := "()V" } : Jvm.MethodName) ∈ bt := in_t5 (List.mem_of_getElem? (i := 26) (by decide +kernel)) rfl
theorem m5_27 : Cond.code ({ cls := "java/lang/Exception", name := "<init>", desc := "()V" } : Jvm.MethodName) prog_20_method_1_code 1 (Option.none : Option Jvm.ClassFile.FieldType) ∈ bt := in_t5 (List.mem_of_getElem? (i := 27) (by decide +kernel)) rfl
theorem m5_28 : Cond.methodLink "java/lang/Exception" 1 ({ cls := "java/lang/Throwable", name := "<init>", desc := "()V" } : Jvm.MethodName) ∈ bt := in_t5 (List.mem_of_getElem? (i := 28) (by decide +kernel)) rfl
theorem m5_30 : Cond.fieldLink "java/lang/Throwable" 7 "java/lang/Throwable" "cause" "Ljava/lang/Throwable;" ∈ bt := in_t5 (List.mem_of_getElem? (i := 30) (by decide +kernel)) rfl
theorem m5_31 : Cond.fieldLink "java/lang/Throwable" 17 "java/lang/Throwable" "stackTrace" "[Ljava/lang/StackTraceElement;" ∈ bt := in_t5 (List.mem_of_getElem? (i := 31) (by decide +kernel)) rfl
theorem m5_32 : Cond.fieldLink "java/lang/Throwable" 24 "java/lang/Throwable" "suppressedExceptions" "Ljava/util/List;" ∈ bt := in_t5 (List.mem_of_getElem? (i := 32) (by decide +kernel)) rfl
theorem m5_37 : Cond.lays "java/lang/IllegalArgumentException" "java/lang/Throwable" "depth" "I" ∈ bt := in_t5 (List.mem_of_getElem? (i := 37) (by decide +kernel)) rfl
theorem m5_41 : Cond.methodLink RX12 136 yX12_bufferedName ∈ bt := in_t5 (List.mem_of_getElem? (i := 41) (by decide +kernel)) rfl
theorem m5_43 : Cond.instanceMethod yX12_bufferedName ∈ bt := in_t5 (List.mem_of_getElem? (i := 43) (by decide +kernel)) rfl
theorem m5_44 : Cond.code yX12_bufferedName cX12_bufferedName 4 (Option.some Jvm.ClassFile.FieldType.long) ∈ bt := in_t5 (List.mem_of_getElem? (i := 44) (by decide +kernel)) rfl
theorem m5_45 : Cond.methodLink RX12 150 yX12_isLetter ∈ bt := in_t5 (List.mem_of_getElem? (i := 45) (by decide +kernel)) rfl
theorem m5_46 : Cond.methodLink RX12 144 yX4_indexOf ∈ bt := in_t5 (List.mem_of_getElem? (i := 46) (by decide +kernel)) rfl
theorem m5_47 : Cond.methodLink RL 152 yL_isWorkingDay ∈ bt := in_t5 (List.mem_of_getElem? (i := 47) (by decide +kernel)) rfl
theorem m5_48 : Cond.static yL_isWorkingDay ∈ bt := in_t5 (List.mem_of_getElem? (i := 48) (by decide +kernel)) rfl
theorem m5_49 : Cond.codeWith yL_isWorkingDay cL_isWorkingDay 4 (Option.some Jvm.ClassFile.FieldType.int) [(0, 16, 19, 13)] ∈ bt := in_t5 (List.mem_of_getElem? (i := 49) (by decide +kernel)) rfl
theorem m5_50 : Cond.methodLink RL 15 yX12_isWorkingDay ∈ bt := in_t5 (List.mem_of_getElem? (i := 50) (by decide +kernel)) rfl
theorem m5_51 : Cond.instanceMethod yX12_isWorkingDay ∈ bt := in_t5 (List.mem_of_getElem? (i := 51) (by decide +kernel)) rfl
theorem m5_52 : Cond.selects RX12 yX12_isWorkingDay yX12_isWorkingDay ∈ bt := in_t5 (List.mem_of_getElem? (i := 52) (by decide +kernel)) rfl
theorem m5_53 : Cond.code yX12_isWorkingDay cX12_isWorkingDay 2 (Option.some Jvm.ClassFile.FieldType.boolean) ∈ bt := in_t5 (List.mem_of_getElem? (i := 53) (by decide +kernel)) rfl
theorem m5_54 : Cond.methodLink RX12 154 yX12_requireDay ∈ bt := in_t5 (List.mem_of_getElem? (i := 54) (by decide +kernel)) rfl
theorem m5_56 : Cond.instanceMethod yX12_requireDay ∈ bt := in_t5 (List.mem_of_getElem? (i := 56) (by decide +kernel)) rfl
theorem m5_57 : Cond.code yX12_requireDay cX12_requireDay 2 (Option.none : Option Jvm.ClassFile.FieldType) ∈ bt := in_t5 (List.mem_of_getElem? (i := 57) (by decide +kernel)) rfl
theorem m5_58 : Cond.methodLink RX12 157 yX10_works ∈ bt := in_t5 (List.mem_of_getElem? (i := 58) (by decide +kernel)) rfl
theorem m5_59 : Cond.methodLink RL 155 yL_workingDays ∈ bt := in_t5 (List.mem_of_getElem? (i := 59) (by decide +kernel)) rfl
theorem m5_60 : Cond.static yL_workingDays ∈ bt := in_t5 (List.mem_of_getElem? (i := 60) (by decide +kernel)) rfl
theorem m5_61 : Cond.codeWith yL_workingDays cL_workingDays 5 (Option.some Jvm.ClassFile.FieldType.int) [(0, 10, 13, 13)] ∈ bt := in_t5 (List.mem_of_getElem? (i := 61) (by decide +kernel)) rfl
theorem m5_62 : Cond.methodLink RL 19 yX12_workingDays ∈ bt := in_t5 (List.mem_of_getElem? (i := 62) (by decide +kernel)) rfl
theorem m5_63 : Cond.instanceMethod yX12_workingDays ∈ bt := in_t5 (List.mem_of_getElem? (i := 63) (by decide +kernel)) rfl
theorem m5_64 : Cond.selects RX12 yX12_workingDays yX12_workingDays ∈ bt := in_t5 (List.mem_of_getElem? (i := 64) (by decide +kernel)) rfl
theorem m5_65 : Cond.code yX12_workingDays cX12_workingDays 3 (Option.some Jvm.ClassFile.FieldType.int) ∈ bt := in_t5 (List.mem_of_getElem? (i := 65) (by decide +kernel)) rfl
theorem m5_66 : Cond.methodLink RX12 161 yX12_requireSpan ∈ bt := in_t5 (List.mem_of_getElem? (i := 66) (by decide +kernel)) rfl
theorem m5_68 : Cond.instanceMethod yX12_requireSpan ∈ bt := in_t5 (List.mem_of_getElem? (i := 68) (by decide +kernel)) rfl
theorem m5_69 : Cond.code yX12_requireSpan cX12_requireSpan 3 (Option.none : Option Jvm.ClassFile.FieldType) ∈ bt := in_t5 (List.mem_of_getElem? (i := 69) (by decide +kernel)) rfl
theorem m5_70 : Cond.methodLink RX12 165 yX10_countWorking ∈ bt := in_t5 (List.mem_of_getElem? (i := 70) (by decide +kernel)) rfl
theorem m5_71 : Cond.methodLink RL 159 yL_lengthening ∈ bt := in_t5 (List.mem_of_getElem? (i := 71) (by decide +kernel)) rfl
theorem m5_72 : Cond.static yL_lengthening ∈ bt := in_t5 (List.mem_of_getElem? (i := 72) (by decide +kernel)) rfl
theorem m5_73 : Cond.codeWith yL_lengthening cL_lengthening 4 (Option.some Jvm.ClassFile.FieldType.int) [(0, 9, 12, 13)] ∈ bt := in_t5 (List.mem_of_getElem? (i := 73) (by decide +kernel)) rfl
theorem m5_74 : Cond.methodLink RL 23 yX12_lengthening ∈ bt := in_t5 (List.mem_of_getElem? (i := 74) (by decide +kernel)) rfl
theorem m5_75 : Cond.instanceMethod yX12_lengthening ∈ bt := in_t5 (List.mem_of_getElem? (i := 75) (by decide +kernel)) rfl
theorem m5_76 : Cond.selects RX12 yX12_lengthening yX12_lengthening ∈ bt := in_t5 (List.mem_of_getElem? (i := 76) (by decide +kernel)) rfl
theorem m5_77 : Cond.code yX12_lengthening cX12_lengthening 2 (Option.some Jvm.ClassFile.FieldType.int) ∈ bt := in_t5 (List.mem_of_getElem? (i := 77) (by decide +kernel)) rfl
theorem m5_78 : Cond.methodLink RX12 169 yX12_requireReason ∈ bt := in_t5 (List.mem_of_getElem? (i := 78) (by decide +kernel)) rfl
theorem m5_80 : Cond.instanceMethod yX12_requireReason ∈ bt := in_t5 (List.mem_of_getElem? (i := 80) (by decide +kernel)) rfl
theorem m5_81 : Cond.code yX12_requireReason cX12_requireReason 2 (Option.none : Option Jvm.ClassFile.FieldType) ∈ bt := in_t5 (List.mem_of_getElem? (i := 81) (by decide +kernel)) rfl
theorem m5_82 : Cond.methodLink RL 162 yL_witness ∈ bt := in_t5 (List.mem_of_getElem? (i := 82) (by decide +kernel)) rfl
theorem m5_83 : Cond.static yL_witness ∈ bt := in_t5 (List.mem_of_getElem? (i := 83) (by decide +kernel)) rfl
theorem m5_84 : Cond.codeWith yL_witness cL_witness 5 (Option.some Jvm.ClassFile.FieldType.int) [(0, 10, 13, 29)] ∈ bt := in_t5 (List.mem_of_getElem? (i := 84) (by decide +kernel)) rfl
theorem m5_85 : Cond.classLink RL 29 "java/lang/IndexOutOfBoundsException" ∈ bt := in_t5 (List.mem_of_getElem? (i := 85) (by decide +kernel)) rfl
theorem m5_86 : Cond.methodLink RL 26 yX12_witness ∈ bt := in_t5 (List.mem_of_getElem? (i := 86) (by decide +kernel)) rfl
theorem m5_87 : Cond.instanceMethod yX12_witness ∈ bt := in_t5 (List.mem_of_getElem? (i := 87) (by decide +kernel)) rfl
theorem m5_88 : Cond.selects RX12 yX12_witness yX12_witness ∈ bt := in_t5 (List.mem_of_getElem? (i := 88) (by decide +kernel)) rfl
theorem m5_89 : Cond.code yX12_witness cX12_witness 3 (Option.some Jvm.ClassFile.FieldType.int) ∈ bt := in_t5 (List.mem_of_getElem? (i := 89) (by decide +kernel)) rfl
theorem m5_90 : Cond.methodLink RX12 175 yX12_requireExisting ∈ bt := in_t5 (List.mem_of_getElem? (i := 90) (by decide +kernel)) rfl
theorem m5_92 : Cond.instanceMethod yX12_requireExisting ∈ bt := in_t5 (List.mem_of_getElem? (i := 92) (by decide +kernel)) rfl
theorem m5_93 : Cond.code yX12_requireExisting cX12_requireExisting 3 (Option.none : Option Jvm.ClassFile.FieldType) ∈ bt := in_t5 (List.mem_of_getElem? (i := 93) (by decide +kernel)) rfl
theorem m5_94 : Cond.classLink RX12 193 "java/lang/IndexOutOfBoundsException" ∈ bt := in_t5 (List.mem_of_getElem? (i := 94) (by decide +kernel)) rfl
theorem m5_95 : Cond.instantiable "java/lang/IndexOutOfBoundsException" 6 ∈ bt := in_t5 (List.mem_of_getElem? (i := 95) (by decide +kernel)) rfl
theorem m5_96 : Cond.castable "java/lang/IndexOutOfBoundsException" "java/lang/IndexOutOfBoundsException" ∈ nb := in_n5 (List.mem_of_getElem? (i := 96) (by decide +kernel)) rfl
theorem m5_97 : Cond.selects "java/lang/IndexOutOfBoundsException" ({ cls := "java/lang/Throwable", name := "fillInStackTrace", desc := "(I)Ljava/lang/Throwable;" } : Jvm.MethodName) ({ cls := "java/lang/Throwable", name := "fillInStackTrace", desc := "(I)Ljava/lang/Throwable;" } : Jvm.MethodName) ∈ bt := in_t5 (List.mem_of_getElem? (i := 97) (by decide +kernel)) rfl
theorem m5_98 : Cond.lays "java/lang/IndexOutOfBoundsException" "java/lang/Throwable" "cause" "Ljava/lang/Throwable;" ∈ bt := in_t5 (List.mem_of_getElem? (i := 98) (by decide +kernel)) rfl
theorem m5_99 : Cond.lays "java/lang/IndexOutOfBoundsException" "java/lang/Throwable" "stackTrace" "[Ljava/lang/StackTraceElement;" ∈ bt := in_t5 (List.mem_of_getElem? (i := 99) (by decide +kernel)) rfl
theorem m5_100 : Cond.lays "java/lang/IndexOutOfBoundsException" "java/lang/Throwable" "suppressedExceptions" "Ljava/util/List;" ∈ bt := in_t5 (List.mem_of_getElem? (i := 100) (by decide +kernel)) rfl
theorem m5_101 : Cond.lays "java/lang/IndexOutOfBoundsException" "java/lang/Throwable" "detailMessage" "Ljava/lang/String;" ∈ bt := in_t5 (List.mem_of_getElem? (i := 101) (by decide +kernel)) rfl
theorem m5_102 : Cond.lays "java/lang/IndexOutOfBoundsException" "java/lang/Throwable" "backtrace" "Ljava/lang/Object;" ∈ bt := in_t5 (List.mem_of_getElem? (i := 102) (by decide +kernel)) rfl
theorem m5_103 : Cond.methodLink RX12 195 ({ cls := "java/lang/IndexOutOfBoundsException", name := "<init>", desc := "()V" } : Jvm.MethodName) ∈ bt := in_t5 (List.mem_of_getElem? (i := 103) (by decide +kernel)) rfl
theorem m5_104 : Cond.instanceMethod ({ cls := "java/lang/IndexOutOfBoundsException", name := "<init>", desc := "()V" } : Jvm.MethodName) ∈ bt := in_t5 (List.mem_of_getElem? (i := 104) (by decide +kernel)) rfl
theorem m5_105 : Cond.code ({ cls := "java/lang/IndexOutOfBoundsException", name := "<init>", desc := "()V" } : Jvm.MethodName) prog_23_method_1_code 1 (Option.none : Option Jvm.ClassFile.FieldType) ∈ bt := in_t5 (List.mem_of_getElem? (i := 105) (by decide +kernel)) rfl
theorem m5_106 : Cond.methodLink "java/lang/IndexOutOfBoundsException" 1 ({ cls := "java/lang/RuntimeException", name := "<init>", desc := "()V" } : Jvm.MethodName) ∈ bt := in_t5 (List.mem_of_getElem? (i := 106) (by decide +kernel)) rfl
theorem m5_107 : Cond.lays "java/lang/IndexOutOfBoundsException" "java/lang/Throwable" "depth" "I" ∈ bt := in_t5 (List.mem_of_getElem? (i := 107) (by decide +kernel)) rfl
theorem m5_109 : Cond.methodLink RX12 190 yX10_countNeeding ∈ bt := in_t5 (List.mem_of_getElem? (i := 109) (by decide +kernel)) rfl
theorem m5_110 : Cond.instanceMethod yX10_countNeeding ∈ bt := in_t5 (List.mem_of_getElem? (i := 110) (by decide +kernel)) rfl
theorem m5_111 : Cond.selects RX10 yX10_countNeeding yX10_countNeeding ∈ bt := in_t5 (List.mem_of_getElem? (i := 111) (by decide +kernel)) rfl
theorem m5_112 : Cond.code yX10_countNeeding cX10_countNeeding 4 (Option.some Jvm.ClassFile.FieldType.int) ∈ bt := in_t5 (List.mem_of_getElem? (i := 112) (by decide +kernel)) rfl
theorem m5_113 : Cond.methodLink RL 165 yL_isOff ∈ bt := in_t5 (List.mem_of_getElem? (i := 113) (by decide +kernel)) rfl
theorem m5_114 : Cond.static yL_isOff ∈ bt := in_t5 (List.mem_of_getElem? (i := 114) (by decide +kernel)) rfl
theorem m5_115 : Cond.codeWith yL_isOff cL_isOff 5 (Option.some Jvm.ClassFile.FieldType.int) [(0, 17, 20, 29), (0, 17, 24, 13)] ∈ bt := in_t5 (List.mem_of_getElem? (i := 115) (by decide +kernel)) rfl
theorem m5_116 : Cond.methodLink RL 31 yX12_isOff ∈ bt := in_t5 (List.mem_of_getElem? (i := 116) (by decide +kernel)) rfl
theorem m5_117 : Cond.instanceMethod yX12_isOff ∈ bt := in_t5 (List.mem_of_getElem? (i := 117) (by decide +kernel)) rfl
theorem m5_118 : Cond.selects RX12 yX12_isOff yX12_isOff ∈ bt := in_t5 (List.mem_of_getElem? (i := 118) (by decide +kernel)) rfl
theorem m5_119 : Cond.code yX12_isOff cX12_isOff 3 (Option.some Jvm.ClassFile.FieldType.boolean) ∈ bt := in_t5 (List.mem_of_getElem? (i := 119) (by decide +kernel)) rfl
theorem m5_120 : Cond.methodLink RX12 196 yX9_isAway ∈ bt := in_t5 (List.mem_of_getElem? (i := 120) (by decide +kernel)) rfl
theorem m5_121 : Cond.methodLink RL 168 yL_isBarred ∈ bt := in_t5 (List.mem_of_getElem? (i := 121) (by decide +kernel)) rfl
theorem m5_122 : Cond.static yL_isBarred ∈ bt := in_t5 (List.mem_of_getElem? (i := 122) (by decide +kernel)) rfl
theorem m5_123 : Cond.codeWith yL_isBarred cL_isBarred 5 (Option.some Jvm.ClassFile.FieldType.int) [(0, 17, 20, 29)] ∈ bt := in_t5 (List.mem_of_getElem? (i := 123) (by decide +kernel)) rfl
theorem m5_124 : Cond.methodLink RL 35 yX12_isBarred ∈ bt := in_t5 (List.mem_of_getElem? (i := 124) (by decide +kernel)) rfl
theorem m5_125 : Cond.instanceMethod yX12_isBarred ∈ bt := in_t5 (List.mem_of_getElem? (i := 125) (by decide +kernel)) rfl
theorem m5_126 : Cond.selects RX12 yX12_isBarred yX12_isBarred ∈ bt := in_t5 (List.mem_of_getElem? (i := 126) (by decide +kernel)) rfl
theorem m5_127 : Cond.code yX12_isBarred cX12_isBarred 3 (Option.some Jvm.ClassFile.FieldType.boolean) ∈ bt := in_t5 (List.mem_of_getElem? (i := 127) (by decide +kernel)) rfl
theorem m5_128 : Cond.methodLink RX12 200 yX10_barredOfficers ∈ bt := in_t5 (List.mem_of_getElem? (i := 128) (by decide +kernel)) rfl
theorem m5_129 : Cond.methodLink RX12 203 yX12_has ∈ bt := in_t5 (List.mem_of_getElem? (i := 129) (by decide +kernel)) rfl
theorem m5_130 : Cond.methodLink RL 171 yL_load ∈ bt := in_t5 (List.mem_of_getElem? (i := 130) (by decide +kernel)) rfl
theorem m5_131 : Cond.static yL_load ∈ bt := in_t5 (List.mem_of_getElem? (i := 131) (by decide +kernel)) rfl
theorem m5_132 : Cond.codeWith yL_load cL_load 4 (Option.some Jvm.ClassFile.FieldType.int) [(0, 9, 12, 29)] ∈ bt := in_t5 (List.mem_of_getElem? (i := 132) (by decide +kernel)) rfl
theorem m5_133 : Cond.methodLink RL 38 yX12_load ∈ bt := in_t5 (List.mem_of_getElem? (i := 133) (by decide +kernel)) rfl
theorem m5_134 : Cond.instanceMethod yX12_load ∈ bt := in_t5 (List.mem_of_getElem? (i := 134) (by decide +kernel)) rfl
theorem m5_135 : Cond.selects RX12 yX12_load yX12_load ∈ bt := in_t5 (List.mem_of_getElem? (i := 135) (by decide +kernel)) rfl
theorem m5_136 : Cond.code yX12_load cX12_load 2 (Option.some Jvm.ClassFile.FieldType.int) ∈ bt := in_t5 (List.mem_of_getElem? (i := 136) (by decide +kernel)) rfl
theorem m5_137 : Cond.methodLink RX12 206 yX10_loadOf ∈ bt := in_t5 (List.mem_of_getElem? (i := 137) (by decide +kernel)) rfl
theorem m5_138 : Cond.methodLink RL 174 yL_matter ∈ bt := in_t5 (List.mem_of_getElem? (i := 138) (by decide +kernel)) rfl
theorem m5_139 : Cond.static yL_matter ∈ bt := in_t5 (List.mem_of_getElem? (i := 139) (by decide +kernel)) rfl
theorem m5_140 : Cond.codeWith yL_matter cL_matter 5 (Option.some Jvm.ClassFile.FieldType.int) [(0, 10, 13, 29)] ∈ bt := in_t5 (List.mem_of_getElem? (i := 140) (by decide +kernel)) rfl
theorem m5_141 : Cond.methodLink RL 41 yX12_matter ∈ bt := in_t5 (List.mem_of_getElem? (i := 141) (by decide +kernel)) rfl
theorem m5_142 : Cond.instanceMethod yX12_matter ∈ bt := in_t5 (List.mem_of_getElem? (i := 142) (by decide +kernel)) rfl
theorem m5_143 : Cond.selects RX12 yX12_matter yX12_matter ∈ bt := in_t5 (List.mem_of_getElem? (i := 143) (by decide +kernel)) rfl
theorem m5_144 : Cond.code yX12_matter cX12_matter 5 (Option.some Jvm.ClassFile.FieldType.int) ∈ bt := in_t5 (List.mem_of_getElem? (i := 144) (by decide +kernel)) rfl
theorem m5_145 : Cond.methodLink RX12 233 yX10_limitDay ∈ bt := in_t5 (List.mem_of_getElem? (i := 145) (by decide +kernel)) rfl
theorem m5_146 : Cond.methodLink RX12 248 yJ6_bitCount_0f7a4 ∈ bt := in_t5 (List.mem_of_getElem? (i := 146) (by decide +kernel)) rfl
theorem m5_147 : Cond.methodLink RL 177 yL_hearing ∈ bt := in_t5 (List.mem_of_getElem? (i := 147) (by decide +kernel)) rfl
theorem m5_148 : Cond.static yL_hearing ∈ bt := in_t5 (List.mem_of_getElem? (i := 148) (by decide +kernel)) rfl
theorem m5_149 : Cond.codeWith yL_hearing cL_hearing 5 (Option.some Jvm.ClassFile.FieldType.int) [(0, 10, 13, 29)] ∈ bt := in_t5 (List.mem_of_getElem? (i := 149) (by decide +kernel)) rfl
theorem m5_150 : Cond.methodLink RL 44 yX12_hearing ∈ bt := in_t5 (List.mem_of_getElem? (i := 150) (by decide +kernel)) rfl
theorem m5_151 : Cond.instanceMethod yX12_hearing ∈ bt := in_t5 (List.mem_of_getElem? (i := 151) (by decide +kernel)) rfl
theorem m5_152 : Cond.selects RX12 yX12_hearing yX12_hearing ∈ bt := in_t5 (List.mem_of_getElem? (i := 152) (by decide +kernel)) rfl
theorem m5_153 : Cond.code yX12_hearing cX12_hearing 4 (Option.some Jvm.ClassFile.FieldType.int) ∈ bt := in_t5 (List.mem_of_getElem? (i := 153) (by decide +kernel)) rfl
theorem m5_154 : Cond.methodLink RL 180 yL_adjournment ∈ bt := in_t5 (List.mem_of_getElem? (i := 154) (by decide +kernel)) rfl
theorem m5_155 : Cond.static yL_adjournment ∈ bt := in_t5 (List.mem_of_getElem? (i := 155) (by decide +kernel)) rfl
theorem m5_156 : Cond.codeWith yL_adjournment cL_adjournment 6 (Option.some Jvm.ClassFile.FieldType.int) [(0, 12, 15, 29)] ∈ bt := in_t5 (List.mem_of_getElem? (i := 156) (by decide +kernel)) rfl
theorem m5_157 : Cond.methodLink RL 47 yX12_adjournment ∈ bt := in_t5 (List.mem_of_getElem? (i := 157) (by decide +kernel)) rfl
theorem m5_158 : Cond.instanceMethod yX12_adjournment ∈ bt := in_t5 (List.mem_of_getElem? (i := 158) (by decide +kernel)) rfl
theorem m5_159 : Cond.selects RX12 yX12_adjournment yX12_adjournment ∈ bt := in_t5 (List.mem_of_getElem? (i := 159) (by decide +kernel)) rfl
theorem m5_160 : Cond.code yX12_adjournment cX12_adjournment 5 (Option.some Jvm.ClassFile.FieldType.int) ∈ bt := in_t5 (List.mem_of_getElem? (i := 160) (by decide +kernel)) rfl
theorem m5_161 : Cond.methodLink RL 184 yL_caseAt ∈ bt := in_t5 (List.mem_of_getElem? (i := 161) (by decide +kernel)) rfl
theorem m5_162 : Cond.static yL_caseAt ∈ bt := in_t5 (List.mem_of_getElem? (i := 162) (by decide +kernel)) rfl
theorem m5_163 : Cond.codeWith yL_caseAt cL_caseAt 6 (Option.some Jvm.ClassFile.FieldType.int) [(0, 12, 15, 29), (0, 12, 19, 13)] ∈ bt := in_t5 (List.mem_of_getElem? (i := 163) (by decide +kernel)) rfl
theorem m5_164 : Cond.methodLink RL 51 yX12_caseAt ∈ bt := in_t5 (List.mem_of_getElem? (i := 164) (by decide +kernel)) rfl
theorem m5_165 : Cond.instanceMethod yX12_caseAt ∈ bt := in_t5 (List.mem_of_getElem? (i := 165) (by decide +kernel)) rfl
theorem m5_166 : Cond.selects RX12 yX12_caseAt yX12_caseAt ∈ bt := in_t5 (List.mem_of_getElem? (i := 166) (by decide +kernel)) rfl
theorem m5_167 : Cond.code yX12_caseAt cX12_caseAt 4 (Option.some Jvm.ClassFile.FieldType.int) ∈ bt := in_t5 (List.mem_of_getElem? (i := 167) (by decide +kernel)) rfl
theorem m5_168 : Cond.methodLink RX12 269 yX12_requireSlot ∈ bt := in_t5 (List.mem_of_getElem? (i := 168) (by decide +kernel)) rfl
theorem m5_170 : Cond.instanceMethod yX12_requireSlot ∈ bt := in_t5 (List.mem_of_getElem? (i := 170) (by decide +kernel)) rfl
theorem m5_171 : Cond.code yX12_requireSlot cX12_requireSlot 2 (Option.none : Option Jvm.ClassFile.FieldType) ∈ bt := in_t5 (List.mem_of_getElem? (i := 171) (by decide +kernel)) rfl
theorem m5_172 : Cond.methodLink RX12 272 yX10_caseTaking ∈ bt := in_t5 (List.mem_of_getElem? (i := 172) (by decide +kernel)) rfl
theorem m5_173 : Cond.instanceMethod yX10_caseTaking ∈ bt := in_t5 (List.mem_of_getElem? (i := 173) (by decide +kernel)) rfl
theorem m5_174 : Cond.selects RX10 yX10_caseTaking yX10_caseTaking ∈ bt := in_t5 (List.mem_of_getElem? (i := 174) (by decide +kernel)) rfl
theorem m5_175 : Cond.code yX10_caseTaking cX10_caseTaking 5 (Option.some Jvm.ClassFile.FieldType.int) ∈ bt := in_t5 (List.mem_of_getElem? (i := 175) (by decide +kernel)) rfl
theorem m5_176 : Cond.methodLink RX10 120 yX7_isOn ∈ bt := in_t5 (List.mem_of_getElem? (i := 176) (by decide +kernel)) rfl
theorem m5_177 : Cond.methodLink RX10 123 yX10_slotsOf ∈ bt := in_t5 (List.mem_of_getElem? (i := 177) (by decide +kernel)) rfl
theorem m5_178 : Cond.methodLink RL 187 yL_problem ∈ bt := in_t5 (List.mem_of_getElem? (i := 178) (by decide +kernel)) rfl
theorem m5_179 : Cond.static yL_problem ∈ bt := in_t5 (List.mem_of_getElem? (i := 179) (by decide +kernel)) rfl
theorem m5_180 : Cond.codeWith yL_problem cL_problem 8 (Option.some Jvm.ClassFile.FieldType.int) [(0, 16, 19, 29), (0, 16, 23, 13), (0, 16, 27, 58)] ∈ bt := in_t5 (List.mem_of_getElem? (i := 180) (by decide +kernel)) rfl
theorem m5_181 : Cond.classLink RL 58 "java/lang/IllegalStateException" ∈ bt := in_t5 (List.mem_of_getElem? (i := 181) (by decide +kernel)) rfl
theorem m5_182 : Cond.methodLink RL 54 yX12_problem ∈ bt := in_t5 (List.mem_of_getElem? (i := 182) (by decide +kernel)) rfl
theorem m5_183 : Cond.instanceMethod yX12_problem ∈ bt := in_t5 (List.mem_of_getElem? (i := 183) (by decide +kernel)) rfl
theorem m5_184 : Cond.selects RX12 yX12_problem yX12_problem ∈ bt := in_t5 (List.mem_of_getElem? (i := 184) (by decide +kernel)) rfl
theorem m5_185 : Cond.code yX12_problem cX12_problem 6 (Option.some Jvm.ClassFile.FieldType.int) ∈ bt := in_t5 (List.mem_of_getElem? (i := 185) (by decide +kernel)) rfl
theorem m5_186 : Cond.methodLink RX12 276 yX12_requireHearing ∈ bt := in_t5 (List.mem_of_getElem? (i := 186) (by decide +kernel)) rfl
theorem m5_188 : Cond.instanceMethod yX12_requireHearing ∈ bt := in_t5 (List.mem_of_getElem? (i := 188) (by decide +kernel)) rfl
theorem m5_189 : Cond.code yX12_requireHearing cX12_requireHearing 6 (Option.none : Option Jvm.ClassFile.FieldType) ∈ bt := in_t5 (List.mem_of_getElem? (i := 189) (by decide +kernel)) rfl
theorem m5_190 : Cond.methodLink RX12 280 yX12_requireUnfinished ∈ bt := in_t5 (List.mem_of_getElem? (i := 190) (by decide +kernel)) rfl
theorem m5_192 : Cond.instanceMethod yX12_requireUnfinished ∈ bt := in_t5 (List.mem_of_getElem? (i := 192) (by decide +kernel)) rfl
theorem m5_193 : Cond.code yX12_requireUnfinished cX12_requireUnfinished 3 (Option.none : Option Jvm.ClassFile.FieldType) ∈ bt := in_t5 (List.mem_of_getElem? (i := 193) (by decide +kernel)) rfl
theorem m5_194 : Cond.classLink RX12 331 "java/lang/IllegalStateException" ∈ bt := in_t5 (List.mem_of_getElem? (i := 194) (by decide +kernel)) rfl
theorem m5_195 : Cond.instantiable "java/lang/IllegalStateException" 6 ∈ bt := in_t5 (List.mem_of_getElem? (i := 195) (by decide +kernel)) rfl
theorem m5_196 : Cond.castable "java/lang/IllegalStateException" "java/lang/IllegalStateException" ∈ nb := in_n5 (List.mem_of_getElem? (i := 196) (by decide +kernel)) rfl
theorem m5_197 : Cond.selects "java/lang/IllegalStateException" ({ cls := "java/lang/Throwable", name := "fillInStackTrace", desc := "(I)Ljava/lang/Throwable;" } : Jvm.MethodName) ({ cls := "java/lang/Throwable", name := "fillInStackTrace", desc := "(I)Ljava/lang/Throwable;" } : Jvm.MethodName) ∈ bt := in_t5 (List.mem_of_getElem? (i := 197) (by decide +kernel)) rfl
theorem m5_198 : Cond.lays "java/lang/IllegalStateException" "java/lang/Throwable" "cause" "Ljava/lang/Throwable;" ∈ bt := in_t5 (List.mem_of_getElem? (i := 198) (by decide +kernel)) rfl
theorem m5_199 : Cond.lays "java/lang/IllegalStateException" "java/lang/Throwable" "stackTrace" "[Ljava/lang/StackTraceElement;" ∈ bt := in_t5 (List.mem_of_getElem? (i := 199) (by decide +kernel)) rfl
theorem m5_200 : Cond.lays "java/lang/IllegalStateException" "java/lang/Throwable" "suppressedExceptions" "Ljava/util/List;" ∈ bt := in_t5 (List.mem_of_getElem? (i := 200) (by decide +kernel)) rfl
theorem m5_201 : Cond.lays "java/lang/IllegalStateException" "java/lang/Throwable" "detailMessage" "Ljava/lang/String;" ∈ bt := in_t5 (List.mem_of_getElem? (i := 201) (by decide +kernel)) rfl
theorem m5_202 : Cond.lays "java/lang/IllegalStateException" "java/lang/Throwable" "backtrace" "Ljava/lang/Object;" ∈ bt := in_t5 (List.mem_of_getElem? (i := 202) (by decide +kernel)) rfl
theorem m5_203 : Cond.methodLink RX12 333 ({ cls := "java/lang/IllegalStateException", name := "<init>", desc := "()V" } : Jvm.MethodName) ∈ bt := in_t5 (List.mem_of_getElem? (i := 203) (by decide +kernel)) rfl
theorem m5_204 : Cond.instanceMethod ({ cls := "java/lang/IllegalStateException", name := "<init>", desc := "()V" } : Jvm.MethodName) ∈ bt := in_t5 (List.mem_of_getElem? (i := 204) (by decide +kernel)) rfl
theorem m5_205 : Cond.code ({ cls := "java/lang/IllegalStateException", name := "<init>", desc := "()V" } : Jvm.MethodName) prog_22_method_1_code 1 (Option.none : Option Jvm.ClassFile.FieldType) ∈ bt := in_t5 (List.mem_of_getElem? (i := 205) (by decide +kernel)) rfl
theorem m5_206 : Cond.methodLink "java/lang/IllegalStateException" 1 ({ cls := "java/lang/RuntimeException", name := "<init>", desc := "()V" } : Jvm.MethodName) ∈ bt := in_t5 (List.mem_of_getElem? (i := 206) (by decide +kernel)) rfl
theorem m5_207 : Cond.lays "java/lang/IllegalStateException" "java/lang/Throwable" "depth" "I" ∈ bt := in_t5 (List.mem_of_getElem? (i := 207) (by decide +kernel)) rfl
theorem m5_209 : Cond.methodLink RX12 283 yX6_faultOf ∈ bt := in_t5 (List.mem_of_getElem? (i := 209) (by decide +kernel)) rfl
theorem m5_210 : Cond.instanceMethod yX6_faultOf ∈ bt := in_t5 (List.mem_of_getElem? (i := 210) (by decide +kernel)) rfl
theorem m5_211 : Cond.selects RX6 yX6_faultOf yX6_faultOf ∈ bt := in_t5 (List.mem_of_getElem? (i := 211) (by decide +kernel)) rfl
theorem m5_212 : Cond.code yX6_faultOf cX6_faultOf 9 (Option.some Jvm.ClassFile.FieldType.int) ∈ bt := in_t5 (List.mem_of_getElem? (i := 212) (by decide +kernel)) rfl
theorem m5_213 : Cond.methodLink RL 191 yL_opening ∈ bt := in_t5 (List.mem_of_getElem? (i := 213) (by decide +kernel)) rfl
theorem m5_214 : Cond.static yL_opening ∈ bt := in_t5 (List.mem_of_getElem? (i := 214) (by decide +kernel)) rfl
theorem m5_215 : Cond.codeWith yL_opening cL_opening 5 (Option.some Jvm.ClassFile.FieldType.int) [(0, 10, 13, 29), (0, 10, 17, 58)] ∈ bt := in_t5 (List.mem_of_getElem? (i := 215) (by decide +kernel)) rfl
theorem m5_216 : Cond.methodLink RL 60 yX12_opening ∈ bt := in_t5 (List.mem_of_getElem? (i := 216) (by decide +kernel)) rfl
theorem m5_217 : Cond.instanceMethod yX12_opening ∈ bt := in_t5 (List.mem_of_getElem? (i := 217) (by decide +kernel)) rfl
theorem m5_218 : Cond.selects RX12 yX12_opening yX12_opening ∈ bt := in_t5 (List.mem_of_getElem? (i := 218) (by decide +kernel)) rfl
theorem m5_219 : Cond.code yX12_opening cX12_opening 3 (Option.some Jvm.ClassFile.FieldType.int) ∈ bt := in_t5 (List.mem_of_getElem? (i := 219) (by decide +kernel)) rfl
theorem m5_220 : Cond.methodLink RX12 287 yX6_findFirst ∈ bt := in_t5 (List.mem_of_getElem? (i := 220) (by decide +kernel)) rfl
theorem m5_221 : Cond.methodLink RL 194 yL_openDays ∈ bt := in_t5 (List.mem_of_getElem? (i := 221) (by decide +kernel)) rfl
theorem m5_222 : Cond.static yL_openDays ∈ bt := in_t5 (List.mem_of_getElem? (i := 222) (by decide +kernel)) rfl
theorem m5_223 : Cond.codeWith yL_openDays cL_openDays 4 (Option.some Jvm.ClassFile.FieldType.int) [(0, 9, 12, 29), (0, 9, 15, 58)] ∈ bt := in_t5 (List.mem_of_getElem? (i := 223) (by decide +kernel)) rfl
theorem m5_224 : Cond.methodLink RL 63 yX12_openDays ∈ bt := in_t5 (List.mem_of_getElem? (i := 224) (by decide +kernel)) rfl
theorem m5_225 : Cond.instanceMethod yX12_openDays ∈ bt := in_t5 (List.mem_of_getElem? (i := 225) (by decide +kernel)) rfl
theorem m5_226 : Cond.selects RX12 yX12_openDays yX12_openDays ∈ bt := in_t5 (List.mem_of_getElem? (i := 226) (by decide +kernel)) rfl
theorem m5_227 : Cond.code yX12_openDays cX12_openDays 2 (Option.some Jvm.ClassFile.FieldType.int) ∈ bt := in_t5 (List.mem_of_getElem? (i := 227) (by decide +kernel)) rfl
theorem m5_228 : Cond.methodLink RX12 295 yX6_countOpenDays ∈ bt := in_t5 (List.mem_of_getElem? (i := 228) (by decide +kernel)) rfl
theorem m5_229 : Cond.instanceMethod yX6_countOpenDays ∈ bt := in_t5 (List.mem_of_getElem? (i := 229) (by decide +kernel)) rfl
theorem m5_230 : Cond.selects RX6 yX6_countOpenDays yX6_countOpenDays ∈ bt := in_t5 (List.mem_of_getElem? (i := 230) (by decide +kernel)) rfl
theorem m5_231 : Cond.code yX6_countOpenDays cX6_countOpenDays 6 (Option.some Jvm.ClassFile.FieldType.int) ∈ bt := in_t5 (List.mem_of_getElem? (i := 231) (by decide +kernel)) rfl
theorem m5_232 : Cond.methodLink RL 197 yL_urgent ∈ bt := in_t5 (List.mem_of_getElem? (i := 232) (by decide +kernel)) rfl
theorem m5_233 : Cond.static yL_urgent ∈ bt := in_t5 (List.mem_of_getElem? (i := 233) (by decide +kernel)) rfl
theorem m5_234 : Cond.codeWith yL_urgent cL_urgent 4 (Option.some Jvm.ClassFile.FieldType.int) [(0, 9, 12, 69)] ∈ bt := in_t5 (List.mem_of_getElem? (i := 234) (by decide +kernel)) rfl
theorem m5_235 : Cond.classLink RL 69 "java/util/NoSuchElementException" ∈ bt := in_t5 (List.mem_of_getElem? (i := 235) (by decide +kernel)) rfl
theorem m5_236 : Cond.methodLink RL 66 yX12_urgent ∈ bt := in_t5 (List.mem_of_getElem? (i := 236) (by decide +kernel)) rfl
theorem m5_237 : Cond.instanceMethod yX12_urgent ∈ bt := in_t5 (List.mem_of_getElem? (i := 237) (by decide +kernel)) rfl
theorem m5_238 : Cond.selects RX12 yX12_urgent yX12_urgent ∈ bt := in_t5 (List.mem_of_getElem? (i := 238) (by decide +kernel)) rfl
theorem m5_239 : Cond.code yX12_urgent cX12_urgent 3 (Option.some Jvm.ClassFile.FieldType.int) ∈ bt := in_t5 (List.mem_of_getElem? (i := 239) (by decide +kernel)) rfl
theorem m6_0 : Cond.methodLink RX12 299 yX10_sortWaiting ∈ bt := in_t6 (List.mem_of_getElem? (i := 0) (by decide +kernel)) rfl
theorem m6_1 : Cond.classLink RX12 303 "java/util/NoSuchElementException" ∈ bt := in_t6 (List.mem_of_getElem? (i := 1) (by decide +kernel)) rfl
theorem m6_2 : Cond.instantiable "java/util/NoSuchElementException" 6 ∈ bt := in_t6 (List.mem_of_getElem? (i := 2) (by decide +kernel)) rfl
theorem m6_3 : Cond.castable "java/util/NoSuchElementException" "java/util/NoSuchElementException" ∈ nb := in_n6 (List.mem_of_getElem? (i := 3) (by decide +kernel)) rfl
theorem m6_4 : Cond.selects "java/util/NoSuchElementException" ({ cls := "java/lang/Throwable", name := "fillInStackTrace", desc := "(I)Ljava/lang/Throwable;" } : Jvm.MethodName) ({ cls := "java/lang/Throwable", name := "fillInStackTrace", desc := "(I)Ljava/lang/Throwable;" } : Jvm.MethodName) ∈ bt := in_t6 (List.mem_of_getElem? (i := 4) (by decide +kernel)) rfl
theorem m6_5 : Cond.lays "java/util/NoSuchElementException" "java/lang/Throwable" "cause" "Ljava/lang/Throwable;" ∈ bt := in_t6 (List.mem_of_getElem? (i := 5) (by decide +kernel)) rfl
theorem m6_6 : Cond.lays "java/util/NoSuchElementException" "java/lang/Throwable" "stackTrace" "[Ljava/lang/StackTraceElement;" ∈ bt := in_t6 (List.mem_of_getElem? (i := 6) (by decide +kernel)) rfl
theorem m6_7 : Cond.lays "java/util/NoSuchElementException" "java/lang/Throwable" "suppressedExceptions" "Ljava/util/List;" ∈ bt := in_t6 (List.mem_of_getElem? (i := 7) (by decide +kernel)) rfl
theorem m6_8 : Cond.lays "java/util/NoSuchElementException" "java/lang/Throwable" "detailMessage" "Ljava/lang/String;" ∈ bt := in_t6 (List.mem_of_getElem? (i := 8) (by decide +kernel)) rfl
theorem m6_9 : Cond.lays "java/util/NoSuchElementException" "java/lang/Throwable" "backtrace" "Ljava/lang/Object;" ∈ bt := in_t6 (List.mem_of_getElem? (i := 9) (by decide +kernel)) rfl
theorem m6_10 : Cond.methodLink RX12 305 ({ cls := "java/util/NoSuchElementException", name := "<init>", desc := "()V" } : Jvm.MethodName) ∈ bt := in_t6 (List.mem_of_getElem? (i := 10) (by decide +kernel)) rfl
theorem m6_11 : Cond.instanceMethod ({ cls := "java/util/NoSuchElementException", name := "<init>", desc := "()V" } : Jvm.MethodName) ∈ bt := in_t6 (List.mem_of_getElem? (i := 11) (by decide +kernel)) rfl
theorem m6_12 : Cond.code ({ cls := "java/util/NoSuchElementException", name := "<init>", desc := "()V" } : Jvm.MethodName) prog_35_method_1_code 1 (Option.none : Option Jvm.ClassFile.FieldType) ∈ bt := in_t6 (List.mem_of_getElem? (i := 12) (by decide +kernel)) rfl
theorem m6_13 : Cond.methodLink "java/util/NoSuchElementException" 1 ({ cls := "java/lang/RuntimeException", name := "<init>", desc := "()V" } : Jvm.MethodName) ∈ bt := in_t6 (List.mem_of_getElem? (i := 13) (by decide +kernel)) rfl
theorem m6_14 : Cond.lays "java/util/NoSuchElementException" "java/lang/Throwable" "depth" "I" ∈ bt := in_t6 (List.mem_of_getElem? (i := 14) (by decide +kernel)) rfl
theorem m6_16 : Cond.methodLink RL 200 yL_slack ∈ bt := in_t6 (List.mem_of_getElem? (i := 16) (by decide +kernel)) rfl
theorem m6_17 : Cond.static yL_slack ∈ bt := in_t6 (List.mem_of_getElem? (i := 17) (by decide +kernel)) rfl
theorem m6_18 : Cond.codeWith yL_slack cL_slack 4 (Option.some Jvm.ClassFile.FieldType.int) [(0, 9, 12, 29)] ∈ bt := in_t6 (List.mem_of_getElem? (i := 18) (by decide +kernel)) rfl
theorem m6_19 : Cond.methodLink RL 71 yX12_slack ∈ bt := in_t6 (List.mem_of_getElem? (i := 19) (by decide +kernel)) rfl
theorem m6_20 : Cond.instanceMethod yX12_slack ∈ bt := in_t6 (List.mem_of_getElem? (i := 20) (by decide +kernel)) rfl
theorem m6_21 : Cond.selects RX12 yX12_slack yX12_slack ∈ bt := in_t6 (List.mem_of_getElem? (i := 21) (by decide +kernel)) rfl
theorem m6_22 : Cond.code yX12_slack cX12_slack 2 (Option.some Jvm.ClassFile.FieldType.int) ∈ bt := in_t6 (List.mem_of_getElem? (i := 22) (by decide +kernel)) rfl
theorem m6_23 : Cond.methodLink RL 203 yL_eligible ∈ bt := in_t6 (List.mem_of_getElem? (i := 23) (by decide +kernel)) rfl
theorem m6_24 : Cond.static yL_eligible ∈ bt := in_t6 (List.mem_of_getElem? (i := 24) (by decide +kernel)) rfl
theorem m6_25 : Cond.codeWith yL_eligible cL_eligible 4 (Option.some Jvm.ClassFile.FieldType.int) [(0, 9, 12, 29)] ∈ bt := in_t6 (List.mem_of_getElem? (i := 25) (by decide +kernel)) rfl
theorem m6_26 : Cond.methodLink RL 74 yX12_eligible ∈ bt := in_t6 (List.mem_of_getElem? (i := 26) (by decide +kernel)) rfl
theorem m6_27 : Cond.instanceMethod yX12_eligible ∈ bt := in_t6 (List.mem_of_getElem? (i := 27) (by decide +kernel)) rfl
theorem m6_28 : Cond.selects RX12 yX12_eligible yX12_eligible ∈ bt := in_t6 (List.mem_of_getElem? (i := 28) (by decide +kernel)) rfl
theorem m6_29 : Cond.code yX12_eligible cX12_eligible 2 (Option.some Jvm.ClassFile.FieldType.int) ∈ bt := in_t6 (List.mem_of_getElem? (i := 29) (by decide +kernel)) rfl
theorem m6_30 : Cond.methodLink RX12 309 yX12_allOf ∈ bt := in_t6 (List.mem_of_getElem? (i := 30) (by decide +kernel)) rfl
theorem m6_31 : Cond.methodLink RL 215 yL_usage ∈ bt := in_t6 (List.mem_of_getElem? (i := 31) (by decide +kernel)) rfl
theorem m6_32 : Cond.static yL_usage ∈ bt := in_t6 (List.mem_of_getElem? (i := 32) (by decide +kernel)) rfl
theorem m6_33 : Cond.codeWith yL_usage cL_usage 6 (Option.some Jvm.ClassFile.FieldType.int) [(0, 12, 15, 29), (0, 12, 19, 13)] ∈ bt := in_t6 (List.mem_of_getElem? (i := 33) (by decide +kernel)) rfl
theorem m6_34 : Cond.methodLink RL 77 yX12_usage ∈ bt := in_t6 (List.mem_of_getElem? (i := 34) (by decide +kernel)) rfl
theorem m6_35 : Cond.instanceMethod yX12_usage ∈ bt := in_t6 (List.mem_of_getElem? (i := 35) (by decide +kernel)) rfl
theorem m6_36 : Cond.selects RX12 yX12_usage yX12_usage ∈ bt := in_t6 (List.mem_of_getElem? (i := 36) (by decide +kernel)) rfl
theorem m6_37 : Cond.code yX12_usage cX12_usage 5 (Option.some Jvm.ClassFile.FieldType.float) ∈ bt := in_t6 (List.mem_of_getElem? (i := 37) (by decide +kernel)) rfl
theorem m6_38 : Cond.methodLink RX12 319 yX10_countTaken ∈ bt := in_t6 (List.mem_of_getElem? (i := 38) (by decide +kernel)) rfl
theorem m6_39 : Cond.instanceMethod yX10_countTaken ∈ bt := in_t6 (List.mem_of_getElem? (i := 39) (by decide +kernel)) rfl
theorem m6_40 : Cond.selects RX10 yX10_countTaken yX10_countTaken ∈ bt := in_t6 (List.mem_of_getElem? (i := 40) (by decide +kernel)) rfl
theorem m6_41 : Cond.code yX10_countTaken cX10_countTaken 7 (Option.some Jvm.ClassFile.FieldType.int) ∈ bt := in_t6 (List.mem_of_getElem? (i := 41) (by decide +kernel)) rfl
theorem m6_42 : Cond.methodLink RL 219 yL_pass ∈ bt := in_t6 (List.mem_of_getElem? (i := 42) (by decide +kernel)) rfl
theorem m6_43 : Cond.static yL_pass ∈ bt := in_t6 (List.mem_of_getElem? (i := 43) (by decide +kernel)) rfl
theorem m6_44 : Cond.codeWith yL_pass cL_pass 4 (Option.some Jvm.ClassFile.FieldType.int) [(0, 9, 12, 13)] ∈ bt := in_t6 (List.mem_of_getElem? (i := 44) (by decide +kernel)) rfl
theorem m6_45 : Cond.methodLink RL 81 yX12_pass ∈ bt := in_t6 (List.mem_of_getElem? (i := 45) (by decide +kernel)) rfl
theorem m6_46 : Cond.instanceMethod yX12_pass ∈ bt := in_t6 (List.mem_of_getElem? (i := 46) (by decide +kernel)) rfl
theorem m6_47 : Cond.selects RX12 yX12_pass yX12_pass ∈ bt := in_t6 (List.mem_of_getElem? (i := 47) (by decide +kernel)) rfl
theorem m6_48 : Cond.code yX12_pass cX12_pass 2 (Option.some Jvm.ClassFile.FieldType.int) ∈ bt := in_t6 (List.mem_of_getElem? (i := 48) (by decide +kernel)) rfl
theorem m6_49 : Cond.methodLink RX12 322 yX12_requirePassable ∈ bt := in_t6 (List.mem_of_getElem? (i := 49) (by decide +kernel)) rfl
theorem m6_51 : Cond.instanceMethod yX12_requirePassable ∈ bt := in_t6 (List.mem_of_getElem? (i := 51) (by decide +kernel)) rfl
theorem m6_52 : Cond.code yX12_requirePassable cX12_requirePassable 2 (Option.none : Option Jvm.ClassFile.FieldType) ∈ bt := in_t6 (List.mem_of_getElem? (i := 52) (by decide +kernel)) rfl
theorem m6_53 : Cond.methodLink RX12 328 yX10_passDays ∈ bt := in_t6 (List.mem_of_getElem? (i := 53) (by decide +kernel)) rfl
theorem m6_54 : Cond.instanceMethod yX10_passDays ∈ bt := in_t6 (List.mem_of_getElem? (i := 54) (by decide +kernel)) rfl
theorem m6_55 : Cond.selects RX10 yX10_passDays yX10_passDays ∈ bt := in_t6 (List.mem_of_getElem? (i := 55) (by decide +kernel)) rfl
theorem m6_56 : Cond.code yX10_passDays cX10_passDays 4 (Option.some Jvm.ClassFile.FieldType.int) ∈ bt := in_t6 (List.mem_of_getElem? (i := 56) (by decide +kernel)) rfl
theorem m6_57 : Cond.methodLink RL 222 yL_plan ∈ bt := in_t6 (List.mem_of_getElem? (i := 57) (by decide +kernel)) rfl
theorem m6_58 : Cond.static yL_plan ∈ bt := in_t6 (List.mem_of_getElem? (i := 58) (by decide +kernel)) rfl
theorem m6_59 : Cond.codeWith yL_plan cL_plan 8 (Option.some Jvm.ClassFile.FieldType.int) [(0, 16, 19, 29), (0, 16, 23, 13), (0, 16, 27, 58)] ∈ bt := in_t6 (List.mem_of_getElem? (i := 59) (by decide +kernel)) rfl
theorem m6_60 : Cond.methodLink RL 84 yX12_plan ∈ bt := in_t6 (List.mem_of_getElem? (i := 60) (by decide +kernel)) rfl
theorem m6_61 : Cond.instanceMethod yX12_plan ∈ bt := in_t6 (List.mem_of_getElem? (i := 61) (by decide +kernel)) rfl
theorem m6_62 : Cond.selects RX12 yX12_plan yX12_plan ∈ bt := in_t6 (List.mem_of_getElem? (i := 62) (by decide +kernel)) rfl
theorem m6_63 : Cond.code yX12_plan cX12_plan 6 (Option.some Jvm.ClassFile.FieldType.int) ∈ bt := in_t6 (List.mem_of_getElem? (i := 63) (by decide +kernel)) rfl
theorem m6_64 : Cond.methodLink RX12 334 yX7_setHearing ∈ bt := in_t6 (List.mem_of_getElem? (i := 64) (by decide +kernel)) rfl
theorem m6_65 : Cond.methodLink RL 225 yL_planNext ∈ bt := in_t6 (List.mem_of_getElem? (i := 65) (by decide +kernel)) rfl
theorem m6_66 : Cond.static yL_planNext ∈ bt := in_t6 (List.mem_of_getElem? (i := 66) (by decide +kernel)) rfl
theorem m6_67 : Cond.codeWith yL_planNext cL_planNext 4 (Option.some Jvm.ClassFile.FieldType.int) [(0, 9, 12, 29), (0, 9, 15, 58), (0, 9, 18, 69)] ∈ bt := in_t6 (List.mem_of_getElem? (i := 67) (by decide +kernel)) rfl
theorem m6_68 : Cond.methodLink RL 87 yX12_planNext ∈ bt := in_t6 (List.mem_of_getElem? (i := 68) (by decide +kernel)) rfl
theorem m6_69 : Cond.instanceMethod yX12_planNext ∈ bt := in_t6 (List.mem_of_getElem? (i := 69) (by decide +kernel)) rfl
theorem m6_70 : Cond.selects RX12 yX12_planNext yX12_planNext ∈ bt := in_t6 (List.mem_of_getElem? (i := 70) (by decide +kernel)) rfl
theorem m6_71 : Cond.code yX12_planNext cX12_planNext 2 (Option.some Jvm.ClassFile.FieldType.int) ∈ bt := in_t6 (List.mem_of_getElem? (i := 71) (by decide +kernel)) rfl
theorem m6_72 : Cond.methodLink RX12 338 yX6_setFound ∈ bt := in_t6 (List.mem_of_getElem? (i := 72) (by decide +kernel)) rfl
theorem m6_73 : Cond.methodLink RL 232 yL_adjourn ∈ bt := in_t6 (List.mem_of_getElem? (i := 73) (by decide +kernel)) rfl
theorem m6_74 : Cond.static yL_adjourn ∈ bt := in_t6 (List.mem_of_getElem? (i := 74) (by decide +kernel)) rfl
theorem m6_75 : Cond.codeWith yL_adjourn cL_adjourn 5 (Option.some Jvm.ClassFile.FieldType.int) [(0, 10, 13, 29), (0, 10, 17, 13), (0, 10, 21, 58)] ∈ bt := in_t6 (List.mem_of_getElem? (i := 75) (by decide +kernel)) rfl
theorem m6_76 : Cond.methodLink RL 90 yX12_adjourn ∈ bt := in_t6 (List.mem_of_getElem? (i := 76) (by decide +kernel)) rfl
theorem m6_77 : Cond.instanceMethod yX12_adjourn ∈ bt := in_t6 (List.mem_of_getElem? (i := 77) (by decide +kernel)) rfl
theorem m6_78 : Cond.selects RX12 yX12_adjourn yX12_adjourn ∈ bt := in_t6 (List.mem_of_getElem? (i := 78) (by decide +kernel)) rfl
theorem m6_79 : Cond.code yX12_adjourn cX12_adjourn 4 (Option.some Jvm.ClassFile.FieldType.int) ∈ bt := in_t6 (List.mem_of_getElem? (i := 79) (by decide +kernel)) rfl
theorem m6_80 : Cond.methodLink RX12 345 yX10_takeAway ∈ bt := in_t6 (List.mem_of_getElem? (i := 80) (by decide +kernel)) rfl
theorem m6_81 : Cond.instanceMethod yX10_takeAway ∈ bt := in_t6 (List.mem_of_getElem? (i := 81) (by decide +kernel)) rfl
theorem m6_82 : Cond.selects RX10 yX10_takeAway yX10_takeAway ∈ bt := in_t6 (List.mem_of_getElem? (i := 82) (by decide +kernel)) rfl
theorem m6_83 : Cond.code yX10_takeAway cX10_takeAway 5 (Option.none : Option Jvm.ClassFile.FieldType) ∈ bt := in_t6 (List.mem_of_getElem? (i := 83) (by decide +kernel)) rfl
theorem m6_84 : Cond.methodLink RX10 164 yJ9_min_7cf53 ∈ bt := in_t6 (List.mem_of_getElem? (i := 84) (by decide +kernel)) rfl
theorem m6_85 : Cond.methodLink RX10 169 yX7_note ∈ bt := in_t6 (List.mem_of_getElem? (i := 85) (by decide +kernel)) rfl
theorem m6_86 : Cond.instanceMethod yX7_note ∈ bt := in_t6 (List.mem_of_getElem? (i := 86) (by decide +kernel)) rfl
theorem m6_87 : Cond.selects RX7 yX7_note yX7_note ∈ bt := in_t6 (List.mem_of_getElem? (i := 87) (by decide +kernel)) rfl
theorem m6_88 : Cond.code yX7_note cX7_note 5 (Option.none : Option Jvm.ClassFile.FieldType) ∈ bt := in_t6 (List.mem_of_getElem? (i := 88) (by decide +kernel)) rfl
theorem m6_89 : Cond.methodLink RX10 173 yX7_dropHearing ∈ bt := in_t6 (List.mem_of_getElem? (i := 89) (by decide +kernel)) rfl
theorem m6_90 : Cond.methodLink RL 235 yL_withdraw ∈ bt := in_t6 (List.mem_of_getElem? (i := 90) (by decide +kernel)) rfl
theorem m6_91 : Cond.static yL_withdraw ∈ bt := in_t6 (List.mem_of_getElem? (i := 91) (by decide +kernel)) rfl
theorem m6_92 : Cond.codeWith yL_withdraw cL_withdraw 5 (Option.some Jvm.ClassFile.FieldType.int) [(0, 10, 13, 29), (0, 10, 17, 13)] ∈ bt := in_t6 (List.mem_of_getElem? (i := 92) (by decide +kernel)) rfl
theorem m6_93 : Cond.methodLink RL 93 yX12_withdraw ∈ bt := in_t6 (List.mem_of_getElem? (i := 93) (by decide +kernel)) rfl
theorem m6_94 : Cond.instanceMethod yX12_withdraw ∈ bt := in_t6 (List.mem_of_getElem? (i := 94) (by decide +kernel)) rfl
theorem m6_95 : Cond.selects RX12 yX12_withdraw yX12_withdraw ∈ bt := in_t6 (List.mem_of_getElem? (i := 95) (by decide +kernel)) rfl
theorem m6_96 : Cond.code yX12_withdraw cX12_withdraw 7 (Option.some Jvm.ClassFile.FieldType.int) ∈ bt := in_t6 (List.mem_of_getElem? (i := 96) (by decide +kernel)) rfl
theorem m6_97 : Cond.methodLink RX12 348 yX12_requireComingDay ∈ bt := in_t6 (List.mem_of_getElem? (i := 97) (by decide +kernel)) rfl
theorem m6_99 : Cond.instanceMethod yX12_requireComingDay ∈ bt := in_t6 (List.mem_of_getElem? (i := 99) (by decide +kernel)) rfl
theorem m6_100 : Cond.code yX12_requireComingDay cX12_requireComingDay 2 (Option.none : Option Jvm.ClassFile.FieldType) ∈ bt := in_t6 (List.mem_of_getElem? (i := 100) (by decide +kernel)) rfl
theorem m6_101 : Cond.methodLink RX12 351 yJ9_min_7cf53 ∈ bt := in_t6 (List.mem_of_getElem? (i := 101) (by decide +kernel)) rfl
theorem m6_102 : Cond.methodLink RL 238 yL_addHoliday ∈ bt := in_t6 (List.mem_of_getElem? (i := 102) (by decide +kernel)) rfl
theorem m6_103 : Cond.static yL_addHoliday ∈ bt := in_t6 (List.mem_of_getElem? (i := 103) (by decide +kernel)) rfl
theorem m6_104 : Cond.codeWith yL_addHoliday cL_addHoliday 4 (Option.some Jvm.ClassFile.FieldType.int) [(0, 9, 12, 13), (0, 9, 15, 58)] ∈ bt := in_t6 (List.mem_of_getElem? (i := 104) (by decide +kernel)) rfl
theorem m6_105 : Cond.methodLink RL 96 yX12_addHoliday ∈ bt := in_t6 (List.mem_of_getElem? (i := 105) (by decide +kernel)) rfl
theorem m6_106 : Cond.instanceMethod yX12_addHoliday ∈ bt := in_t6 (List.mem_of_getElem? (i := 106) (by decide +kernel)) rfl
theorem m6_107 : Cond.selects RX12 yX12_addHoliday yX12_addHoliday ∈ bt := in_t6 (List.mem_of_getElem? (i := 107) (by decide +kernel)) rfl
theorem m6_108 : Cond.code yX12_addHoliday cX12_addHoliday 5 (Option.some Jvm.ClassFile.FieldType.int) ∈ bt := in_t6 (List.mem_of_getElem? (i := 108) (by decide +kernel)) rfl
theorem m6_109 : Cond.methodLink RX12 356 yX2_add ∈ bt := in_t6 (List.mem_of_getElem? (i := 109) (by decide +kernel)) rfl
theorem m6_110 : Cond.methodLink RL 241 yL_addBar ∈ bt := in_t6 (List.mem_of_getElem? (i := 110) (by decide +kernel)) rfl
theorem m6_111 : Cond.static yL_addBar ∈ bt := in_t6 (List.mem_of_getElem? (i := 111) (by decide +kernel)) rfl
theorem m6_112 : Cond.codeWith yL_addBar cL_addBar 5 (Option.some Jvm.ClassFile.FieldType.int) [(0, 17, 20, 29), (0, 17, 24, 58)] ∈ bt := in_t6 (List.mem_of_getElem? (i := 112) (by decide +kernel)) rfl
theorem m6_113 : Cond.methodLink RL 99 yX12_addBar ∈ bt := in_t6 (List.mem_of_getElem? (i := 113) (by decide +kernel)) rfl
theorem m6_114 : Cond.instanceMethod yX12_addBar ∈ bt := in_t6 (List.mem_of_getElem? (i := 114) (by decide +kernel)) rfl
theorem m6_115 : Cond.selects RX12 yX12_addBar yX12_addBar ∈ bt := in_t6 (List.mem_of_getElem? (i := 115) (by decide +kernel)) rfl
theorem m6_116 : Cond.code yX12_addBar cX12_addBar 5 (Option.some Jvm.ClassFile.FieldType.boolean) ∈ bt := in_t6 (List.mem_of_getElem? (i := 116) (by decide +kernel)) rfl
theorem m6_117 : Cond.methodLink RL 244 yL_undo ∈ bt := in_t6 (List.mem_of_getElem? (i := 117) (by decide +kernel)) rfl
theorem m6_118 : Cond.static yL_undo ∈ bt := in_t6 (List.mem_of_getElem? (i := 118) (by decide +kernel)) rfl
theorem m6_119 : Cond.codeWith yL_undo cL_undo 3 (Option.some Jvm.ClassFile.FieldType.int) [(0, 8, 11, 58)] ∈ bt := in_t6 (List.mem_of_getElem? (i := 119) (by decide +kernel)) rfl
theorem m6_120 : Cond.methodLink RL 102 yX12_undo ∈ bt := in_t6 (List.mem_of_getElem? (i := 120) (by decide +kernel)) rfl
theorem m6_121 : Cond.instanceMethod yX12_undo ∈ bt := in_t6 (List.mem_of_getElem? (i := 121) (by decide +kernel)) rfl
theorem m6_122 : Cond.selects RX12 yX12_undo yX12_undo ∈ bt := in_t6 (List.mem_of_getElem? (i := 122) (by decide +kernel)) rfl
theorem m6_123 : Cond.code yX12_undo cX12_undo 1 (Option.some Jvm.ClassFile.FieldType.int) ∈ bt := in_t6 (List.mem_of_getElem? (i := 123) (by decide +kernel)) rfl
theorem m6_124 : Cond.methodLink RL 248 yL_lapsesIn ∈ bt := in_t6 (List.mem_of_getElem? (i := 124) (by decide +kernel)) rfl
theorem m6_125 : Cond.static yL_lapsesIn ∈ bt := in_t6 (List.mem_of_getElem? (i := 125) (by decide +kernel)) rfl
theorem m6_126 : Cond.codeWith yL_lapsesIn cL_lapsesIn 4 (Option.some Jvm.ClassFile.FieldType.int) [(0, 9, 12, 13)] ∈ bt := in_t6 (List.mem_of_getElem? (i := 126) (by decide +kernel)) rfl
theorem m6_127 : Cond.methodLink RL 106 yX12_lapsesIn ∈ bt := in_t6 (List.mem_of_getElem? (i := 127) (by decide +kernel)) rfl
theorem m6_128 : Cond.instanceMethod yX12_lapsesIn ∈ bt := in_t6 (List.mem_of_getElem? (i := 128) (by decide +kernel)) rfl
theorem m6_129 : Cond.selects RX12 yX12_lapsesIn yX12_lapsesIn ∈ bt := in_t6 (List.mem_of_getElem? (i := 129) (by decide +kernel)) rfl
theorem m6_130 : Cond.code yX12_lapsesIn cX12_lapsesIn 3 (Option.some Jvm.ClassFile.FieldType.int) ∈ bt := in_t6 (List.mem_of_getElem? (i := 130) (by decide +kernel)) rfl
theorem m6_131 : Cond.methodLink RL 259 yL_printDay ∈ bt := in_t6 (List.mem_of_getElem? (i := 131) (by decide +kernel)) rfl
theorem m6_132 : Cond.static yL_printDay ∈ bt := in_t6 (List.mem_of_getElem? (i := 132) (by decide +kernel)) rfl
theorem m6_133 : Cond.codeWith yL_printDay cL_printDay 4 (Option.some Jvm.ClassFile.FieldType.int) [(0, 9, 12, 13)] ∈ bt := in_t6 (List.mem_of_getElem? (i := 133) (by decide +kernel)) rfl
theorem m6_134 : Cond.methodLink RL 109 yX12_printDay ∈ bt := in_t6 (List.mem_of_getElem? (i := 134) (by decide +kernel)) rfl
theorem m6_135 : Cond.instanceMethod yX12_printDay ∈ bt := in_t6 (List.mem_of_getElem? (i := 135) (by decide +kernel)) rfl
theorem m6_136 : Cond.selects RX12 yX12_printDay yX12_printDay ∈ bt := in_t6 (List.mem_of_getElem? (i := 136) (by decide +kernel)) rfl
theorem m6_137 : Cond.code yX12_printDay cX12_printDay 5 (Option.some Jvm.ClassFile.FieldType.int) ∈ bt := in_t6 (List.mem_of_getElem? (i := 137) (by decide +kernel)) rfl
theorem m6_138 : Cond.methodLink RX12 372 yX12_printHearing ∈ bt := in_t6 (List.mem_of_getElem? (i := 138) (by decide +kernel)) rfl
theorem m6_140 : Cond.instanceMethod yX12_printHearing ∈ bt := in_t6 (List.mem_of_getElem? (i := 140) (by decide +kernel)) rfl
theorem m6_141 : Cond.code yX12_printHearing cX12_printHearing 3 (Option.none : Option Jvm.ClassFile.FieldType) ∈ bt := in_t6 (List.mem_of_getElem? (i := 141) (by decide +kernel)) rfl
theorem m6_142 : Cond.methodLink RX12 375 yX12_print ∈ bt := in_t6 (List.mem_of_getElem? (i := 142) (by decide +kernel)) rfl
theorem m6_144 : Cond.instanceMethod yX12_print ∈ bt := in_t6 (List.mem_of_getElem? (i := 144) (by decide +kernel)) rfl
theorem m6_145 : Cond.code yX12_print cX12_print 2 (Option.none : Option Jvm.ClassFile.FieldType) ∈ bt := in_t6 (List.mem_of_getElem? (i := 145) (by decide +kernel)) rfl
theorem m6_146 : Cond.methodLink RX12 379 yX12_printName ∈ bt := in_t6 (List.mem_of_getElem? (i := 146) (by decide +kernel)) rfl
theorem m6_148 : Cond.instanceMethod yX12_printName ∈ bt := in_t6 (List.mem_of_getElem? (i := 148) (by decide +kernel)) rfl
theorem m6_149 : Cond.code yX12_printName cX12_printName 7 (Option.none : Option Jvm.ClassFile.FieldType) ∈ bt := in_t6 (List.mem_of_getElem? (i := 149) (by decide +kernel)) rfl
theorem m6_150 : Cond.methodLink RX12 382 yX4_at ∈ bt := in_t6 (List.mem_of_getElem? (i := 150) (by decide +kernel)) rfl
theorem m6_151 : Cond.instanceMethod yX4_at ∈ bt := in_t6 (List.mem_of_getElem? (i := 151) (by decide +kernel)) rfl
theorem m6_152 : Cond.selects RX4 yX4_at yX4_at ∈ bt := in_t6 (List.mem_of_getElem? (i := 152) (by decide +kernel)) rfl
theorem m6_153 : Cond.code yX4_at cX4_at 2 (Option.some Jvm.ClassFile.FieldType.long) ∈ bt := in_t6 (List.mem_of_getElem? (i := 153) (by decide +kernel)) rfl
theorem m6_154 : Cond.methodLink RL 270 yL_restoreState ∈ bt := in_t6 (List.mem_of_getElem? (i := 154) (by decide +kernel)) rfl
theorem m6_155 : Cond.static yL_restoreState ∈ bt := in_t6 (List.mem_of_getElem? (i := 155) (by decide +kernel)) rfl
theorem m6_156 : Cond.codeWith yL_restoreState cL_restoreState 3 (Option.some Jvm.ClassFile.FieldType.int) [(0, 8, 11, 58)] ∈ bt := in_t6 (List.mem_of_getElem? (i := 156) (by decide +kernel)) rfl
theorem m6_157 : Cond.methodLink RL 112 yX12_restoreState ∈ bt := in_t6 (List.mem_of_getElem? (i := 157) (by decide +kernel)) rfl
theorem m6_158 : Cond.instanceMethod yX12_restoreState ∈ bt := in_t6 (List.mem_of_getElem? (i := 158) (by decide +kernel)) rfl
theorem m6_159 : Cond.selects RX12 yX12_restoreState yX12_restoreState ∈ bt := in_t6 (List.mem_of_getElem? (i := 159) (by decide +kernel)) rfl
theorem m6_160 : Cond.code yX12_restoreState cX12_restoreState 1 (Option.some Jvm.ClassFile.FieldType.int) ∈ bt := in_t6 (List.mem_of_getElem? (i := 160) (by decide +kernel)) rfl
theorem m6_161 : Cond.classLink RL 116 RX13 ∈ bt := in_t6 (List.mem_of_getElem? (i := 161) (by decide +kernel)) rfl
theorem m6_162 : Cond.instantiable RX13 39 ∈ bt := in_t6 (List.mem_of_getElem? (i := 162) (by decide +kernel)) rfl
theorem m6_163 : Cond.methodLink RL 118 yX13_init ∈ bt := in_t6 (List.mem_of_getElem? (i := 163) (by decide +kernel)) rfl
theorem m6_164 : Cond.instanceMethod yX13_init ∈ bt := in_t6 (List.mem_of_getElem? (i := 164) (by decide +kernel)) rfl
theorem m6_165 : Cond.code yX13_init cX13_init 1 (Option.none : Option Jvm.ClassFile.FieldType) ∈ bt := in_t6 (List.mem_of_getElem? (i := 165) (by decide +kernel)) rfl
theorem m6_166 : Cond.methodLink RX13 1 ({ cls := "java/lang/Object", name := "<init>", desc := "()V" } : Jvm.MethodName) ∈ bt := in_t6 (List.mem_of_getElem? (i := 166) (by decide +kernel)) rfl
theorem m6_167 : Cond.methodLink RX13 83 yX13_clears ∈ bt := in_t6 (List.mem_of_getElem? (i := 167) (by decide +kernel)) rfl
theorem m6_169 : Cond.instanceMethod yX13_clears ∈ bt := in_t6 (List.mem_of_getElem? (i := 169) (by decide +kernel)) rfl
theorem m6_170 : Cond.code yX13_clears cX13_clears 2 (Option.none : Option Jvm.ClassFile.FieldType) ∈ bt := in_t6 (List.mem_of_getElem? (i := 170) (by decide +kernel)) rfl
theorem m6_171 : Cond.methodLink RX13 86 yX13_takesDraft ∈ bt := in_t6 (List.mem_of_getElem? (i := 171) (by decide +kernel)) rfl
theorem m6_173 : Cond.instanceMethod yX13_takesDraft ∈ bt := in_t6 (List.mem_of_getElem? (i := 173) (by decide +kernel)) rfl
theorem m6_174 : Cond.code yX13_takesDraft cX13_takesDraft 2 (Option.none : Option Jvm.ClassFile.FieldType) ∈ bt := in_t6 (List.mem_of_getElem? (i := 174) (by decide +kernel)) rfl
theorem m6_175 : Cond.methodLink RX13 89 yX13_moves ∈ bt := in_t6 (List.mem_of_getElem? (i := 175) (by decide +kernel)) rfl
theorem m6_176 : Cond.static yX13_moves ∈ bt := in_t6 (List.mem_of_getElem? (i := 176) (by decide +kernel)) rfl
theorem m6_177 : Cond.code yX13_moves cX13_moves 3 (Option.none : Option Jvm.ClassFile.FieldType) ∈ bt := in_t6 (List.mem_of_getElem? (i := 177) (by decide +kernel)) rfl
theorem m6_178 : Cond.methodLink RX13 93 yX13_copies ∈ bt := in_t6 (List.mem_of_getElem? (i := 178) (by decide +kernel)) rfl
theorem m6_179 : Cond.static yX13_copies ∈ bt := in_t6 (List.mem_of_getElem? (i := 179) (by decide +kernel)) rfl
theorem m6_180 : Cond.code yX13_copies cX13_copies 3 (Option.none : Option Jvm.ClassFile.FieldType) ∈ bt := in_t6 (List.mem_of_getElem? (i := 180) (by decide +kernel)) rfl
theorem m6_181 : Cond.fieldLink RX13 104 RX13 "told" "I" ∈ bt := in_t6 (List.mem_of_getElem? (i := 181) (by decide +kernel)) rfl
theorem m6_182 : Cond.fieldLink RX13 7 RX13 "setup" "[I" ∈ bt := in_t6 (List.mem_of_getElem? (i := 182) (by decide +kernel)) rfl
theorem m6_183 : Cond.fieldLink RX13 13 RX13 "draft" "[I" ∈ bt := in_t6 (List.mem_of_getElem? (i := 183) (by decide +kernel)) rfl
theorem m6_184 : Cond.fieldLink RX13 16 RX13 "now" "[I" ∈ bt := in_t6 (List.mem_of_getElem? (i := 184) (by decide +kernel)) rfl
theorem m6_185 : Cond.fieldLink RX13 19 RX13 "first" "[I" ∈ bt := in_t6 (List.mem_of_getElem? (i := 185) (by decide +kernel)) rfl
theorem m6_186 : Cond.fieldLink RX13 22 RX13 "aside" "[I" ∈ bt := in_t6 (List.mem_of_getElem? (i := 186) (by decide +kernel)) rfl
theorem m6_187 : Cond.fieldLink RX13 25 RX13 "tried" "[I" ∈ bt := in_t6 (List.mem_of_getElem? (i := 187) (by decide +kernel)) rfl
theorem m6_188 : Cond.fieldLink RX13 28 RX13 "saved" "[I" ∈ bt := in_t6 (List.mem_of_getElem? (i := 188) (by decide +kernel)) rfl
theorem m6_189 : Cond.fieldLink RX13 31 RX13 "history" "[I" ∈ bt := in_t6 (List.mem_of_getElem? (i := 189) (by decide +kernel)) rfl
theorem m6_190 : Cond.fieldLink RX13 97 RX13 "historyMany" "I" ∈ bt := in_t6 (List.mem_of_getElem? (i := 190) (by decide +kernel)) rfl
theorem m6_191 : Cond.fieldLink RX13 100 RX13 "isSaved" "Z" ∈ bt := in_t6 (List.mem_of_getElem? (i := 191) (by decide +kernel)) rfl
theorem m6_192 : Cond.fieldLink RX13 34 RX13 "roomNames" "[J" ∈ bt := in_t6 (List.mem_of_getElem? (i := 192) (by decide +kernel)) rfl
theorem m6_193 : Cond.fieldLink RX13 38 RX13 "officerNames" "[J" ∈ bt := in_t6 (List.mem_of_getElem? (i := 193) (by decide +kernel)) rfl
theorem m6_194 : Cond.fieldLink RX13 41 RX13 "witnessNames" "[J" ∈ bt := in_t6 (List.mem_of_getElem? (i := 194) (by decide +kernel)) rfl
theorem m6_195 : Cond.fieldLink RX13 44 RX13 "caseNames" "[J" ∈ bt := in_t6 (List.mem_of_getElem? (i := 195) (by decide +kernel)) rfl
theorem m6_196 : Cond.fieldLink RX13 47 RX13 "gone" "I" ∈ bt := in_t6 (List.mem_of_getElem? (i := 196) (by decide +kernel)) rfl
theorem m6_197 : Cond.fieldLink RX13 231 RX13 "foundDay" "I" ∈ bt := in_t6 (List.mem_of_getElem? (i := 197) (by decide +kernel)) rfl
theorem m6_198 : Cond.fieldLink RX13 234 RX13 "foundSlot" "I" ∈ bt := in_t6 (List.mem_of_getElem? (i := 198) (by decide +kernel)) rfl
theorem m6_199 : Cond.fieldLink RX13 237 RX13 "foundRoom" "I" ∈ bt := in_t6 (List.mem_of_getElem? (i := 199) (by decide +kernel)) rfl
theorem m6_200 : Cond.fieldLink RX13 240 RX13 "foundOfficer" "I" ∈ bt := in_t6 (List.mem_of_getElem? (i := 200) (by decide +kernel)) rfl
theorem m6_201 : Cond.fieldLink RX13 51 RX13 "queue" "[I" ∈ bt := in_t6 (List.mem_of_getElem? (i := 201) (by decide +kernel)) rfl
theorem m6_202 : Cond.fieldLink RX13 54 RX13 "needed" "[I" ∈ bt := in_t6 (List.mem_of_getElem? (i := 202) (by decide +kernel)) rfl
theorem m6_203 : Cond.fieldLink RX13 57 RX13 "isPeaceful" "[Z" ∈ bt := in_t6 (List.mem_of_getElem? (i := 203) (by decide +kernel)) rfl
theorem m6_204 : Cond.fieldLink RX13 61 RX13 "buffer" "[B" ∈ bt := in_t6 (List.mem_of_getElem? (i := 204) (by decide +kernel)) rfl
theorem m6_205 : Cond.fieldLink RX13 331 RX13 "filled" "I" ∈ bt := in_t6 (List.mem_of_getElem? (i := 205) (by decide +kernel)) rfl
theorem m6_206 : Cond.fieldLink RX13 334 RX13 "length" "I" ∈ bt := in_t6 (List.mem_of_getElem? (i := 206) (by decide +kernel)) rfl
theorem m6_207 : Cond.fieldLink RX13 337 RX13 "place" "I" ∈ bt := in_t6 (List.mem_of_getElem? (i := 207) (by decide +kernel)) rfl
theorem m6_208 : Cond.fieldLink RX13 343 RX13 "from" "I" ∈ bt := in_t6 (List.mem_of_getElem? (i := 208) (by decide +kernel)) rfl
theorem m6_209 : Cond.fieldLink RX13 346 RX13 "token" "I" ∈ bt := in_t6 (List.mem_of_getElem? (i := 209) (by decide +kernel)) rfl
theorem m6_210 : Cond.fieldLink RX13 356 RX13 "word" "I" ∈ bt := in_t6 (List.mem_of_getElem? (i := 210) (by decide +kernel)) rfl
theorem m6_211 : Cond.fieldLink RX13 363 RX13 "value" "I" ∈ bt := in_t6 (List.mem_of_getElem? (i := 211) (by decide +kernel)) rfl
theorem m6_212 : Cond.fieldLink RX13 376 RX13 "code" "I" ∈ bt := in_t6 (List.mem_of_getElem? (i := 212) (by decide +kernel)) rfl
theorem m6_213 : Cond.fieldLink RX13 65 RX13 "offset" "I" ∈ bt := in_t6 (List.mem_of_getElem? (i := 213) (by decide +kernel)) rfl
theorem m6_214 : Cond.fieldLink RX13 68 RX13 "draftRooms" "[J" ∈ bt := in_t6 (List.mem_of_getElem? (i := 214) (by decide +kernel)) rfl
theorem m6_215 : Cond.fieldLink RX13 71 RX13 "draftOfficers" "[J" ∈ bt := in_t6 (List.mem_of_getElem? (i := 215) (by decide +kernel)) rfl
theorem m6_216 : Cond.fieldLink RX13 74 RX13 "draftWitnesses" "[J" ∈ bt := in_t6 (List.mem_of_getElem? (i := 216) (by decide +kernel)) rfl
theorem m6_217 : Cond.fieldLink RX13 77 RX13 "draftCases" "[J" ∈ bt := in_t6 (List.mem_of_getElem? (i := 217) (by decide +kernel)) rfl
theorem m6_218 : Cond.fieldLink RX13 80 RX13 "output" "[B" ∈ bt := in_t6 (List.mem_of_getElem? (i := 218) (by decide +kernel)) rfl
theorem m6_219 : Cond.fieldLink RX13 477 RX13 "written" "I" ∈ bt := in_t6 (List.mem_of_getElem? (i := 219) (by decide +kernel)) rfl
theorem m6_220 : Cond.lays RX13 RX13 "told" "I" ∈ bt := in_t6 (List.mem_of_getElem? (i := 220) (by decide +kernel)) rfl
theorem m6_222 : Cond.laysFinal RX13 RX13 "setup" "[I" ∈ bt := in_t6 (List.mem_of_getElem? (i := 222) (by decide +kernel)) rfl
theorem m6_224 : Cond.laysFinal RX13 RX13 "draft" "[I" ∈ bt := in_t6 (List.mem_of_getElem? (i := 224) (by decide +kernel)) rfl
theorem m6_226 : Cond.laysFinal RX13 RX13 "now" "[I" ∈ bt := in_t6 (List.mem_of_getElem? (i := 226) (by decide +kernel)) rfl
theorem m6_228 : Cond.laysFinal RX13 RX13 "first" "[I" ∈ bt := in_t6 (List.mem_of_getElem? (i := 228) (by decide +kernel)) rfl
theorem m6_230 : Cond.laysFinal RX13 RX13 "aside" "[I" ∈ bt := in_t6 (List.mem_of_getElem? (i := 230) (by decide +kernel)) rfl
theorem m6_232 : Cond.laysFinal RX13 RX13 "tried" "[I" ∈ bt := in_t6 (List.mem_of_getElem? (i := 232) (by decide +kernel)) rfl
theorem m6_234 : Cond.laysFinal RX13 RX13 "saved" "[I" ∈ bt := in_t6 (List.mem_of_getElem? (i := 234) (by decide +kernel)) rfl
theorem m6_236 : Cond.laysFinal RX13 RX13 "history" "[I" ∈ bt := in_t6 (List.mem_of_getElem? (i := 236) (by decide +kernel)) rfl
theorem m6_238 : Cond.lays RX13 RX13 "historyMany" "I" ∈ bt := in_t6 (List.mem_of_getElem? (i := 238) (by decide +kernel)) rfl
theorem m7_0 : Cond.lays RX13 RX13 "isSaved" "Z" ∈ bt := in_t7 (List.mem_of_getElem? (i := 0) (by decide +kernel)) rfl
theorem m7_2 : Cond.laysFinal RX13 RX13 "roomNames" "[J" ∈ bt := in_t7 (List.mem_of_getElem? (i := 2) (by decide +kernel)) rfl
theorem m7_4 : Cond.laysFinal RX13 RX13 "officerNames" "[J" ∈ bt := in_t7 (List.mem_of_getElem? (i := 4) (by decide +kernel)) rfl
theorem m7_6 : Cond.laysFinal RX13 RX13 "witnessNames" "[J" ∈ bt := in_t7 (List.mem_of_getElem? (i := 6) (by decide +kernel)) rfl
theorem m7_8 : Cond.laysFinal RX13 RX13 "caseNames" "[J" ∈ bt := in_t7 (List.mem_of_getElem? (i := 8) (by decide +kernel)) rfl
theorem m7_10 : Cond.lays RX13 RX13 "gone" "I" ∈ bt := in_t7 (List.mem_of_getElem? (i := 10) (by decide +kernel)) rfl
theorem m7_12 : Cond.lays RX13 RX13 "foundDay" "I" ∈ bt := in_t7 (List.mem_of_getElem? (i := 12) (by decide +kernel)) rfl
theorem m7_14 : Cond.lays RX13 RX13 "foundSlot" "I" ∈ bt := in_t7 (List.mem_of_getElem? (i := 14) (by decide +kernel)) rfl
theorem m7_16 : Cond.lays RX13 RX13 "foundRoom" "I" ∈ bt := in_t7 (List.mem_of_getElem? (i := 16) (by decide +kernel)) rfl
theorem m7_18 : Cond.lays RX13 RX13 "foundOfficer" "I" ∈ bt := in_t7 (List.mem_of_getElem? (i := 18) (by decide +kernel)) rfl
theorem m7_20 : Cond.laysFinal RX13 RX13 "queue" "[I" ∈ bt := in_t7 (List.mem_of_getElem? (i := 20) (by decide +kernel)) rfl
theorem m7_22 : Cond.laysFinal RX13 RX13 "needed" "[I" ∈ bt := in_t7 (List.mem_of_getElem? (i := 22) (by decide +kernel)) rfl
theorem m7_24 : Cond.laysFinal RX13 RX13 "isPeaceful" "[Z" ∈ bt := in_t7 (List.mem_of_getElem? (i := 24) (by decide +kernel)) rfl
theorem m7_26 : Cond.laysFinal RX13 RX13 "buffer" "[B" ∈ bt := in_t7 (List.mem_of_getElem? (i := 26) (by decide +kernel)) rfl
theorem m7_28 : Cond.lays RX13 RX13 "filled" "I" ∈ bt := in_t7 (List.mem_of_getElem? (i := 28) (by decide +kernel)) rfl
theorem m7_30 : Cond.lays RX13 RX13 "length" "I" ∈ bt := in_t7 (List.mem_of_getElem? (i := 30) (by decide +kernel)) rfl
theorem m7_32 : Cond.lays RX13 RX13 "place" "I" ∈ bt := in_t7 (List.mem_of_getElem? (i := 32) (by decide +kernel)) rfl
theorem m7_34 : Cond.lays RX13 RX13 "from" "I" ∈ bt := in_t7 (List.mem_of_getElem? (i := 34) (by decide +kernel)) rfl
theorem m7_36 : Cond.lays RX13 RX13 "token" "I" ∈ bt := in_t7 (List.mem_of_getElem? (i := 36) (by decide +kernel)) rfl
theorem m7_38 : Cond.lays RX13 RX13 "word" "I" ∈ bt := in_t7 (List.mem_of_getElem? (i := 38) (by decide +kernel)) rfl
theorem m7_40 : Cond.lays RX13 RX13 "value" "I" ∈ bt := in_t7 (List.mem_of_getElem? (i := 40) (by decide +kernel)) rfl
theorem m7_42 : Cond.lays RX13 RX13 "code" "I" ∈ bt := in_t7 (List.mem_of_getElem? (i := 42) (by decide +kernel)) rfl
theorem m7_44 : Cond.lays RX13 RX13 "offset" "I" ∈ bt := in_t7 (List.mem_of_getElem? (i := 44) (by decide +kernel)) rfl
theorem m7_46 : Cond.laysFinal RX13 RX13 "draftRooms" "[J" ∈ bt := in_t7 (List.mem_of_getElem? (i := 46) (by decide +kernel)) rfl
theorem m7_48 : Cond.laysFinal RX13 RX13 "draftOfficers" "[J" ∈ bt := in_t7 (List.mem_of_getElem? (i := 48) (by decide +kernel)) rfl
theorem m7_50 : Cond.laysFinal RX13 RX13 "draftWitnesses" "[J" ∈ bt := in_t7 (List.mem_of_getElem? (i := 50) (by decide +kernel)) rfl
theorem m7_52 : Cond.laysFinal RX13 RX13 "draftCases" "[J" ∈ bt := in_t7 (List.mem_of_getElem? (i := 52) (by decide +kernel)) rfl
theorem m7_54 : Cond.laysFinal RX13 RX13 "output" "[B" ∈ bt := in_t7 (List.mem_of_getElem? (i := 54) (by decide +kernel)) rfl
theorem m7_56 : Cond.lays RX13 RX13 "written" "I" ∈ bt := in_t7 (List.mem_of_getElem? (i := 56) (by decide +kernel)) rfl
theorem m7_59 : Cond.arrayClass Jvm.ClassFile.FieldType.boolean ∈ bt := in_t7 (List.mem_of_getElem? (i := 59) (by decide +kernel)) rfl
theorem m7_60 : Cond.methodLink RL 149 yX13_thrown ∈ bt := in_t7 (List.mem_of_getElem? (i := 60) (by decide +kernel)) rfl
theorem m7_61 : Cond.instanceMethod yX13_thrown ∈ bt := in_t7 (List.mem_of_getElem? (i := 61) (by decide +kernel)) rfl
theorem m7_62 : Cond.selects RX13 yX13_thrown yX13_thrown ∈ bt := in_t7 (List.mem_of_getElem? (i := 62) (by decide +kernel)) rfl
theorem m7_63 : Cond.code yX13_thrown cX13_thrown 1 (Option.some Jvm.ClassFile.FieldType.int) ∈ bt := in_t7 (List.mem_of_getElem? (i := 63) (by decide +kernel)) rfl
theorem m7_64 : Cond.methodLink RL 247 yX13_undo ∈ bt := in_t7 (List.mem_of_getElem? (i := 64) (by decide +kernel)) rfl
theorem m7_65 : Cond.instanceMethod yX13_undo ∈ bt := in_t7 (List.mem_of_getElem? (i := 65) (by decide +kernel)) rfl
theorem m7_66 : Cond.selects RX13 yX13_undo yX13_undo ∈ bt := in_t7 (List.mem_of_getElem? (i := 66) (by decide +kernel)) rfl
theorem m7_67 : Cond.code yX13_undo cX13_undo 2 (Option.some Jvm.ClassFile.FieldType.int) ∈ bt := in_t7 (List.mem_of_getElem? (i := 67) (by decide +kernel)) rfl
theorem m7_68 : Cond.methodLink RX13 110 yX13_is ∈ bt := in_t7 (List.mem_of_getElem? (i := 68) (by decide +kernel)) rfl
theorem m7_70 : Cond.instanceMethod yX13_is ∈ bt := in_t7 (List.mem_of_getElem? (i := 70) (by decide +kernel)) rfl
theorem m7_71 : Cond.code yX13_is cX13_is 2 (Option.some Jvm.ClassFile.FieldType.boolean) ∈ bt := in_t7 (List.mem_of_getElem? (i := 71) (by decide +kernel)) rfl
theorem m7_72 : Cond.methodLink RL 269 yX13_saveState ∈ bt := in_t7 (List.mem_of_getElem? (i := 72) (by decide +kernel)) rfl
theorem m7_73 : Cond.instanceMethod yX13_saveState ∈ bt := in_t7 (List.mem_of_getElem? (i := 73) (by decide +kernel)) rfl
theorem m7_74 : Cond.selects RX13 yX13_saveState yX13_saveState ∈ bt := in_t7 (List.mem_of_getElem? (i := 74) (by decide +kernel)) rfl
theorem m7_75 : Cond.code yX13_saveState cX13_saveState 1 (Option.some Jvm.ClassFile.FieldType.int) ∈ bt := in_t7 (List.mem_of_getElem? (i := 75) (by decide +kernel)) rfl
theorem m7_76 : Cond.methodLink RL 272 yX13_restoreState ∈ bt := in_t7 (List.mem_of_getElem? (i := 76) (by decide +kernel)) rfl
theorem m7_77 : Cond.instanceMethod yX13_restoreState ∈ bt := in_t7 (List.mem_of_getElem? (i := 77) (by decide +kernel)) rfl
theorem m7_78 : Cond.selects RX13 yX13_restoreState yX13_restoreState ∈ bt := in_t7 (List.mem_of_getElem? (i := 78) (by decide +kernel)) rfl
theorem m7_79 : Cond.code yX13_restoreState cX13_restoreState 1 (Option.some Jvm.ClassFile.FieldType.int) ∈ bt := in_t7 (List.mem_of_getElem? (i := 79) (by decide +kernel)) rfl
theorem m7_80 : Cond.methodLink RL 154 yX13_isWorkingDay ∈ bt := in_t7 (List.mem_of_getElem? (i := 80) (by decide +kernel)) rfl
theorem m7_81 : Cond.instanceMethod yX13_isWorkingDay ∈ bt := in_t7 (List.mem_of_getElem? (i := 81) (by decide +kernel)) rfl
theorem m7_82 : Cond.selects RX13 yX13_isWorkingDay yX13_isWorkingDay ∈ bt := in_t7 (List.mem_of_getElem? (i := 82) (by decide +kernel)) rfl
theorem m7_83 : Cond.code yX13_isWorkingDay cX13_isWorkingDay 2 (Option.some Jvm.ClassFile.FieldType.boolean) ∈ bt := in_t7 (List.mem_of_getElem? (i := 83) (by decide +kernel)) rfl
theorem m7_84 : Cond.methodLink RX13 127 yX13_isDay ∈ bt := in_t7 (List.mem_of_getElem? (i := 84) (by decide +kernel)) rfl
theorem m7_85 : Cond.static yX13_isDay ∈ bt := in_t7 (List.mem_of_getElem? (i := 85) (by decide +kernel)) rfl
theorem m7_86 : Cond.code yX13_isDay cX13_isDay 1 (Option.some Jvm.ClassFile.FieldType.boolean) ∈ bt := in_t7 (List.mem_of_getElem? (i := 86) (by decide +kernel)) rfl
theorem m7_87 : Cond.constantLong RX13 121 (599 : Int64) ∈ bt := in_t7 (List.mem_of_getElem? (i := 87) (by decide +kernel)) rfl
theorem m7_88 : Cond.methodLink RX13 123 yX13_isIn ∈ bt := in_t7 (List.mem_of_getElem? (i := 88) (by decide +kernel)) rfl
theorem m7_89 : Cond.static yX13_isIn ∈ bt := in_t7 (List.mem_of_getElem? (i := 89) (by decide +kernel)) rfl
theorem m7_90 : Cond.code yX13_isIn cX13_isIn 6 (Option.some Jvm.ClassFile.FieldType.boolean) ∈ bt := in_t7 (List.mem_of_getElem? (i := 90) (by decide +kernel)) rfl
theorem m7_91 : Cond.methodLink RX13 118 yX13_isWorking ∈ bt := in_t7 (List.mem_of_getElem? (i := 91) (by decide +kernel)) rfl
theorem m7_93 : Cond.instanceMethod yX13_isWorking ∈ bt := in_t7 (List.mem_of_getElem? (i := 93) (by decide +kernel)) rfl
theorem m7_94 : Cond.code yX13_isWorking cX13_isWorking 2 (Option.some Jvm.ClassFile.FieldType.boolean) ∈ bt := in_t7 (List.mem_of_getElem? (i := 94) (by decide +kernel)) rfl
theorem m7_95 : Cond.methodLink RX13 114 yX13_isHoliday ∈ bt := in_t7 (List.mem_of_getElem? (i := 95) (by decide +kernel)) rfl
theorem m7_97 : Cond.instanceMethod yX13_isHoliday ∈ bt := in_t7 (List.mem_of_getElem? (i := 97) (by decide +kernel)) rfl
theorem m7_98 : Cond.code yX13_isHoliday cX13_isHoliday 3 (Option.some Jvm.ClassFile.FieldType.boolean) ∈ bt := in_t7 (List.mem_of_getElem? (i := 98) (by decide +kernel)) rfl
theorem m7_99 : Cond.methodLink RL 158 yX13_workingDays ∈ bt := in_t7 (List.mem_of_getElem? (i := 99) (by decide +kernel)) rfl
theorem m7_100 : Cond.instanceMethod yX13_workingDays ∈ bt := in_t7 (List.mem_of_getElem? (i := 100) (by decide +kernel)) rfl
theorem m7_101 : Cond.selects RX13 yX13_workingDays yX13_workingDays ∈ bt := in_t7 (List.mem_of_getElem? (i := 101) (by decide +kernel)) rfl
theorem m7_102 : Cond.code yX13_workingDays cX13_workingDays 3 (Option.some Jvm.ClassFile.FieldType.int) ∈ bt := in_t7 (List.mem_of_getElem? (i := 102) (by decide +kernel)) rfl
theorem m7_103 : Cond.methodLink RX13 130 yX13_isSpan ∈ bt := in_t7 (List.mem_of_getElem? (i := 103) (by decide +kernel)) rfl
theorem m7_104 : Cond.static yX13_isSpan ∈ bt := in_t7 (List.mem_of_getElem? (i := 104) (by decide +kernel)) rfl
theorem m7_105 : Cond.code yX13_isSpan cX13_isSpan 2 (Option.some Jvm.ClassFile.FieldType.boolean) ∈ bt := in_t7 (List.mem_of_getElem? (i := 105) (by decide +kernel)) rfl
theorem m7_106 : Cond.methodLink RX13 134 yX13_workingIn ∈ bt := in_t7 (List.mem_of_getElem? (i := 106) (by decide +kernel)) rfl
theorem m7_108 : Cond.instanceMethod yX13_workingIn ∈ bt := in_t7 (List.mem_of_getElem? (i := 108) (by decide +kernel)) rfl
theorem m7_109 : Cond.code yX13_workingIn cX13_workingIn 5 (Option.some Jvm.ClassFile.FieldType.int) ∈ bt := in_t7 (List.mem_of_getElem? (i := 109) (by decide +kernel)) rfl
theorem m7_110 : Cond.methodLink RL 202 yX13_slack ∈ bt := in_t7 (List.mem_of_getElem? (i := 110) (by decide +kernel)) rfl
theorem m7_111 : Cond.instanceMethod yX13_slack ∈ bt := in_t7 (List.mem_of_getElem? (i := 111) (by decide +kernel)) rfl
theorem m7_112 : Cond.selects RX13 yX13_slack yX13_slack ∈ bt := in_t7 (List.mem_of_getElem? (i := 112) (by decide +kernel)) rfl
theorem m7_113 : Cond.code yX13_slack cX13_slack 2 (Option.some Jvm.ClassFile.FieldType.int) ∈ bt := in_t7 (List.mem_of_getElem? (i := 113) (by decide +kernel)) rfl
theorem m7_114 : Cond.methodLink RX13 148 yX13_isCase ∈ bt := in_t7 (List.mem_of_getElem? (i := 114) (by decide +kernel)) rfl
theorem m7_116 : Cond.instanceMethod yX13_isCase ∈ bt := in_t7 (List.mem_of_getElem? (i := 116) (by decide +kernel)) rfl
theorem m7_117 : Cond.code yX13_isCase cX13_isCase 2 (Option.some Jvm.ClassFile.FieldType.boolean) ∈ bt := in_t7 (List.mem_of_getElem? (i := 117) (by decide +kernel)) rfl
theorem m7_118 : Cond.methodLink RX13 151 yX13_slackOf ∈ bt := in_t7 (List.mem_of_getElem? (i := 118) (by decide +kernel)) rfl
theorem m7_120 : Cond.instanceMethod yX13_slackOf ∈ bt := in_t7 (List.mem_of_getElem? (i := 120) (by decide +kernel)) rfl
theorem m7_121 : Cond.code yX13_slackOf cX13_slackOf 2 (Option.some Jvm.ClassFile.FieldType.int) ∈ bt := in_t7 (List.mem_of_getElem? (i := 121) (by decide +kernel)) rfl
theorem m7_122 : Cond.methodLink RX13 144 yX13_limitDay ∈ bt := in_t7 (List.mem_of_getElem? (i := 122) (by decide +kernel)) rfl
theorem m7_124 : Cond.instanceMethod yX13_limitDay ∈ bt := in_t7 (List.mem_of_getElem? (i := 124) (by decide +kernel)) rfl
theorem m7_125 : Cond.code yX13_limitDay cX13_limitDay 4 (Option.some Jvm.ClassFile.FieldType.int) ∈ bt := in_t7 (List.mem_of_getElem? (i := 125) (by decide +kernel)) rfl
theorem m7_126 : Cond.methodLink RX13 141 yX13_of ∈ bt := in_t7 (List.mem_of_getElem? (i := 126) (by decide +kernel)) rfl
theorem m7_128 : Cond.instanceMethod yX13_of ∈ bt := in_t7 (List.mem_of_getElem? (i := 128) (by decide +kernel)) rfl
theorem m7_129 : Cond.code yX13_of cX13_of 3 (Option.some Jvm.ClassFile.FieldType.int) ∈ bt := in_t7 (List.mem_of_getElem? (i := 129) (by decide +kernel)) rfl
theorem m7_130 : Cond.methodLink RX13 138 yX13_at ∈ bt := in_t7 (List.mem_of_getElem? (i := 130) (by decide +kernel)) rfl
theorem m7_132 : Cond.instanceMethod yX13_at ∈ bt := in_t7 (List.mem_of_getElem? (i := 132) (by decide +kernel)) rfl
theorem m7_133 : Cond.code yX13_at cX13_at 3 (Option.some Jvm.ClassFile.FieldType.int) ∈ bt := in_t7 (List.mem_of_getElem? (i := 133) (by decide +kernel)) rfl
theorem m7_134 : Cond.methodLink RL 214 yX13_meanSlack ∈ bt := in_t7 (List.mem_of_getElem? (i := 134) (by decide +kernel)) rfl
theorem m7_135 : Cond.instanceMethod yX13_meanSlack ∈ bt := in_t7 (List.mem_of_getElem? (i := 135) (by decide +kernel)) rfl
theorem m7_136 : Cond.selects RX13 yX13_meanSlack yX13_meanSlack ∈ bt := in_t7 (List.mem_of_getElem? (i := 136) (by decide +kernel)) rfl
theorem m7_137 : Cond.code yX13_meanSlack cX13_meanSlack 4 (Option.some Jvm.ClassFile.FieldType.double) ∈ bt := in_t7 (List.mem_of_getElem? (i := 137) (by decide +kernel)) rfl
theorem m7_138 : Cond.methodLink RX13 154 yX13_manyIn ∈ bt := in_t7 (List.mem_of_getElem? (i := 138) (by decide +kernel)) rfl
theorem m7_140 : Cond.instanceMethod yX13_manyIn ∈ bt := in_t7 (List.mem_of_getElem? (i := 140) (by decide +kernel)) rfl
theorem m7_141 : Cond.code yX13_manyIn cX13_manyIn 4 (Option.some Jvm.ClassFile.FieldType.int) ∈ bt := in_t7 (List.mem_of_getElem? (i := 141) (by decide +kernel)) rfl
theorem m7_142 : Cond.methodLink RL 176 yX13_matter ∈ bt := in_t7 (List.mem_of_getElem? (i := 142) (by decide +kernel)) rfl
theorem m7_143 : Cond.instanceMethod yX13_matter ∈ bt := in_t7 (List.mem_of_getElem? (i := 143) (by decide +kernel)) rfl
theorem m7_144 : Cond.selects RX13 yX13_matter yX13_matter ∈ bt := in_t7 (List.mem_of_getElem? (i := 144) (by decide +kernel)) rfl
theorem m7_145 : Cond.code yX13_matter cX13_matter 3 (Option.some Jvm.ClassFile.FieldType.int) ∈ bt := in_t7 (List.mem_of_getElem? (i := 145) (by decide +kernel)) rfl
theorem m7_146 : Cond.constantLong RX13 157 (9 : Int64) ∈ bt := in_t7 (List.mem_of_getElem? (i := 146) (by decide +kernel)) rfl
theorem m7_147 : Cond.methodLink RX13 159 yX13_bits ∈ bt := in_t7 (List.mem_of_getElem? (i := 147) (by decide +kernel)) rfl
theorem m7_148 : Cond.static yX13_bits ∈ bt := in_t7 (List.mem_of_getElem? (i := 148) (by decide +kernel)) rfl
theorem m7_149 : Cond.code yX13_bits cX13_bits 3 (Option.some Jvm.ClassFile.FieldType.int) ∈ bt := in_t7 (List.mem_of_getElem? (i := 149) (by decide +kernel)) rfl
theorem m7_150 : Cond.methodLink RL 179 yX13_hearing ∈ bt := in_t7 (List.mem_of_getElem? (i := 150) (by decide +kernel)) rfl
theorem m7_151 : Cond.instanceMethod yX13_hearing ∈ bt := in_t7 (List.mem_of_getElem? (i := 151) (by decide +kernel)) rfl
theorem m7_152 : Cond.selects RX13 yX13_hearing yX13_hearing ∈ bt := in_t7 (List.mem_of_getElem? (i := 152) (by decide +kernel)) rfl
theorem m7_153 : Cond.code yX13_hearing cX13_hearing 3 (Option.some Jvm.ClassFile.FieldType.int) ∈ bt := in_t7 (List.mem_of_getElem? (i := 153) (by decide +kernel)) rfl
theorem m7_154 : Cond.constantLong RX13 162 (3 : Int64) ∈ bt := in_t7 (List.mem_of_getElem? (i := 154) (by decide +kernel)) rfl
theorem m7_155 : Cond.methodLink RX13 164 yX13_hasHearing ∈ bt := in_t7 (List.mem_of_getElem? (i := 155) (by decide +kernel)) rfl
theorem m7_157 : Cond.instanceMethod yX13_hasHearing ∈ bt := in_t7 (List.mem_of_getElem? (i := 157) (by decide +kernel)) rfl
theorem m7_158 : Cond.code yX13_hasHearing cX13_hasHearing 2 (Option.some Jvm.ClassFile.FieldType.boolean) ∈ bt := in_t7 (List.mem_of_getElem? (i := 158) (by decide +kernel)) rfl
theorem m7_159 : Cond.methodLink RL 183 yX13_adjournment ∈ bt := in_t7 (List.mem_of_getElem? (i := 159) (by decide +kernel)) rfl
theorem m7_160 : Cond.instanceMethod yX13_adjournment ∈ bt := in_t7 (List.mem_of_getElem? (i := 160) (by decide +kernel)) rfl
theorem m7_161 : Cond.selects RX13 yX13_adjournment yX13_adjournment ∈ bt := in_t7 (List.mem_of_getElem? (i := 161) (by decide +kernel)) rfl
theorem m7_162 : Cond.code yX13_adjournment cX13_adjournment 4 (Option.some Jvm.ClassFile.FieldType.int) ∈ bt := in_t7 (List.mem_of_getElem? (i := 162) (by decide +kernel)) rfl
theorem m7_163 : Cond.methodLink RL 190 yX13_problem ∈ bt := in_t7 (List.mem_of_getElem? (i := 163) (by decide +kernel)) rfl
theorem m7_164 : Cond.instanceMethod yX13_problem ∈ bt := in_t7 (List.mem_of_getElem? (i := 164) (by decide +kernel)) rfl
theorem m7_165 : Cond.selects RX13 yX13_problem yX13_problem ∈ bt := in_t7 (List.mem_of_getElem? (i := 165) (by decide +kernel)) rfl
theorem m7_166 : Cond.code yX13_problem cX13_problem 6 (Option.some Jvm.ClassFile.FieldType.int) ∈ bt := in_t7 (List.mem_of_getElem? (i := 166) (by decide +kernel)) rfl
theorem m7_167 : Cond.methodLink RX13 208 yX13_areThere ∈ bt := in_t7 (List.mem_of_getElem? (i := 167) (by decide +kernel)) rfl
theorem m7_169 : Cond.instanceMethod yX13_areThere ∈ bt := in_t7 (List.mem_of_getElem? (i := 169) (by decide +kernel)) rfl
theorem m7_170 : Cond.code yX13_areThere cX13_areThere 4 (Option.some Jvm.ClassFile.FieldType.boolean) ∈ bt := in_t7 (List.mem_of_getElem? (i := 170) (by decide +kernel)) rfl
theorem m7_171 : Cond.methodLink RX13 200 yX13_isRoom ∈ bt := in_t7 (List.mem_of_getElem? (i := 171) (by decide +kernel)) rfl
theorem m7_173 : Cond.instanceMethod yX13_isRoom ∈ bt := in_t7 (List.mem_of_getElem? (i := 173) (by decide +kernel)) rfl
theorem m7_174 : Cond.code yX13_isRoom cX13_isRoom 2 (Option.some Jvm.ClassFile.FieldType.boolean) ∈ bt := in_t7 (List.mem_of_getElem? (i := 174) (by decide +kernel)) rfl
theorem m7_175 : Cond.methodLink RX13 203 yX13_isOfficer ∈ bt := in_t7 (List.mem_of_getElem? (i := 175) (by decide +kernel)) rfl
theorem m7_177 : Cond.instanceMethod yX13_isOfficer ∈ bt := in_t7 (List.mem_of_getElem? (i := 177) (by decide +kernel)) rfl
theorem m7_178 : Cond.code yX13_isOfficer cX13_isOfficer 2 (Option.some Jvm.ClassFile.FieldType.boolean) ∈ bt := in_t7 (List.mem_of_getElem? (i := 178) (by decide +kernel)) rfl
theorem m7_179 : Cond.methodLink RX13 211 yX13_isTime ∈ bt := in_t7 (List.mem_of_getElem? (i := 179) (by decide +kernel)) rfl
theorem m7_180 : Cond.static yX13_isTime ∈ bt := in_t7 (List.mem_of_getElem? (i := 180) (by decide +kernel)) rfl
theorem m7_181 : Cond.code yX13_isTime cX13_isTime 2 (Option.some Jvm.ClassFile.FieldType.boolean) ∈ bt := in_t7 (List.mem_of_getElem? (i := 181) (by decide +kernel)) rfl
theorem m7_182 : Cond.constantLong RX13 206 (7 : Int64) ∈ bt := in_t7 (List.mem_of_getElem? (i := 182) (by decide +kernel)) rfl
theorem m7_183 : Cond.methodLink RX13 214 yX13_may ∈ bt := in_t7 (List.mem_of_getElem? (i := 183) (by decide +kernel)) rfl
theorem m7_185 : Cond.instanceMethod yX13_may ∈ bt := in_t7 (List.mem_of_getElem? (i := 185) (by decide +kernel)) rfl
theorem m7_186 : Cond.code yX13_may cX13_may 3 (Option.some Jvm.ClassFile.FieldType.boolean) ∈ bt := in_t7 (List.mem_of_getElem? (i := 186) (by decide +kernel)) rfl
theorem m7_187 : Cond.methodLink RX13 218 yX13_isOpen ∈ bt := in_t7 (List.mem_of_getElem? (i := 187) (by decide +kernel)) rfl
theorem m7_189 : Cond.instanceMethod yX13_isOpen ∈ bt := in_t7 (List.mem_of_getElem? (i := 189) (by decide +kernel)) rfl
theorem m7_190 : Cond.code yX13_isOpen cX13_isOpen 2 (Option.some Jvm.ClassFile.FieldType.boolean) ∈ bt := in_t7 (List.mem_of_getElem? (i := 190) (by decide +kernel)) rfl
theorem m7_191 : Cond.methodLink RX13 221 yX13_problemOf ∈ bt := in_t7 (List.mem_of_getElem? (i := 191) (by decide +kernel)) rfl
theorem m7_193 : Cond.instanceMethod yX13_problemOf ∈ bt := in_t7 (List.mem_of_getElem? (i := 193) (by decide +kernel)) rfl
theorem m7_194 : Cond.code yX13_problemOf cX13_problemOf 6 (Option.some Jvm.ClassFile.FieldType.int) ∈ bt := in_t7 (List.mem_of_getElem? (i := 194) (by decide +kernel)) rfl
theorem m7_195 : Cond.methodLink RX13 193 yX13_isDayOut ∈ bt := in_t7 (List.mem_of_getElem? (i := 195) (by decide +kernel)) rfl
theorem m7_197 : Cond.instanceMethod yX13_isDayOut ∈ bt := in_t7 (List.mem_of_getElem? (i := 197) (by decide +kernel)) rfl
theorem m7_198 : Cond.code yX13_isDayOut cX13_isDayOut 3 (Option.some Jvm.ClassFile.FieldType.boolean) ∈ bt := in_t7 (List.mem_of_getElem? (i := 198) (by decide +kernel)) rfl
theorem m7_199 : Cond.methodLink RX13 196 yX13_problemOn ∈ bt := in_t7 (List.mem_of_getElem? (i := 199) (by decide +kernel)) rfl
theorem m7_201 : Cond.instanceMethod yX13_problemOn ∈ bt := in_t7 (List.mem_of_getElem? (i := 201) (by decide +kernel)) rfl
theorem m7_202 : Cond.code yX13_problemOn cX13_problemOn 6 (Option.some Jvm.ClassFile.FieldType.int) ∈ bt := in_t7 (List.mem_of_getElem? (i := 202) (by decide +kernel)) rfl
theorem m7_203 : Cond.methodLink RX13 174 yX13_isRoomTaken ∈ bt := in_t7 (List.mem_of_getElem? (i := 203) (by decide +kernel)) rfl
theorem m7_205 : Cond.instanceMethod yX13_isRoomTaken ∈ bt := in_t7 (List.mem_of_getElem? (i := 205) (by decide +kernel)) rfl
theorem m7_206 : Cond.code yX13_isRoomTaken cX13_isRoomTaken 6 (Option.some Jvm.ClassFile.FieldType.boolean) ∈ bt := in_t7 (List.mem_of_getElem? (i := 206) (by decide +kernel)) rfl
theorem m7_207 : Cond.methodLink RX13 170 yX13_meets ∈ bt := in_t7 (List.mem_of_getElem? (i := 207) (by decide +kernel)) rfl
theorem m7_209 : Cond.instanceMethod yX13_meets ∈ bt := in_t7 (List.mem_of_getElem? (i := 209) (by decide +kernel)) rfl
theorem m7_210 : Cond.code yX13_meets cX13_meets 6 (Option.some Jvm.ClassFile.FieldType.boolean) ∈ bt := in_t7 (List.mem_of_getElem? (i := 210) (by decide +kernel)) rfl
theorem m7_211 : Cond.methodLink RX13 177 yX13_isOffOn ∈ bt := in_t7 (List.mem_of_getElem? (i := 211) (by decide +kernel)) rfl
theorem m7_213 : Cond.instanceMethod yX13_isOffOn ∈ bt := in_t7 (List.mem_of_getElem? (i := 213) (by decide +kernel)) rfl
theorem m7_214 : Cond.code yX13_isOffOn cX13_isOffOn 4 (Option.some Jvm.ClassFile.FieldType.boolean) ∈ bt := in_t7 (List.mem_of_getElem? (i := 214) (by decide +kernel)) rfl
theorem m7_215 : Cond.methodLink RX13 180 yX13_isOfficerTaken ∈ bt := in_t7 (List.mem_of_getElem? (i := 215) (by decide +kernel)) rfl
theorem m7_217 : Cond.instanceMethod yX13_isOfficerTaken ∈ bt := in_t7 (List.mem_of_getElem? (i := 217) (by decide +kernel)) rfl
theorem m7_218 : Cond.code yX13_isOfficerTaken cX13_isOfficerTaken 6 (Option.some Jvm.ClassFile.FieldType.boolean) ∈ bt := in_t7 (List.mem_of_getElem? (i := 218) (by decide +kernel)) rfl
theorem m7_219 : Cond.methodLink RX13 183 yX13_isBarredFrom ∈ bt := in_t7 (List.mem_of_getElem? (i := 219) (by decide +kernel)) rfl
theorem m7_221 : Cond.instanceMethod yX13_isBarredFrom ∈ bt := in_t7 (List.mem_of_getElem? (i := 221) (by decide +kernel)) rfl
theorem m7_222 : Cond.code yX13_isBarredFrom cX13_isBarredFrom 4 (Option.some Jvm.ClassFile.FieldType.boolean) ∈ bt := in_t7 (List.mem_of_getElem? (i := 222) (by decide +kernel)) rfl
theorem m7_223 : Cond.methodLink RX13 167 yX13_has ∈ bt := in_t7 (List.mem_of_getElem? (i := 223) (by decide +kernel)) rfl
theorem m7_224 : Cond.static yX13_has ∈ bt := in_t7 (List.mem_of_getElem? (i := 224) (by decide +kernel)) rfl
theorem m7_225 : Cond.code yX13_has cX13_has 2 (Option.some Jvm.ClassFile.FieldType.boolean) ∈ bt := in_t7 (List.mem_of_getElem? (i := 225) (by decide +kernel)) rfl
theorem m7_226 : Cond.methodLink RX13 186 yX13_isOutOfWindows ∈ bt := in_t7 (List.mem_of_getElem? (i := 226) (by decide +kernel)) rfl
theorem m7_228 : Cond.instanceMethod yX13_isOutOfWindows ∈ bt := in_t7 (List.mem_of_getElem? (i := 228) (by decide +kernel)) rfl
theorem m7_229 : Cond.code yX13_isOutOfWindows cX13_isOutOfWindows 6 (Option.some Jvm.ClassFile.FieldType.boolean) ∈ bt := in_t7 (List.mem_of_getElem? (i := 229) (by decide +kernel)) rfl
theorem m7_230 : Cond.methodLink RX13 190 yX13_isWitnessTaken ∈ bt := in_t7 (List.mem_of_getElem? (i := 230) (by decide +kernel)) rfl
theorem m7_232 : Cond.instanceMethod yX13_isWitnessTaken ∈ bt := in_t7 (List.mem_of_getElem? (i := 232) (by decide +kernel)) rfl
theorem m7_233 : Cond.code yX13_isWitnessTaken cX13_isWitnessTaken 5 (Option.some Jvm.ClassFile.FieldType.boolean) ∈ bt := in_t7 (List.mem_of_getElem? (i := 233) (by decide +kernel)) rfl
theorem m7_234 : Cond.methodLink RL 193 yX13_opening ∈ bt := in_t7 (List.mem_of_getElem? (i := 234) (by decide +kernel)) rfl
theorem m7_235 : Cond.instanceMethod yX13_opening ∈ bt := in_t7 (List.mem_of_getElem? (i := 235) (by decide +kernel)) rfl
theorem m7_236 : Cond.selects RX13 yX13_opening yX13_opening ∈ bt := in_t7 (List.mem_of_getElem? (i := 236) (by decide +kernel)) rfl
theorem m7_237 : Cond.code yX13_opening cX13_opening 3 (Option.some Jvm.ClassFile.FieldType.int) ∈ bt := in_t7 (List.mem_of_getElem? (i := 237) (by decide +kernel)) rfl
theorem m7_238 : Cond.methodLink RX13 249 yX13_finds ∈ bt := in_t7 (List.mem_of_getElem? (i := 238) (by decide +kernel)) rfl
theorem m8_0 : Cond.instanceMethod yX13_finds ∈ bt := in_t8 (List.mem_of_getElem? (i := 0) (by decide +kernel)) rfl
theorem m8_1 : Cond.code yX13_finds cX13_finds 4 (Option.some Jvm.ClassFile.FieldType.boolean) ∈ bt := in_t8 (List.mem_of_getElem? (i := 1) (by decide +kernel)) rfl
theorem m8_2 : Cond.methodLink RX13 243 yX13_lastDay ∈ bt := in_t8 (List.mem_of_getElem? (i := 2) (by decide +kernel)) rfl
theorem m8_4 : Cond.instanceMethod yX13_lastDay ∈ bt := in_t8 (List.mem_of_getElem? (i := 4) (by decide +kernel)) rfl
theorem m8_5 : Cond.code yX13_lastDay cX13_lastDay 3 (Option.some Jvm.ClassFile.FieldType.int) ∈ bt := in_t8 (List.mem_of_getElem? (i := 5) (by decide +kernel)) rfl
theorem m8_6 : Cond.methodLink RX13 246 yX13_findsOn ∈ bt := in_t8 (List.mem_of_getElem? (i := 6) (by decide +kernel)) rfl
theorem m8_8 : Cond.instanceMethod yX13_findsOn ∈ bt := in_t8 (List.mem_of_getElem? (i := 8) (by decide +kernel)) rfl
theorem m8_9 : Cond.code yX13_findsOn cX13_findsOn 6 (Option.some Jvm.ClassFile.FieldType.boolean) ∈ bt := in_t8 (List.mem_of_getElem? (i := 9) (by decide +kernel)) rfl
theorem m8_10 : Cond.methodLink RX13 227 yX13_officerFor ∈ bt := in_t8 (List.mem_of_getElem? (i := 10) (by decide +kernel)) rfl
theorem m8_12 : Cond.instanceMethod yX13_officerFor ∈ bt := in_t8 (List.mem_of_getElem? (i := 12) (by decide +kernel)) rfl
theorem m8_13 : Cond.code yX13_officerFor cX13_officerFor 7 (Option.some Jvm.ClassFile.FieldType.int) ∈ bt := in_t8 (List.mem_of_getElem? (i := 13) (by decide +kernel)) rfl
theorem m8_14 : Cond.methodLink RX13 224 yX13_loadOf ∈ bt := in_t8 (List.mem_of_getElem? (i := 14) (by decide +kernel)) rfl
theorem m8_16 : Cond.instanceMethod yX13_loadOf ∈ bt := in_t8 (List.mem_of_getElem? (i := 16) (by decide +kernel)) rfl
theorem m8_17 : Cond.code yX13_loadOf cX13_loadOf 4 (Option.some Jvm.ClassFile.FieldType.int) ∈ bt := in_t8 (List.mem_of_getElem? (i := 17) (by decide +kernel)) rfl
theorem m8_18 : Cond.methodLink RL 196 yX13_openDays ∈ bt := in_t8 (List.mem_of_getElem? (i := 18) (by decide +kernel)) rfl
theorem m8_19 : Cond.instanceMethod yX13_openDays ∈ bt := in_t8 (List.mem_of_getElem? (i := 19) (by decide +kernel)) rfl
theorem m8_20 : Cond.selects RX13 yX13_openDays yX13_openDays ∈ bt := in_t8 (List.mem_of_getElem? (i := 20) (by decide +kernel)) rfl
theorem m8_21 : Cond.code yX13_openDays cX13_openDays 5 (Option.some Jvm.ClassFile.FieldType.int) ∈ bt := in_t8 (List.mem_of_getElem? (i := 21) (by decide +kernel)) rfl
theorem m8_22 : Cond.methodLink RL 199 yX13_urgent ∈ bt := in_t8 (List.mem_of_getElem? (i := 22) (by decide +kernel)) rfl
theorem m8_23 : Cond.instanceMethod yX13_urgent ∈ bt := in_t8 (List.mem_of_getElem? (i := 23) (by decide +kernel)) rfl
theorem m8_24 : Cond.selects RX13 yX13_urgent yX13_urgent ∈ bt := in_t8 (List.mem_of_getElem? (i := 24) (by decide +kernel)) rfl
theorem m8_25 : Cond.code yX13_urgent cX13_urgent 2 (Option.some Jvm.ClassFile.FieldType.int) ∈ bt := in_t8 (List.mem_of_getElem? (i := 25) (by decide +kernel)) rfl
theorem m8_26 : Cond.methodLink RX13 255 yX13_urgentAt ∈ bt := in_t8 (List.mem_of_getElem? (i := 26) (by decide +kernel)) rfl
theorem m8_28 : Cond.instanceMethod yX13_urgentAt ∈ bt := in_t8 (List.mem_of_getElem? (i := 28) (by decide +kernel)) rfl
theorem m8_29 : Cond.code yX13_urgentAt cX13_urgentAt 5 (Option.some Jvm.ClassFile.FieldType.int) ∈ bt := in_t8 (List.mem_of_getElem? (i := 29) (by decide +kernel)) rfl
theorem m8_30 : Cond.methodLink RX13 252 yX13_isUrgenter ∈ bt := in_t8 (List.mem_of_getElem? (i := 30) (by decide +kernel)) rfl
theorem m8_32 : Cond.instanceMethod yX13_isUrgenter ∈ bt := in_t8 (List.mem_of_getElem? (i := 32) (by decide +kernel)) rfl
theorem m8_33 : Cond.code yX13_isUrgenter cX13_isUrgenter 5 (Option.some Jvm.ClassFile.FieldType.boolean) ∈ bt := in_t8 (List.mem_of_getElem? (i := 33) (by decide +kernel)) rfl
theorem m8_34 : Cond.methodLink RL 224 yX13_plan ∈ bt := in_t8 (List.mem_of_getElem? (i := 34) (by decide +kernel)) rfl
theorem m8_35 : Cond.instanceMethod yX13_plan ∈ bt := in_t8 (List.mem_of_getElem? (i := 35) (by decide +kernel)) rfl
theorem m8_36 : Cond.selects RX13 yX13_plan yX13_plan ∈ bt := in_t8 (List.mem_of_getElem? (i := 36) (by decide +kernel)) rfl
theorem m8_37 : Cond.code yX13_plan cX13_plan 6 (Option.some Jvm.ClassFile.FieldType.int) ∈ bt := in_t8 (List.mem_of_getElem? (i := 37) (by decide +kernel)) rfl
theorem m8_38 : Cond.methodLink RX13 262 yX13_starts ∈ bt := in_t8 (List.mem_of_getElem? (i := 38) (by decide +kernel)) rfl
theorem m8_40 : Cond.instanceMethod yX13_starts ∈ bt := in_t8 (List.mem_of_getElem? (i := 40) (by decide +kernel)) rfl
theorem m8_41 : Cond.code yX13_starts cX13_starts 1 (Option.none : Option Jvm.ClassFile.FieldType) ∈ bt := in_t8 (List.mem_of_getElem? (i := 41) (by decide +kernel)) rfl
theorem m8_42 : Cond.methodLink RX13 265 yX13_plans ∈ bt := in_t8 (List.mem_of_getElem? (i := 42) (by decide +kernel)) rfl
theorem m8_44 : Cond.instanceMethod yX13_plans ∈ bt := in_t8 (List.mem_of_getElem? (i := 44) (by decide +kernel)) rfl
theorem m8_45 : Cond.code yX13_plans cX13_plans 6 (Option.none : Option Jvm.ClassFile.FieldType) ∈ bt := in_t8 (List.mem_of_getElem? (i := 45) (by decide +kernel)) rfl
theorem m8_46 : Cond.methodLink RX13 258 yX13_lays ∈ bt := in_t8 (List.mem_of_getElem? (i := 46) (by decide +kernel)) rfl
theorem m8_48 : Cond.instanceMethod yX13_lays ∈ bt := in_t8 (List.mem_of_getElem? (i := 48) (by decide +kernel)) rfl
theorem m8_49 : Cond.code yX13_lays cX13_lays 4 (Option.none : Option Jvm.ClassFile.FieldType) ∈ bt := in_t8 (List.mem_of_getElem? (i := 49) (by decide +kernel)) rfl
theorem m8_50 : Cond.methodLink RX13 269 yX13_done ∈ bt := in_t8 (List.mem_of_getElem? (i := 50) (by decide +kernel)) rfl
theorem m8_52 : Cond.instanceMethod yX13_done ∈ bt := in_t8 (List.mem_of_getElem? (i := 52) (by decide +kernel)) rfl
theorem m8_53 : Cond.code yX13_done cX13_done 2 (Option.some Jvm.ClassFile.FieldType.int) ∈ bt := in_t8 (List.mem_of_getElem? (i := 53) (by decide +kernel)) rfl
theorem m8_54 : Cond.methodLink RX13 107 yX13_keeps ∈ bt := in_t8 (List.mem_of_getElem? (i := 54) (by decide +kernel)) rfl
theorem m8_56 : Cond.instanceMethod yX13_keeps ∈ bt := in_t8 (List.mem_of_getElem? (i := 56) (by decide +kernel)) rfl
theorem m8_57 : Cond.code yX13_keeps cX13_keeps 2 (Option.none : Option Jvm.ClassFile.FieldType) ∈ bt := in_t8 (List.mem_of_getElem? (i := 57) (by decide +kernel)) rfl
theorem m8_58 : Cond.methodLink RL 227 yX13_planNext ∈ bt := in_t8 (List.mem_of_getElem? (i := 58) (by decide +kernel)) rfl
theorem m8_59 : Cond.instanceMethod yX13_planNext ∈ bt := in_t8 (List.mem_of_getElem? (i := 59) (by decide +kernel)) rfl
theorem m8_60 : Cond.selects RX13 yX13_planNext yX13_planNext ∈ bt := in_t8 (List.mem_of_getElem? (i := 60) (by decide +kernel)) rfl
theorem m8_61 : Cond.code yX13_planNext cX13_planNext 2 (Option.some Jvm.ClassFile.FieldType.int) ∈ bt := in_t8 (List.mem_of_getElem? (i := 61) (by decide +kernel)) rfl
theorem m8_62 : Cond.methodLink RL 231 yX13_planAll ∈ bt := in_t8 (List.mem_of_getElem? (i := 62) (by decide +kernel)) rfl
theorem m8_63 : Cond.instanceMethod yX13_planAll ∈ bt := in_t8 (List.mem_of_getElem? (i := 63) (by decide +kernel)) rfl
theorem m8_64 : Cond.selects RX13 yX13_planAll yX13_planAll ∈ bt := in_t8 (List.mem_of_getElem? (i := 64) (by decide +kernel)) rfl
theorem m8_65 : Cond.code yX13_planAll cX13_planAll 1 (Option.some Jvm.ClassFile.FieldType.int) ∈ bt := in_t8 (List.mem_of_getElem? (i := 65) (by decide +kernel)) rfl
theorem m8_66 : Cond.methodLink RX13 275 yX13_plansAll ∈ bt := in_t8 (List.mem_of_getElem? (i := 66) (by decide +kernel)) rfl
theorem m8_68 : Cond.instanceMethod yX13_plansAll ∈ bt := in_t8 (List.mem_of_getElem? (i := 68) (by decide +kernel)) rfl
theorem m8_69 : Cond.code yX13_plansAll cX13_plansAll 4 (Option.some Jvm.ClassFile.FieldType.int) ∈ bt := in_t8 (List.mem_of_getElem? (i := 69) (by decide +kernel)) rfl
theorem m8_70 : Cond.methodLink RX13 272 yX13_plansNext ∈ bt := in_t8 (List.mem_of_getElem? (i := 70) (by decide +kernel)) rfl
theorem m8_72 : Cond.instanceMethod yX13_plansNext ∈ bt := in_t8 (List.mem_of_getElem? (i := 72) (by decide +kernel)) rfl
theorem m8_73 : Cond.code yX13_plansNext cX13_plansNext 2 (Option.some Jvm.ClassFile.FieldType.boolean) ∈ bt := in_t8 (List.mem_of_getElem? (i := 73) (by decide +kernel)) rfl
theorem m8_74 : Cond.methodLink RL 234 yX13_adjourn ∈ bt := in_t8 (List.mem_of_getElem? (i := 74) (by decide +kernel)) rfl
theorem m8_75 : Cond.instanceMethod yX13_adjourn ∈ bt := in_t8 (List.mem_of_getElem? (i := 75) (by decide +kernel)) rfl
theorem m8_76 : Cond.selects RX13 yX13_adjourn yX13_adjourn ∈ bt := in_t8 (List.mem_of_getElem? (i := 76) (by decide +kernel)) rfl
theorem m8_77 : Cond.code yX13_adjourn cX13_adjourn 3 (Option.some Jvm.ClassFile.FieldType.int) ∈ bt := in_t8 (List.mem_of_getElem? (i := 77) (by decide +kernel)) rfl
theorem m8_78 : Cond.methodLink RX13 279 yX13_isReason ∈ bt := in_t8 (List.mem_of_getElem? (i := 78) (by decide +kernel)) rfl
theorem m8_79 : Cond.static yX13_isReason ∈ bt := in_t8 (List.mem_of_getElem? (i := 79) (by decide +kernel)) rfl
theorem m8_80 : Cond.code yX13_isReason cX13_isReason 1 (Option.some Jvm.ClassFile.FieldType.boolean) ∈ bt := in_t8 (List.mem_of_getElem? (i := 80) (by decide +kernel)) rfl
theorem m8_81 : Cond.methodLink RX13 282 yX13_takesAway ∈ bt := in_t8 (List.mem_of_getElem? (i := 81) (by decide +kernel)) rfl
theorem m8_83 : Cond.instanceMethod yX13_takesAway ∈ bt := in_t8 (List.mem_of_getElem? (i := 83) (by decide +kernel)) rfl
theorem m8_84 : Cond.code yX13_takesAway cX13_takesAway 6 (Option.none : Option Jvm.ClassFile.FieldType) ∈ bt := in_t8 (List.mem_of_getElem? (i := 84) (by decide +kernel)) rfl
theorem m8_85 : Cond.methodLink RL 237 yX13_withdraw ∈ bt := in_t8 (List.mem_of_getElem? (i := 85) (by decide +kernel)) rfl
theorem m8_86 : Cond.instanceMethod yX13_withdraw ∈ bt := in_t8 (List.mem_of_getElem? (i := 86) (by decide +kernel)) rfl
theorem m8_87 : Cond.selects RX13 yX13_withdraw yX13_withdraw ∈ bt := in_t8 (List.mem_of_getElem? (i := 87) (by decide +kernel)) rfl
theorem m8_88 : Cond.code yX13_withdraw cX13_withdraw 5 (Option.some Jvm.ClassFile.FieldType.int) ∈ bt := in_t8 (List.mem_of_getElem? (i := 88) (by decide +kernel)) rfl
theorem m8_89 : Cond.methodLink RX13 286 yX13_isWitness ∈ bt := in_t8 (List.mem_of_getElem? (i := 89) (by decide +kernel)) rfl
theorem m8_91 : Cond.instanceMethod yX13_isWitness ∈ bt := in_t8 (List.mem_of_getElem? (i := 91) (by decide +kernel)) rfl
theorem m8_92 : Cond.code yX13_isWitness cX13_isWitness 2 (Option.some Jvm.ClassFile.FieldType.boolean) ∈ bt := in_t8 (List.mem_of_getElem? (i := 92) (by decide +kernel)) rfl
theorem m8_93 : Cond.methodLink RL 240 yX13_addHoliday ∈ bt := in_t8 (List.mem_of_getElem? (i := 93) (by decide +kernel)) rfl
theorem m8_94 : Cond.instanceMethod yX13_addHoliday ∈ bt := in_t8 (List.mem_of_getElem? (i := 94) (by decide +kernel)) rfl
theorem m8_95 : Cond.selects RX13 yX13_addHoliday yX13_addHoliday ∈ bt := in_t8 (List.mem_of_getElem? (i := 95) (by decide +kernel)) rfl
theorem m8_96 : Cond.code yX13_addHoliday cX13_addHoliday 4 (Option.some Jvm.ClassFile.FieldType.int) ∈ bt := in_t8 (List.mem_of_getElem? (i := 96) (by decide +kernel)) rfl
theorem m8_97 : Cond.methodLink RL 243 yX13_addBar ∈ bt := in_t8 (List.mem_of_getElem? (i := 97) (by decide +kernel)) rfl
theorem m8_98 : Cond.instanceMethod yX13_addBar ∈ bt := in_t8 (List.mem_of_getElem? (i := 98) (by decide +kernel)) rfl
theorem m8_99 : Cond.selects RX13 yX13_addBar yX13_addBar ∈ bt := in_t8 (List.mem_of_getElem? (i := 99) (by decide +kernel)) rfl
theorem m8_100 : Cond.code yX13_addBar cX13_addBar 4 (Option.some Jvm.ClassFile.FieldType.boolean) ∈ bt := in_t8 (List.mem_of_getElem? (i := 100) (by decide +kernel)) rfl
theorem m8_101 : Cond.methodLink RL 221 yX13_pass ∈ bt := in_t8 (List.mem_of_getElem? (i := 101) (by decide +kernel)) rfl
theorem m8_102 : Cond.instanceMethod yX13_pass ∈ bt := in_t8 (List.mem_of_getElem? (i := 102) (by decide +kernel)) rfl
theorem m8_103 : Cond.selects RX13 yX13_pass yX13_pass ∈ bt := in_t8 (List.mem_of_getElem? (i := 103) (by decide +kernel)) rfl
theorem m8_104 : Cond.code yX13_pass cX13_pass 2 (Option.some Jvm.ClassFile.FieldType.int) ∈ bt := in_t8 (List.mem_of_getElem? (i := 104) (by decide +kernel)) rfl
theorem m8_105 : Cond.methodLink RX13 294 yX13_canPass ∈ bt := in_t8 (List.mem_of_getElem? (i := 105) (by decide +kernel)) rfl
theorem m8_107 : Cond.instanceMethod yX13_canPass ∈ bt := in_t8 (List.mem_of_getElem? (i := 107) (by decide +kernel)) rfl
theorem m8_108 : Cond.code yX13_canPass cX13_canPass 2 (Option.some Jvm.ClassFile.FieldType.boolean) ∈ bt := in_t8 (List.mem_of_getElem? (i := 108) (by decide +kernel)) rfl
theorem m8_109 : Cond.constantLong RX13 289 (99 : Int64) ∈ bt := in_t8 (List.mem_of_getElem? (i := 109) (by decide +kernel)) rfl
theorem m8_110 : Cond.methodLink RX13 297 yX13_passesAll ∈ bt := in_t8 (List.mem_of_getElem? (i := 110) (by decide +kernel)) rfl
theorem m8_112 : Cond.instanceMethod yX13_passesAll ∈ bt := in_t8 (List.mem_of_getElem? (i := 112) (by decide +kernel)) rfl
theorem m8_113 : Cond.code yX13_passesAll cX13_passesAll 4 (Option.some Jvm.ClassFile.FieldType.int) ∈ bt := in_t8 (List.mem_of_getElem? (i := 113) (by decide +kernel)) rfl
theorem m8_114 : Cond.methodLink RX13 291 yX13_passes ∈ bt := in_t8 (List.mem_of_getElem? (i := 114) (by decide +kernel)) rfl
theorem m8_116 : Cond.instanceMethod yX13_passes ∈ bt := in_t8 (List.mem_of_getElem? (i := 116) (by decide +kernel)) rfl
theorem m8_117 : Cond.code yX13_passes cX13_passes 3 (Option.some Jvm.ClassFile.FieldType.int) ∈ bt := in_t8 (List.mem_of_getElem? (i := 117) (by decide +kernel)) rfl
theorem m8_118 : Cond.methodLink RL 250 yX13_lapsesIn ∈ bt := in_t8 (List.mem_of_getElem? (i := 118) (by decide +kernel)) rfl
theorem m8_119 : Cond.instanceMethod yX13_lapsesIn ∈ bt := in_t8 (List.mem_of_getElem? (i := 119) (by decide +kernel)) rfl
theorem m8_120 : Cond.selects RX13 yX13_lapsesIn yX13_lapsesIn ∈ bt := in_t8 (List.mem_of_getElem? (i := 120) (by decide +kernel)) rfl
theorem m8_121 : Cond.code yX13_lapsesIn cX13_lapsesIn 4 (Option.some Jvm.ClassFile.FieldType.int) ∈ bt := in_t8 (List.mem_of_getElem? (i := 121) (by decide +kernel)) rfl
theorem m8_122 : Cond.methodLink RX13 300 yX13_tries ∈ bt := in_t8 (List.mem_of_getElem? (i := 122) (by decide +kernel)) rfl
theorem m8_124 : Cond.instanceMethod yX13_tries ∈ bt := in_t8 (List.mem_of_getElem? (i := 124) (by decide +kernel)) rfl
theorem m8_125 : Cond.code yX13_tries cX13_tries 1 (Option.none : Option Jvm.ClassFile.FieldType) ∈ bt := in_t8 (List.mem_of_getElem? (i := 125) (by decide +kernel)) rfl
theorem m8_126 : Cond.methodLink RX13 303 yX13_laysBack ∈ bt := in_t8 (List.mem_of_getElem? (i := 126) (by decide +kernel)) rfl
theorem m8_128 : Cond.instanceMethod yX13_laysBack ∈ bt := in_t8 (List.mem_of_getElem? (i := 128) (by decide +kernel)) rfl
theorem m8_129 : Cond.code yX13_laysBack cX13_laysBack 2 (Option.some Jvm.ClassFile.FieldType.int) ∈ bt := in_t8 (List.mem_of_getElem? (i := 129) (by decide +kernel)) rfl
theorem m8_130 : Cond.methodLink RL 254 yX13_plannable ∈ bt := in_t8 (List.mem_of_getElem? (i := 130) (by decide +kernel)) rfl
theorem m8_131 : Cond.instanceMethod yX13_plannable ∈ bt := in_t8 (List.mem_of_getElem? (i := 131) (by decide +kernel)) rfl
theorem m8_132 : Cond.selects RX13 yX13_plannable yX13_plannable ∈ bt := in_t8 (List.mem_of_getElem? (i := 132) (by decide +kernel)) rfl
theorem m8_133 : Cond.code yX13_plannable cX13_plannable 1 (Option.some Jvm.ClassFile.FieldType.int) ∈ bt := in_t8 (List.mem_of_getElem? (i := 133) (by decide +kernel)) rfl
theorem m8_134 : Cond.methodLink RX13 306 yX13_plannableNow ∈ bt := in_t8 (List.mem_of_getElem? (i := 134) (by decide +kernel)) rfl
theorem m8_136 : Cond.instanceMethod yX13_plannableNow ∈ bt := in_t8 (List.mem_of_getElem? (i := 136) (by decide +kernel)) rfl
theorem m8_137 : Cond.code yX13_plannableNow cX13_plannableNow 1 (Option.some Jvm.ClassFile.FieldType.int) ∈ bt := in_t8 (List.mem_of_getElem? (i := 137) (by decide +kernel)) rfl
theorem m8_138 : Cond.methodLink RL 258 yX13_keyOfficer ∈ bt := in_t8 (List.mem_of_getElem? (i := 138) (by decide +kernel)) rfl
theorem m8_139 : Cond.instanceMethod yX13_keyOfficer ∈ bt := in_t8 (List.mem_of_getElem? (i := 139) (by decide +kernel)) rfl
theorem m8_140 : Cond.selects RX13 yX13_keyOfficer yX13_keyOfficer ∈ bt := in_t8 (List.mem_of_getElem? (i := 140) (by decide +kernel)) rfl
theorem m8_141 : Cond.code yX13_keyOfficer cX13_keyOfficer 5 (Option.some Jvm.ClassFile.FieldType.int) ∈ bt := in_t8 (List.mem_of_getElem? (i := 141) (by decide +kernel)) rfl
theorem m8_142 : Cond.methodLink RL 164 yX13_witness ∈ bt := in_t8 (List.mem_of_getElem? (i := 142) (by decide +kernel)) rfl
theorem m8_143 : Cond.instanceMethod yX13_witness ∈ bt := in_t8 (List.mem_of_getElem? (i := 143) (by decide +kernel)) rfl
theorem m8_144 : Cond.selects RX13 yX13_witness yX13_witness ∈ bt := in_t8 (List.mem_of_getElem? (i := 144) (by decide +kernel)) rfl
theorem m8_145 : Cond.code yX13_witness cX13_witness 3 (Option.some Jvm.ClassFile.FieldType.int) ∈ bt := in_t8 (List.mem_of_getElem? (i := 145) (by decide +kernel)) rfl
theorem m8_146 : Cond.constantLong RX13 309 (4 : Int64) ∈ bt := in_t8 (List.mem_of_getElem? (i := 146) (by decide +kernel)) rfl
theorem m8_147 : Cond.methodLink RX13 311 yX13_needing ∈ bt := in_t8 (List.mem_of_getElem? (i := 147) (by decide +kernel)) rfl
theorem m8_149 : Cond.instanceMethod yX13_needing ∈ bt := in_t8 (List.mem_of_getElem? (i := 149) (by decide +kernel)) rfl
theorem m8_150 : Cond.code yX13_needing cX13_needing 4 (Option.some Jvm.ClassFile.FieldType.int) ∈ bt := in_t8 (List.mem_of_getElem? (i := 150) (by decide +kernel)) rfl
theorem m8_151 : Cond.methodLink RL 167 yX13_isOff ∈ bt := in_t8 (List.mem_of_getElem? (i := 151) (by decide +kernel)) rfl
theorem m8_152 : Cond.instanceMethod yX13_isOff ∈ bt := in_t8 (List.mem_of_getElem? (i := 152) (by decide +kernel)) rfl
theorem m8_153 : Cond.selects RX13 yX13_isOff yX13_isOff ∈ bt := in_t8 (List.mem_of_getElem? (i := 153) (by decide +kernel)) rfl
theorem m8_154 : Cond.code yX13_isOff cX13_isOff 3 (Option.some Jvm.ClassFile.FieldType.boolean) ∈ bt := in_t8 (List.mem_of_getElem? (i := 154) (by decide +kernel)) rfl
theorem m8_155 : Cond.methodLink RL 170 yX13_isBarred ∈ bt := in_t8 (List.mem_of_getElem? (i := 155) (by decide +kernel)) rfl
theorem m8_156 : Cond.instanceMethod yX13_isBarred ∈ bt := in_t8 (List.mem_of_getElem? (i := 156) (by decide +kernel)) rfl
theorem m8_157 : Cond.selects RX13 yX13_isBarred yX13_isBarred ∈ bt := in_t8 (List.mem_of_getElem? (i := 157) (by decide +kernel)) rfl
theorem m8_158 : Cond.code yX13_isBarred cX13_isBarred 3 (Option.some Jvm.ClassFile.FieldType.boolean) ∈ bt := in_t8 (List.mem_of_getElem? (i := 158) (by decide +kernel)) rfl
theorem m8_159 : Cond.methodLink RL 173 yX13_load ∈ bt := in_t8 (List.mem_of_getElem? (i := 159) (by decide +kernel)) rfl
theorem m8_160 : Cond.instanceMethod yX13_load ∈ bt := in_t8 (List.mem_of_getElem? (i := 160) (by decide +kernel)) rfl
theorem m8_161 : Cond.selects RX13 yX13_load yX13_load ∈ bt := in_t8 (List.mem_of_getElem? (i := 161) (by decide +kernel)) rfl
theorem m8_162 : Cond.code yX13_load cX13_load 2 (Option.some Jvm.ClassFile.FieldType.int) ∈ bt := in_t8 (List.mem_of_getElem? (i := 162) (by decide +kernel)) rfl
theorem m8_163 : Cond.methodLink RL 205 yX13_eligible ∈ bt := in_t8 (List.mem_of_getElem? (i := 163) (by decide +kernel)) rfl
theorem m8_164 : Cond.instanceMethod yX13_eligible ∈ bt := in_t8 (List.mem_of_getElem? (i := 164) (by decide +kernel)) rfl
theorem m8_165 : Cond.selects RX13 yX13_eligible yX13_eligible ∈ bt := in_t8 (List.mem_of_getElem? (i := 165) (by decide +kernel)) rfl
theorem m8_166 : Cond.code yX13_eligible cX13_eligible 4 (Option.some Jvm.ClassFile.FieldType.int) ∈ bt := in_t8 (List.mem_of_getElem? (i := 166) (by decide +kernel)) rfl
theorem m8_167 : Cond.methodLink RL 186 yX13_caseAt ∈ bt := in_t8 (List.mem_of_getElem? (i := 167) (by decide +kernel)) rfl
theorem m8_168 : Cond.instanceMethod yX13_caseAt ∈ bt := in_t8 (List.mem_of_getElem? (i := 168) (by decide +kernel)) rfl
theorem m8_169 : Cond.selects RX13 yX13_caseAt yX13_caseAt ∈ bt := in_t8 (List.mem_of_getElem? (i := 169) (by decide +kernel)) rfl
theorem m8_170 : Cond.code yX13_caseAt cX13_caseAt 5 (Option.some Jvm.ClassFile.FieldType.int) ∈ bt := in_t8 (List.mem_of_getElem? (i := 170) (by decide +kernel)) rfl
theorem m8_171 : Cond.methodLink RL 218 yX13_usage ∈ bt := in_t8 (List.mem_of_getElem? (i := 171) (by decide +kernel)) rfl
theorem m8_172 : Cond.instanceMethod yX13_usage ∈ bt := in_t8 (List.mem_of_getElem? (i := 172) (by decide +kernel)) rfl
theorem m8_173 : Cond.selects RX13 yX13_usage yX13_usage ∈ bt := in_t8 (List.mem_of_getElem? (i := 173) (by decide +kernel)) rfl
theorem m8_174 : Cond.code yX13_usage cX13_usage 7 (Option.some Jvm.ClassFile.FieldType.float) ∈ bt := in_t8 (List.mem_of_getElem? (i := 174) (by decide +kernel)) rfl
theorem m8_175 : Cond.methodLink RL 142 yX13_count ∈ bt := in_t8 (List.mem_of_getElem? (i := 175) (by decide +kernel)) rfl
theorem m8_176 : Cond.instanceMethod yX13_count ∈ bt := in_t8 (List.mem_of_getElem? (i := 176) (by decide +kernel)) rfl
theorem m8_177 : Cond.selects RX13 yX13_count yX13_count ∈ bt := in_t8 (List.mem_of_getElem? (i := 177) (by decide +kernel)) rfl
theorem m8_178 : Cond.code yX13_count cX13_count 2 (Option.some Jvm.ClassFile.FieldType.int) ∈ bt := in_t8 (List.mem_of_getElem? (i := 178) (by decide +kernel)) rfl
theorem m8_179 : Cond.methodLink RX13 314 yX13_allBars ∈ bt := in_t8 (List.mem_of_getElem? (i := 179) (by decide +kernel)) rfl
theorem m8_181 : Cond.instanceMethod yX13_allBars ∈ bt := in_t8 (List.mem_of_getElem? (i := 181) (by decide +kernel)) rfl
theorem m8_182 : Cond.code yX13_allBars cX13_allBars 3 (Option.some Jvm.ClassFile.FieldType.int) ∈ bt := in_t8 (List.mem_of_getElem? (i := 182) (by decide +kernel)) rfl
theorem m8_183 : Cond.methodLink RX13 317 yX13_allConflicts ∈ bt := in_t8 (List.mem_of_getElem? (i := 183) (by decide +kernel)) rfl
theorem m8_185 : Cond.instanceMethod yX13_allConflicts ∈ bt := in_t8 (List.mem_of_getElem? (i := 185) (by decide +kernel)) rfl
theorem m8_186 : Cond.code yX13_allConflicts cX13_allConflicts 3 (Option.some Jvm.ClassFile.FieldType.int) ∈ bt := in_t8 (List.mem_of_getElem? (i := 186) (by decide +kernel)) rfl
theorem m8_187 : Cond.constantLong RX13 320 (10 : Int64) ∈ bt := in_t8 (List.mem_of_getElem? (i := 187) (by decide +kernel)) rfl
theorem m8_188 : Cond.constantLong RX13 322 (13 : Int64) ∈ bt := in_t8 (List.mem_of_getElem? (i := 188) (by decide +kernel)) rfl
theorem m8_189 : Cond.methodLink RL 161 yX13_lengthening ∈ bt := in_t8 (List.mem_of_getElem? (i := 189) (by decide +kernel)) rfl
theorem m8_190 : Cond.instanceMethod yX13_lengthening ∈ bt := in_t8 (List.mem_of_getElem? (i := 190) (by decide +kernel)) rfl
theorem m8_191 : Cond.selects RX13 yX13_lengthening yX13_lengthening ∈ bt := in_t8 (List.mem_of_getElem? (i := 191) (by decide +kernel)) rfl
theorem m8_192 : Cond.code yX13_lengthening cX13_lengthening 2 (Option.some Jvm.ClassFile.FieldType.int) ∈ bt := in_t8 (List.mem_of_getElem? (i := 192) (by decide +kernel)) rfl
theorem m8_193 : Cond.methodLink RL 209 yX13_fewestOfficers ∈ bt := in_t8 (List.mem_of_getElem? (i := 193) (by decide +kernel)) rfl
theorem m8_194 : Cond.instanceMethod yX13_fewestOfficers ∈ bt := in_t8 (List.mem_of_getElem? (i := 194) (by decide +kernel)) rfl
theorem m8_195 : Cond.selects RX13 yX13_fewestOfficers yX13_fewestOfficers ∈ bt := in_t8 (List.mem_of_getElem? (i := 195) (by decide +kernel)) rfl
theorem m8_196 : Cond.code yX13_fewestOfficers cX13_fewestOfficers 3 (Option.some Jvm.ClassFile.FieldType.int) ∈ bt := in_t8 (List.mem_of_getElem? (i := 196) (by decide +kernel)) rfl
theorem m8_197 : Cond.methodLink RX13 324 yX13_laysPeaceful ∈ bt := in_t8 (List.mem_of_getElem? (i := 197) (by decide +kernel)) rfl
theorem m8_199 : Cond.instanceMethod yX13_laysPeaceful ∈ bt := in_t8 (List.mem_of_getElem? (i := 199) (by decide +kernel)) rfl
theorem m8_200 : Cond.code yX13_laysPeaceful cX13_laysPeaceful 5 (Option.none : Option Jvm.ClassFile.FieldType) ∈ bt := in_t8 (List.mem_of_getElem? (i := 200) (by decide +kernel)) rfl
theorem m8_201 : Cond.methodLink RX13 328 yX13_takesPart ∈ bt := in_t8 (List.mem_of_getElem? (i := 201) (by decide +kernel)) rfl
theorem m8_203 : Cond.instanceMethod yX13_takesPart ∈ bt := in_t8 (List.mem_of_getElem? (i := 203) (by decide +kernel)) rfl
theorem m8_204 : Cond.code yX13_takesPart cX13_takesPart 8 (Option.none : Option Jvm.ClassFile.FieldType) ∈ bt := in_t8 (List.mem_of_getElem? (i := 204) (by decide +kernel)) rfl
theorem m8_205 : Cond.methodLink RL 122 yX13_feed ∈ bt := in_t8 (List.mem_of_getElem? (i := 205) (by decide +kernel)) rfl
theorem m8_206 : Cond.instanceMethod yX13_feed ∈ bt := in_t8 (List.mem_of_getElem? (i := 206) (by decide +kernel)) rfl
theorem m8_207 : Cond.selects RX13 yX13_feed yX13_feed ∈ bt := in_t8 (List.mem_of_getElem? (i := 207) (by decide +kernel)) rfl
theorem m8_208 : Cond.code yX13_feed cX13_feed 8 (Option.some Jvm.ClassFile.FieldType.int) ∈ bt := in_t8 (List.mem_of_getElem? (i := 208) (by decide +kernel)) rfl
theorem m8_209 : Cond.methodLink RL 126 yX13_truncate ∈ bt := in_t8 (List.mem_of_getElem? (i := 209) (by decide +kernel)) rfl
theorem m8_210 : Cond.instanceMethod yX13_truncate ∈ bt := in_t8 (List.mem_of_getElem? (i := 210) (by decide +kernel)) rfl
theorem m8_211 : Cond.selects RX13 yX13_truncate yX13_truncate ∈ bt := in_t8 (List.mem_of_getElem? (i := 211) (by decide +kernel)) rfl
theorem m8_212 : Cond.code yX13_truncate cX13_truncate 2 (Option.some Jvm.ClassFile.FieldType.boolean) ∈ bt := in_t8 (List.mem_of_getElem? (i := 212) (by decide +kernel)) rfl
theorem m8_213 : Cond.methodLink RL 130 yX13_parse ∈ bt := in_t8 (List.mem_of_getElem? (i := 213) (by decide +kernel)) rfl
theorem m8_214 : Cond.instanceMethod yX13_parse ∈ bt := in_t8 (List.mem_of_getElem? (i := 214) (by decide +kernel)) rfl
theorem m8_215 : Cond.selects RX13 yX13_parse yX13_parse ∈ bt := in_t8 (List.mem_of_getElem? (i := 215) (by decide +kernel)) rfl
theorem m8_216 : Cond.code yX13_parse cX13_parse 1 (Option.some Jvm.ClassFile.FieldType.int) ∈ bt := in_t8 (List.mem_of_getElem? (i := 216) (by decide +kernel)) rfl
theorem m8_217 : Cond.methodLink RX13 471 yX13_startsReading ∈ bt := in_t8 (List.mem_of_getElem? (i := 217) (by decide +kernel)) rfl
theorem m8_219 : Cond.instanceMethod yX13_startsReading ∈ bt := in_t8 (List.mem_of_getElem? (i := 219) (by decide +kernel)) rfl
theorem m8_220 : Cond.code yX13_startsReading cX13_startsReading 1 (Option.none : Option Jvm.ClassFile.FieldType) ∈ bt := in_t8 (List.mem_of_getElem? (i := 220) (by decide +kernel)) rfl
theorem m8_221 : Cond.methodLink RX13 383 yX13_next ∈ bt := in_t8 (List.mem_of_getElem? (i := 221) (by decide +kernel)) rfl
theorem m8_223 : Cond.instanceMethod yX13_next ∈ bt := in_t8 (List.mem_of_getElem? (i := 223) (by decide +kernel)) rfl
theorem m8_224 : Cond.code yX13_next cX13_next 2 (Option.none : Option Jvm.ClassFile.FieldType) ∈ bt := in_t8 (List.mem_of_getElem? (i := 224) (by decide +kernel)) rfl
theorem m8_225 : Cond.methodLink RX13 340 yX13_here ∈ bt := in_t8 (List.mem_of_getElem? (i := 225) (by decide +kernel)) rfl
theorem m8_227 : Cond.instanceMethod yX13_here ∈ bt := in_t8 (List.mem_of_getElem? (i := 227) (by decide +kernel)) rfl
theorem m8_228 : Cond.code yX13_here cX13_here 2 (Option.some Jvm.ClassFile.FieldType.int) ∈ bt := in_t8 (List.mem_of_getElem? (i := 228) (by decide +kernel)) rfl
theorem m8_229 : Cond.constantLong RX13 349 (97 : Int64) ∈ bt := in_t8 (List.mem_of_getElem? (i := 229) (by decide +kernel)) rfl
theorem m8_230 : Cond.constantLong RX13 351 (122 : Int64) ∈ bt := in_t8 (List.mem_of_getElem? (i := 230) (by decide +kernel)) rfl
theorem m8_231 : Cond.methodLink RX13 353 yX13_wordHere ∈ bt := in_t8 (List.mem_of_getElem? (i := 231) (by decide +kernel)) rfl
theorem m8_233 : Cond.instanceMethod yX13_wordHere ∈ bt := in_t8 (List.mem_of_getElem? (i := 233) (by decide +kernel)) rfl
theorem m8_234 : Cond.code yX13_wordHere cX13_wordHere 4 (Option.some Jvm.ClassFile.FieldType.int) ∈ bt := in_t8 (List.mem_of_getElem? (i := 234) (by decide +kernel)) rfl
theorem m8_235 : Cond.stringRef RX13 366 "holiday room slots officer off witness days case filed limit custody needs bar conflict lengthen cap " ∈ lw_tbl := in_l8 (List.mem_of_getElem? (i := 235) (by decide +kernel))
theorem m8_236 : Cond.methodLink RX13 368 yJ0_length_8abf5 ∈ bt := in_t8 (List.mem_of_getElem? (i := 236) (by decide +kernel)) rfl
theorem m8_237 : Cond.instanceMethod yJ0_length_8abf5 ∈ bt := in_t8 (List.mem_of_getElem? (i := 237) (by decide +kernel)) rfl
theorem m8_238 : Cond.selects RJ0 yJ0_length_8abf5 yJ0_length_8abf5 ∈ bt := in_t8 (List.mem_of_getElem? (i := 238) (by decide +kernel)) rfl
theorem m8_239 : Cond.code yJ0_length_8abf5 cJ0_length_8abf5 1 (Option.some Jvm.ClassFile.FieldType.int) ∈ bt := in_t8 (List.mem_of_getElem? (i := 239) (by decide +kernel)) rfl
theorem m9_0 : Cond.methodLink RJ0 335 yJ0_coder_7d493 ∈ bt := in_t9 (List.mem_of_getElem? (i := 0) (by decide +kernel)) rfl
theorem m9_1 : Cond.instanceMethod yJ0_coder_7d493 ∈ bt := in_t9 (List.mem_of_getElem? (i := 1) (by decide +kernel)) rfl
theorem m9_2 : Cond.selects RJ0 yJ0_coder_7d493 yJ0_coder_7d493 ∈ bt := in_t9 (List.mem_of_getElem? (i := 2) (by decide +kernel)) rfl
theorem m9_3 : Cond.code yJ0_coder_7d493 cJ0_coder_7d493 1 (Option.some Jvm.ClassFile.FieldType.byte) ∈ bt := in_t9 (List.mem_of_getElem? (i := 3) (by decide +kernel)) rfl
theorem m9_4 : Cond.fieldLink RJ0 38 RJ0 "COMPACT_STRINGS" "Z" ∈ bt := in_t9 (List.mem_of_getElem? (i := 4) (by decide +kernel)) rfl
theorem m9_5 : Cond.laysStatic RJ0 "COMPACT_STRINGS" "Z" ∈ lw_tbl := in_l9 (List.mem_of_getElem? (i := 5) (by decide +kernel))
theorem m9_6 : Cond.methodLink RX13 372 yJ0_charAt_5068e ∈ bt := in_t9 (List.mem_of_getElem? (i := 6) (by decide +kernel)) rfl
theorem m9_7 : Cond.instanceMethod yJ0_charAt_5068e ∈ bt := in_t9 (List.mem_of_getElem? (i := 7) (by decide +kernel)) rfl
theorem m9_8 : Cond.selects RJ0 yJ0_charAt_5068e yJ0_charAt_5068e ∈ bt := in_t9 (List.mem_of_getElem? (i := 8) (by decide +kernel)) rfl
theorem m9_9 : Cond.code yJ0_charAt_5068e cJ0_charAt_5068e 2 (Option.some Jvm.ClassFile.FieldType.char) ∈ bt := in_t9 (List.mem_of_getElem? (i := 9) (by decide +kernel)) rfl
theorem m9_10 : Cond.methodLink RJ0 492 yJ0_isLatin1_aae02 ∈ bt := in_t9 (List.mem_of_getElem? (i := 10) (by decide +kernel)) rfl
theorem m9_11 : Cond.instanceMethod yJ0_isLatin1_aae02 ∈ bt := in_t9 (List.mem_of_getElem? (i := 11) (by decide +kernel)) rfl
theorem m9_12 : Cond.selects RJ0 yJ0_isLatin1_aae02 yJ0_isLatin1_aae02 ∈ bt := in_t9 (List.mem_of_getElem? (i := 12) (by decide +kernel)) rfl
theorem m9_13 : Cond.code yJ0_isLatin1_aae02 cJ0_isLatin1_aae02 1 (Option.some Jvm.ClassFile.FieldType.boolean) ∈ bt := in_t9 (List.mem_of_getElem? (i := 13) (by decide +kernel)) rfl
theorem m9_14 : Cond.methodLink RJ0 495 yJ1_charAt_3b067 ∈ bt := in_t9 (List.mem_of_getElem? (i := 14) (by decide +kernel)) rfl
theorem m9_15 : Cond.static yJ1_charAt_3b067 ∈ bt := in_t9 (List.mem_of_getElem? (i := 15) (by decide +kernel)) rfl
theorem m9_16 : Cond.code yJ1_charAt_3b067 cJ1_charAt_3b067 2 (Option.some Jvm.ClassFile.FieldType.char) ∈ bt := in_t9 (List.mem_of_getElem? (i := 16) (by decide +kernel)) rfl
theorem m9_17 : Cond.methodLink RJ1 9 yJ0_checkIndex_df160 ∈ bt := in_t9 (List.mem_of_getElem? (i := 17) (by decide +kernel)) rfl
theorem m9_18 : Cond.static yJ0_checkIndex_df160 ∈ bt := in_t9 (List.mem_of_getElem? (i := 18) (by decide +kernel)) rfl
theorem m9_19 : Cond.code yJ0_checkIndex_df160 cJ0_checkIndex_df160 2 (Option.none : Option Jvm.ClassFile.FieldType) ∈ bt := in_t9 (List.mem_of_getElem? (i := 19) (by decide +kernel)) rfl
theorem m9_20 : Cond.fieldLink RJ0 1053 RJ3 "SIOOBE_FORMATTER" "Ljava/util/function/BiFunction;" ∈ bt := in_t9 (List.mem_of_getElem? (i := 20) (by decide +kernel)) rfl
theorem m9_21 : Cond.laysStatic RJ3 "SIOOBE_FORMATTER" "Ljava/util/function/BiFunction;" ∈ lw_tbl := in_l9 (List.mem_of_getElem? (i := 21) (by decide +kernel))
theorem m9_22 : Cond.methodLink RJ0 1059 yJ3_checkIndex_8e157 ∈ bt := in_t9 (List.mem_of_getElem? (i := 22) (by decide +kernel)) rfl
theorem m9_23 : Cond.static yJ3_checkIndex_8e157 ∈ bt := in_t9 (List.mem_of_getElem? (i := 23) (by decide +kernel)) rfl
theorem m9_24 : Cond.code yJ3_checkIndex_8e157 cJ3_checkIndex_8e157 3 (Option.some Jvm.ClassFile.FieldType.int) ∈ bt := in_t9 (List.mem_of_getElem? (i := 24) (by decide +kernel)) rfl
theorem m9_25 : Cond.methodLink RJ0 498 yJ2_charAt_3b067 ∈ bt := in_t9 (List.mem_of_getElem? (i := 25) (by decide +kernel)) rfl
theorem m9_26 : Cond.static yJ2_charAt_3b067 ∈ bt := in_t9 (List.mem_of_getElem? (i := 26) (by decide +kernel)) rfl
theorem m9_27 : Cond.code yJ2_charAt_3b067 cJ2_charAt_3b067 2 (Option.some Jvm.ClassFile.FieldType.char) ∈ bt := in_t9 (List.mem_of_getElem? (i := 27) (by decide +kernel)) rfl
theorem m9_28 : Cond.methodLink RJ2 67 yJ2_checkIndex_2214a ∈ bt := in_t9 (List.mem_of_getElem? (i := 28) (by decide +kernel)) rfl
theorem m9_29 : Cond.static yJ2_checkIndex_2214a ∈ bt := in_t9 (List.mem_of_getElem? (i := 29) (by decide +kernel)) rfl
theorem m9_30 : Cond.code yJ2_checkIndex_2214a cJ2_checkIndex_2214a 2 (Option.none : Option Jvm.ClassFile.FieldType) ∈ bt := in_t9 (List.mem_of_getElem? (i := 30) (by decide +kernel)) rfl
theorem m9_31 : Cond.methodLink RJ2 48 yJ2_length_9d52b ∈ bt := in_t9 (List.mem_of_getElem? (i := 31) (by decide +kernel)) rfl
theorem m9_32 : Cond.static yJ2_length_9d52b ∈ bt := in_t9 (List.mem_of_getElem? (i := 32) (by decide +kernel)) rfl
theorem m9_33 : Cond.code yJ2_length_9d52b cJ2_length_9d52b 1 (Option.some Jvm.ClassFile.FieldType.int) ∈ bt := in_t9 (List.mem_of_getElem? (i := 33) (by decide +kernel)) rfl
theorem m9_34 : Cond.methodLink RJ2 414 yJ0_checkIndex_df160 ∈ bt := in_t9 (List.mem_of_getElem? (i := 34) (by decide +kernel)) rfl
theorem m9_35 : Cond.methodLink RJ2 71 yJ2_getChar_3b067 ∈ bt := in_t9 (List.mem_of_getElem? (i := 35) (by decide +kernel)) rfl
theorem m9_36 : Cond.static yJ2_getChar_3b067 ∈ bt := in_t9 (List.mem_of_getElem? (i := 36) (by decide +kernel)) rfl
theorem m9_37 : Cond.code yJ2_getChar_3b067 cJ2_getChar_3b067 2 (Option.some Jvm.ClassFile.FieldType.char) ∈ bt := in_t9 (List.mem_of_getElem? (i := 37) (by decide +kernel)) rfl
theorem m9_38 : Cond.fieldLink RJ2 44 RJ2 "$assertionsDisabled" "Z" ∈ bt := in_t9 (List.mem_of_getElem? (i := 38) (by decide +kernel)) rfl
theorem m9_39 : Cond.laysStatic RJ2 "$assertionsDisabled" "Z" ∈ lw_tbl := in_l9 (List.mem_of_getElem? (i := 39) (by decide +kernel))
theorem m9_40 : Cond.fieldLink RJ2 59 RJ2 "HI_BYTE_SHIFT" "I" ∈ bt := in_t9 (List.mem_of_getElem? (i := 40) (by decide +kernel)) rfl
theorem m9_41 : Cond.laysStatic RJ2 "HI_BYTE_SHIFT" "I" ∈ lw_tbl := in_l9 (List.mem_of_getElem? (i := 41) (by decide +kernel))
theorem m9_42 : Cond.fieldLink RJ2 63 RJ2 "LO_BYTE_SHIFT" "I" ∈ bt := in_t9 (List.mem_of_getElem? (i := 42) (by decide +kernel)) rfl
theorem m9_43 : Cond.laysStatic RJ2 "LO_BYTE_SHIFT" "I" ∈ lw_tbl := in_l9 (List.mem_of_getElem? (i := 43) (by decide +kernel))
theorem m9_44 : Cond.constantLong RX13 359 (48 : Int64) ∈ bt := in_t9 (List.mem_of_getElem? (i := 44) (by decide +kernel)) rfl
theorem m9_45 : Cond.constantLong RX13 361 (57 : Int64) ∈ bt := in_t9 (List.mem_of_getElem? (i := 45) (by decide +kernel)) rfl
theorem m9_46 : Cond.methodLink RX13 379 yX13_fine ∈ bt := in_t9 (List.mem_of_getElem? (i := 46) (by decide +kernel)) rfl
theorem m9_48 : Cond.instanceMethod yX13_fine ∈ bt := in_t9 (List.mem_of_getElem? (i := 48) (by decide +kernel)) rfl
theorem m9_49 : Cond.code yX13_fine cX13_fine 1 (Option.some Jvm.ClassFile.FieldType.boolean) ∈ bt := in_t9 (List.mem_of_getElem? (i := 49) (by decide +kernel)) rfl
theorem m9_50 : Cond.methodLink RX13 474 yX13_statement ∈ bt := in_t9 (List.mem_of_getElem? (i := 50) (by decide +kernel)) rfl
theorem m9_52 : Cond.instanceMethod yX13_statement ∈ bt := in_t9 (List.mem_of_getElem? (i := 52) (by decide +kernel)) rfl
theorem m9_53 : Cond.code yX13_statement cX13_statement 1 (Option.none : Option Jvm.ClassFile.FieldType) ∈ bt := in_t9 (List.mem_of_getElem? (i := 53) (by decide +kernel)) rfl
theorem m9_54 : Cond.methodLink RX13 386 yX13_isWord ∈ bt := in_t9 (List.mem_of_getElem? (i := 54) (by decide +kernel)) rfl
theorem m9_56 : Cond.instanceMethod yX13_isWord ∈ bt := in_t9 (List.mem_of_getElem? (i := 56) (by decide +kernel)) rfl
theorem m9_57 : Cond.code yX13_isWord cX13_isWord 2 (Option.some Jvm.ClassFile.FieldType.boolean) ∈ bt := in_t9 (List.mem_of_getElem? (i := 57) (by decide +kernel)) rfl
theorem m9_58 : Cond.methodLink RX13 444 yX13_readsHoliday ∈ bt := in_t9 (List.mem_of_getElem? (i := 58) (by decide +kernel)) rfl
theorem m9_60 : Cond.instanceMethod yX13_readsHoliday ∈ bt := in_t9 (List.mem_of_getElem? (i := 60) (by decide +kernel)) rfl
theorem m9_61 : Cond.code yX13_readsHoliday cX13_readsHoliday 4 (Option.none : Option Jvm.ClassFile.FieldType) ∈ bt := in_t9 (List.mem_of_getElem? (i := 61) (by decide +kernel)) rfl
theorem m9_62 : Cond.methodLink RX13 423 yX13_begins ∈ bt := in_t9 (List.mem_of_getElem? (i := 62) (by decide +kernel)) rfl
theorem m9_64 : Cond.instanceMethod yX13_begins ∈ bt := in_t9 (List.mem_of_getElem? (i := 64) (by decide +kernel)) rfl
theorem m9_65 : Cond.code yX13_begins cX13_begins 3 (Option.some Jvm.ClassFile.FieldType.boolean) ∈ bt := in_t9 (List.mem_of_getElem? (i := 65) (by decide +kernel)) rfl
theorem m9_66 : Cond.methodLink RX13 392 yX13_needs ∈ bt := in_t9 (List.mem_of_getElem? (i := 66) (by decide +kernel)) rfl
theorem m9_68 : Cond.instanceMethod yX13_needs ∈ bt := in_t9 (List.mem_of_getElem? (i := 68) (by decide +kernel)) rfl
theorem m9_69 : Cond.code yX13_needs cX13_needs 3 (Option.none : Option Jvm.ClassFile.FieldType) ∈ bt := in_t9 (List.mem_of_getElem? (i := 69) (by decide +kernel)) rfl
theorem m9_70 : Cond.methodLink RX13 399 yX13_goOn ∈ bt := in_t9 (List.mem_of_getElem? (i := 70) (by decide +kernel)) rfl
theorem m9_72 : Cond.instanceMethod yX13_goOn ∈ bt := in_t9 (List.mem_of_getElem? (i := 72) (by decide +kernel)) rfl
theorem m9_73 : Cond.code yX13_goOn cX13_goOn 1 (Option.none : Option Jvm.ClassFile.FieldType) ∈ bt := in_t9 (List.mem_of_getElem? (i := 73) (by decide +kernel)) rfl
theorem m9_74 : Cond.methodLink RX13 396 yX13_look ∈ bt := in_t9 (List.mem_of_getElem? (i := 74) (by decide +kernel)) rfl
theorem m9_76 : Cond.instanceMethod yX13_look ∈ bt := in_t9 (List.mem_of_getElem? (i := 76) (by decide +kernel)) rfl
theorem m9_77 : Cond.code yX13_look cX13_look 3 (Option.some Jvm.ClassFile.FieldType.int) ∈ bt := in_t9 (List.mem_of_getElem? (i := 77) (by decide +kernel)) rfl
theorem m9_78 : Cond.methodLink RX13 447 yX13_readsRoom ∈ bt := in_t9 (List.mem_of_getElem? (i := 78) (by decide +kernel)) rfl
theorem m9_80 : Cond.instanceMethod yX13_readsRoom ∈ bt := in_t9 (List.mem_of_getElem? (i := 80) (by decide +kernel)) rfl
theorem m9_81 : Cond.code yX13_readsRoom cX13_readsRoom 3 (Option.none : Option Jvm.ClassFile.FieldType) ∈ bt := in_t9 (List.mem_of_getElem? (i := 81) (by decide +kernel)) rfl
theorem m9_82 : Cond.methodLink RX13 426 yX13_newName ∈ bt := in_t9 (List.mem_of_getElem? (i := 82) (by decide +kernel)) rfl
theorem m9_84 : Cond.instanceMethod yX13_newName ∈ bt := in_t9 (List.mem_of_getElem? (i := 84) (by decide +kernel)) rfl
theorem m9_85 : Cond.code yX13_newName cX13_newName 3 (Option.none : Option Jvm.ClassFile.FieldType) ∈ bt := in_t9 (List.mem_of_getElem? (i := 85) (by decide +kernel)) rfl
theorem m9_86 : Cond.methodLink RX13 412 yX13_needsName ∈ bt := in_t9 (List.mem_of_getElem? (i := 86) (by decide +kernel)) rfl
theorem m9_88 : Cond.instanceMethod yX13_needsName ∈ bt := in_t9 (List.mem_of_getElem? (i := 88) (by decide +kernel)) rfl
theorem m9_89 : Cond.code yX13_needsName cX13_needsName 1 (Option.none : Option Jvm.ClassFile.FieldType) ∈ bt := in_t9 (List.mem_of_getElem? (i := 89) (by decide +kernel)) rfl
theorem m9_90 : Cond.methodLink RX13 415 yX13_nameHere ∈ bt := in_t9 (List.mem_of_getElem? (i := 90) (by decide +kernel)) rfl
theorem m9_92 : Cond.instanceMethod yX13_nameHere ∈ bt := in_t9 (List.mem_of_getElem? (i := 92) (by decide +kernel)) rfl
theorem m9_93 : Cond.code yX13_nameHere cX13_nameHere 4 (Option.some Jvm.ClassFile.FieldType.long) ∈ bt := in_t9 (List.mem_of_getElem? (i := 93) (by decide +kernel)) rfl
theorem m9_94 : Cond.constantLong RX13 408 (27 : Int64) ∈ bt := in_t9 (List.mem_of_getElem? (i := 94) (by decide +kernel)) rfl
theorem m9_95 : Cond.constantLong RX13 410 (96 : Int64) ∈ bt := in_t9 (List.mem_of_getElem? (i := 95) (by decide +kernel)) rfl
theorem m9_96 : Cond.methodLink RX13 419 yX13_placeOf ∈ bt := in_t9 (List.mem_of_getElem? (i := 96) (by decide +kernel)) rfl
theorem m9_97 : Cond.static yX13_placeOf ∈ bt := in_t9 (List.mem_of_getElem? (i := 97) (by decide +kernel)) rfl
theorem m9_98 : Cond.code yX13_placeOf cX13_placeOf 5 (Option.some Jvm.ClassFile.FieldType.int) ∈ bt := in_t9 (List.mem_of_getElem? (i := 98) (by decide +kernel)) rfl
theorem m9_99 : Cond.methodLink RX13 430 yX13_numberBehind ∈ bt := in_t9 (List.mem_of_getElem? (i := 99) (by decide +kernel)) rfl
theorem m9_101 : Cond.instanceMethod yX13_numberBehind ∈ bt := in_t9 (List.mem_of_getElem? (i := 101) (by decide +kernel)) rfl
theorem m9_102 : Cond.code yX13_numberBehind cX13_numberBehind 4 (Option.some Jvm.ClassFile.FieldType.int) ∈ bt := in_t9 (List.mem_of_getElem? (i := 102) (by decide +kernel)) rfl
theorem m9_103 : Cond.methodLink RX13 402 yX13_passesWord ∈ bt := in_t9 (List.mem_of_getElem? (i := 103) (by decide +kernel)) rfl
theorem m9_105 : Cond.instanceMethod yX13_passesWord ∈ bt := in_t9 (List.mem_of_getElem? (i := 105) (by decide +kernel)) rfl
theorem m9_106 : Cond.code yX13_passesWord cX13_passesWord 2 (Option.none : Option Jvm.ClassFile.FieldType) ∈ bt := in_t9 (List.mem_of_getElem? (i := 106) (by decide +kernel)) rfl
theorem m9_107 : Cond.methodLink RX13 389 yX13_takes ∈ bt := in_t9 (List.mem_of_getElem? (i := 107) (by decide +kernel)) rfl
theorem m9_109 : Cond.instanceMethod yX13_takes ∈ bt := in_t9 (List.mem_of_getElem? (i := 109) (by decide +kernel)) rfl
theorem m9_110 : Cond.code yX13_takes cX13_takes 3 (Option.some Jvm.ClassFile.FieldType.boolean) ∈ bt := in_t9 (List.mem_of_getElem? (i := 110) (by decide +kernel)) rfl
theorem m9_111 : Cond.methodLink RX13 405 yX13_number ∈ bt := in_t9 (List.mem_of_getElem? (i := 111) (by decide +kernel)) rfl
theorem m9_113 : Cond.instanceMethod yX13_number ∈ bt := in_t9 (List.mem_of_getElem? (i := 113) (by decide +kernel)) rfl
theorem m9_114 : Cond.code yX13_number cX13_number 4 (Option.some Jvm.ClassFile.FieldType.int) ∈ bt := in_t9 (List.mem_of_getElem? (i := 114) (by decide +kernel)) rfl
theorem m9_115 : Cond.methodLink RX13 434 yX13_laysDraft ∈ bt := in_t9 (List.mem_of_getElem? (i := 115) (by decide +kernel)) rfl
theorem m9_117 : Cond.instanceMethod yX13_laysDraft ∈ bt := in_t9 (List.mem_of_getElem? (i := 117) (by decide +kernel)) rfl
theorem m9_118 : Cond.code yX13_laysDraft cX13_laysDraft 3 (Option.none : Option Jvm.ClassFile.FieldType) ∈ bt := in_t9 (List.mem_of_getElem? (i := 118) (by decide +kernel)) rfl
theorem m9_119 : Cond.methodLink RX13 450 yX13_readsOfficer ∈ bt := in_t9 (List.mem_of_getElem? (i := 119) (by decide +kernel)) rfl
theorem m9_121 : Cond.instanceMethod yX13_readsOfficer ∈ bt := in_t9 (List.mem_of_getElem? (i := 121) (by decide +kernel)) rfl
theorem m9_122 : Cond.code yX13_readsOfficer cX13_readsOfficer 4 (Option.none : Option Jvm.ClassFile.FieldType) ∈ bt := in_t9 (List.mem_of_getElem? (i := 122) (by decide +kernel)) rfl
theorem m9_123 : Cond.methodLink RX13 453 yX13_readsWitness ∈ bt := in_t9 (List.mem_of_getElem? (i := 123) (by decide +kernel)) rfl
theorem m9_125 : Cond.instanceMethod yX13_readsWitness ∈ bt := in_t9 (List.mem_of_getElem? (i := 125) (by decide +kernel)) rfl
theorem m9_126 : Cond.code yX13_readsWitness cX13_readsWitness 5 (Option.none : Option Jvm.ClassFile.FieldType) ∈ bt := in_t9 (List.mem_of_getElem? (i := 126) (by decide +kernel)) rfl
theorem m9_127 : Cond.methodLink RX13 456 yX13_readsCase ∈ bt := in_t9 (List.mem_of_getElem? (i := 127) (by decide +kernel)) rfl
theorem m9_129 : Cond.instanceMethod yX13_readsCase ∈ bt := in_t9 (List.mem_of_getElem? (i := 129) (by decide +kernel)) rfl
theorem m9_130 : Cond.code yX13_readsCase cX13_readsCase 2 (Option.none : Option Jvm.ClassFile.FieldType) ∈ bt := in_t9 (List.mem_of_getElem? (i := 130) (by decide +kernel)) rfl
theorem m9_131 : Cond.methodLink RX13 441 yX13_readsNeeds ∈ bt := in_t9 (List.mem_of_getElem? (i := 131) (by decide +kernel)) rfl
theorem m9_133 : Cond.instanceMethod yX13_readsNeeds ∈ bt := in_t9 (List.mem_of_getElem? (i := 133) (by decide +kernel)) rfl
theorem m9_134 : Cond.code yX13_readsNeeds cX13_readsNeeds 3 (Option.none : Option Jvm.ClassFile.FieldType) ∈ bt := in_t9 (List.mem_of_getElem? (i := 134) (by decide +kernel)) rfl
theorem m9_135 : Cond.methodLink RX13 437 yX13_known ∈ bt := in_t9 (List.mem_of_getElem? (i := 135) (by decide +kernel)) rfl
theorem m9_137 : Cond.instanceMethod yX13_known ∈ bt := in_t9 (List.mem_of_getElem? (i := 137) (by decide +kernel)) rfl
theorem m9_138 : Cond.code yX13_known cX13_known 4 (Option.some Jvm.ClassFile.FieldType.int) ∈ bt := in_t9 (List.mem_of_getElem? (i := 138) (by decide +kernel)) rfl
theorem m9_139 : Cond.methodLink RX13 459 yX13_readsBar ∈ bt := in_t9 (List.mem_of_getElem? (i := 139) (by decide +kernel)) rfl
theorem m9_141 : Cond.instanceMethod yX13_readsBar ∈ bt := in_t9 (List.mem_of_getElem? (i := 141) (by decide +kernel)) rfl
theorem m9_142 : Cond.code yX13_readsBar cX13_readsBar 3 (Option.none : Option Jvm.ClassFile.FieldType) ∈ bt := in_t9 (List.mem_of_getElem? (i := 142) (by decide +kernel)) rfl
theorem m9_143 : Cond.methodLink RX13 462 yX13_readsConflict ∈ bt := in_t9 (List.mem_of_getElem? (i := 143) (by decide +kernel)) rfl
theorem m9_145 : Cond.instanceMethod yX13_readsConflict ∈ bt := in_t9 (List.mem_of_getElem? (i := 145) (by decide +kernel)) rfl
theorem m9_146 : Cond.code yX13_readsConflict cX13_readsConflict 3 (Option.none : Option Jvm.ClassFile.FieldType) ∈ bt := in_t9 (List.mem_of_getElem? (i := 146) (by decide +kernel)) rfl
theorem m9_147 : Cond.methodLink RX13 465 yX13_readsLengthen ∈ bt := in_t9 (List.mem_of_getElem? (i := 147) (by decide +kernel)) rfl
theorem m9_149 : Cond.instanceMethod yX13_readsLengthen ∈ bt := in_t9 (List.mem_of_getElem? (i := 149) (by decide +kernel)) rfl
theorem m9_150 : Cond.code yX13_readsLengthen cX13_readsLengthen 3 (Option.none : Option Jvm.ClassFile.FieldType) ∈ bt := in_t9 (List.mem_of_getElem? (i := 150) (by decide +kernel)) rfl
theorem m9_151 : Cond.methodLink RX13 468 yX13_readsCap ∈ bt := in_t9 (List.mem_of_getElem? (i := 151) (by decide +kernel)) rfl
theorem m9_153 : Cond.instanceMethod yX13_readsCap ∈ bt := in_t9 (List.mem_of_getElem? (i := 153) (by decide +kernel)) rfl
theorem m9_154 : Cond.code yX13_readsCap cX13_readsCap 1 (Option.none : Option Jvm.ClassFile.FieldType) ∈ bt := in_t9 (List.mem_of_getElem? (i := 154) (by decide +kernel)) rfl
theorem m9_155 : Cond.methodLink RL 134 yX13_errorCode ∈ bt := in_t9 (List.mem_of_getElem? (i := 155) (by decide +kernel)) rfl
theorem m9_156 : Cond.instanceMethod yX13_errorCode ∈ bt := in_t9 (List.mem_of_getElem? (i := 156) (by decide +kernel)) rfl
theorem m9_157 : Cond.selects RX13 yX13_errorCode yX13_errorCode ∈ bt := in_t9 (List.mem_of_getElem? (i := 157) (by decide +kernel)) rfl
theorem m9_158 : Cond.code yX13_errorCode cX13_errorCode 1 (Option.some Jvm.ClassFile.FieldType.int) ∈ bt := in_t9 (List.mem_of_getElem? (i := 158) (by decide +kernel)) rfl
theorem m9_159 : Cond.methodLink RL 138 yX13_errorOffset ∈ bt := in_t9 (List.mem_of_getElem? (i := 159) (by decide +kernel)) rfl
theorem m9_160 : Cond.instanceMethod yX13_errorOffset ∈ bt := in_t9 (List.mem_of_getElem? (i := 160) (by decide +kernel)) rfl
theorem m9_161 : Cond.selects RX13 yX13_errorOffset yX13_errorOffset ∈ bt := in_t9 (List.mem_of_getElem? (i := 161) (by decide +kernel)) rfl
theorem m9_162 : Cond.code yX13_errorOffset cX13_errorOffset 1 (Option.some Jvm.ClassFile.FieldType.int) ∈ bt := in_t9 (List.mem_of_getElem? (i := 162) (by decide +kernel)) rfl
theorem m9_163 : Cond.methodLink RL 148 yX13_find ∈ bt := in_t9 (List.mem_of_getElem? (i := 163) (by decide +kernel)) rfl
theorem m9_164 : Cond.instanceMethod yX13_find ∈ bt := in_t9 (List.mem_of_getElem? (i := 164) (by decide +kernel)) rfl
theorem m9_165 : Cond.selects RX13 yX13_find yX13_find ∈ bt := in_t9 (List.mem_of_getElem? (i := 165) (by decide +kernel)) rfl
theorem m9_166 : Cond.code yX13_find cX13_find 3 (Option.some Jvm.ClassFile.FieldType.int) ∈ bt := in_t9 (List.mem_of_getElem? (i := 166) (by decide +kernel)) rfl
theorem m9_167 : Cond.methodLink RL 261 yX13_printDay ∈ bt := in_t9 (List.mem_of_getElem? (i := 167) (by decide +kernel)) rfl
theorem m9_168 : Cond.instanceMethod yX13_printDay ∈ bt := in_t9 (List.mem_of_getElem? (i := 168) (by decide +kernel)) rfl
theorem m9_169 : Cond.selects RX13 yX13_printDay yX13_printDay ∈ bt := in_t9 (List.mem_of_getElem? (i := 169) (by decide +kernel)) rfl
theorem m9_170 : Cond.code yX13_printDay cX13_printDay 5 (Option.some Jvm.ClassFile.FieldType.int) ∈ bt := in_t9 (List.mem_of_getElem? (i := 170) (by decide +kernel)) rfl
theorem m9_171 : Cond.methodLink RX13 487 yX13_saysHearing ∈ bt := in_t9 (List.mem_of_getElem? (i := 171) (by decide +kernel)) rfl
theorem m9_173 : Cond.instanceMethod yX13_saysHearing ∈ bt := in_t9 (List.mem_of_getElem? (i := 173) (by decide +kernel)) rfl
theorem m9_174 : Cond.code yX13_saysHearing cX13_saysHearing 2 (Option.none : Option Jvm.ClassFile.FieldType) ∈ bt := in_t9 (List.mem_of_getElem? (i := 174) (by decide +kernel)) rfl
theorem m9_175 : Cond.methodLink RX13 484 yX13_says ∈ bt := in_t9 (List.mem_of_getElem? (i := 175) (by decide +kernel)) rfl
theorem m9_177 : Cond.instanceMethod yX13_says ∈ bt := in_t9 (List.mem_of_getElem? (i := 177) (by decide +kernel)) rfl
theorem m9_178 : Cond.code yX13_says cX13_says 2 (Option.none : Option Jvm.ClassFile.FieldType) ∈ bt := in_t9 (List.mem_of_getElem? (i := 178) (by decide +kernel)) rfl
theorem m9_179 : Cond.methodLink RX13 480 yX13_saysName ∈ bt := in_t9 (List.mem_of_getElem? (i := 179) (by decide +kernel)) rfl
theorem m9_181 : Cond.instanceMethod yX13_saysName ∈ bt := in_t9 (List.mem_of_getElem? (i := 181) (by decide +kernel)) rfl
theorem m9_182 : Cond.code yX13_saysName cX13_saysName 3 (Option.none : Option Jvm.ClassFile.FieldType) ∈ bt := in_t9 (List.mem_of_getElem? (i := 182) (by decide +kernel)) rfl
theorem m9_183 : Cond.methodLink RL 265 yX13_outputByte ∈ bt := in_t9 (List.mem_of_getElem? (i := 183) (by decide +kernel)) rfl
theorem m9_184 : Cond.instanceMethod yX13_outputByte ∈ bt := in_t9 (List.mem_of_getElem? (i := 184) (by decide +kernel)) rfl
theorem m9_185 : Cond.selects RX13 yX13_outputByte yX13_outputByte ∈ bt := in_t9 (List.mem_of_getElem? (i := 185) (by decide +kernel)) rfl
theorem m9_186 : Cond.code yX13_outputByte cX13_outputByte 2 (Option.some Jvm.ClassFile.FieldType.int) ∈ bt := in_t9 (List.mem_of_getElem? (i := 186) (by decide +kernel)) rfl
theorem m9_187 : Cond.arrayClass Jvm.ClassFile.FieldType.double ∈ bt := in_t9 (List.mem_of_getElem? (i := 187) (by decide +kernel)) rfl
theorem m9_188 : Cond.sameMethod "java/lang/Throwable" "java/lang/Throwable" "fillInStackTrace" "(I)Ljava/lang/Throwable;" ∈ bt := in_t9 (List.mem_of_getElem? (i := 188) (by decide +kernel)) rfl
theorem m9_189 : Cond.castable RX12 "java/lang/Object" ∈ nb := in_n9 (List.mem_of_getElem? (i := 189) (by decide +kernel)) rfl
theorem m9_190 : Cond.castable RX9 "java/lang/Object" ∈ nb := in_n9 (List.mem_of_getElem? (i := 190) (by decide +kernel)) rfl
theorem m9_191 : Cond.castable RX2 "java/lang/Object" ∈ nb := in_n9 (List.mem_of_getElem? (i := 191) (by decide +kernel)) rfl
theorem m9_192 : Cond.castable RX4 "java/lang/Object" ∈ nb := in_n9 (List.mem_of_getElem? (i := 192) (by decide +kernel)) rfl
theorem m9_193 : Cond.castable RX3 "java/lang/Object" ∈ nb := in_n9 (List.mem_of_getElem? (i := 193) (by decide +kernel)) rfl
theorem m9_194 : Cond.castable RX5 "java/lang/Object" ∈ nb := in_n9 (List.mem_of_getElem? (i := 194) (by decide +kernel)) rfl
theorem m9_195 : Cond.castable RX8 "java/lang/Object" ∈ nb := in_n9 (List.mem_of_getElem? (i := 195) (by decide +kernel)) rfl
theorem m9_196 : Cond.castable RX11 "java/lang/Object" ∈ nb := in_n9 (List.mem_of_getElem? (i := 196) (by decide +kernel)) rfl
theorem m9_197 : Cond.castable RX10 "java/lang/Object" ∈ nb := in_n9 (List.mem_of_getElem? (i := 197) (by decide +kernel)) rfl
theorem m9_198 : Cond.castable RX7 "java/lang/Object" ∈ nb := in_n9 (List.mem_of_getElem? (i := 198) (by decide +kernel)) rfl
theorem m9_199 : Cond.castable RX6 "java/lang/Object" ∈ nb := in_n9 (List.mem_of_getElem? (i := 199) (by decide +kernel)) rfl
theorem m9_200 : Cond.castable RX1 "java/lang/Object" ∈ nb := in_n9 (List.mem_of_getElem? (i := 200) (by decide +kernel)) rfl
theorem m9_201 : Cond.castable RX13 "java/lang/Object" ∈ nb := in_n9 (List.mem_of_getElem? (i := 201) (by decide +kernel)) rfl
theorem m9_202 : Cond.castable "java/lang/IllegalArgumentException" "java/lang/Object" ∈ nb := in_n9 (List.mem_of_getElem? (i := 202) (by decide +kernel)) rfl
theorem m9_203 : Cond.castable "java/lang/IndexOutOfBoundsException" "java/lang/Object" ∈ nb := in_n9 (List.mem_of_getElem? (i := 203) (by decide +kernel)) rfl
theorem m9_204 : Cond.castable "java/lang/IllegalStateException" "java/lang/Object" ∈ nb := in_n9 (List.mem_of_getElem? (i := 204) (by decide +kernel)) rfl
theorem m9_205 : Cond.castable "java/util/NoSuchElementException" "java/lang/Object" ∈ nb := in_n9 (List.mem_of_getElem? (i := 205) (by decide +kernel)) rfl
theorem m9_206 : Cond.castable "java/lang/Throwable" "java/lang/Object" ∈ nb := in_n9 (List.mem_of_getElem? (i := 206) (by decide +kernel)) rfl
theorem m9_207 : Cond.castable RJ0 "java/lang/Object" ∈ nb := in_n9 (List.mem_of_getElem? (i := 207) (by decide +kernel)) rfl
theorem m9_208 : Cond.fieldLink RX11 96 RX11 "packed" "J" ∈ bt := in_t9 (List.mem_of_getElem? (i := 208) (by decide +kernel)) rfl
theorem m9_209 : Cond.fieldLink RJx29ce0 7 RJx29ce0 "ordinal" "I" ∈ bt := in_t9 (List.mem_of_getElem? (i := 209) (by decide +kernel)) rfl
theorem m9_210 : Cond.fieldLink RJ0 9 RJ0 "value" "[B" ∈ bt := in_t9 (List.mem_of_getElem? (i := 210) (by decide +kernel)) rfl
theorem m9_211 : Cond.fieldLink RJ0 15 RJ0 "coder" "B" ∈ bt := in_t9 (List.mem_of_getElem? (i := 211) (by decide +kernel)) rfl
theorem m9_212 : Cond.laysStatic RX11 "HOLIDAY" "LCourtCalendar$Token;" ∈ lw_tbl := in_l9 (List.mem_of_getElem? (i := 212) (by decide +kernel))
theorem m9_213 : Cond.laysStatic RX11 "ROOM" "LCourtCalendar$Token;" ∈ lw_tbl := in_l9 (List.mem_of_getElem? (i := 213) (by decide +kernel))
theorem m9_214 : Cond.laysStatic RX11 "OFFICER" "LCourtCalendar$Token;" ∈ lw_tbl := in_l9 (List.mem_of_getElem? (i := 214) (by decide +kernel))
theorem m9_215 : Cond.laysStatic RX11 "WITNESS" "LCourtCalendar$Token;" ∈ lw_tbl := in_l9 (List.mem_of_getElem? (i := 215) (by decide +kernel))
theorem m9_216 : Cond.laysStatic RX11 "CASE" "LCourtCalendar$Token;" ∈ lw_tbl := in_l9 (List.mem_of_getElem? (i := 216) (by decide +kernel))
theorem m9_217 : Cond.laysStatic RX11 "BAR" "LCourtCalendar$Token;" ∈ lw_tbl := in_l9 (List.mem_of_getElem? (i := 217) (by decide +kernel))
theorem m9_218 : Cond.laysStatic RX11 "CONFLICT" "LCourtCalendar$Token;" ∈ lw_tbl := in_l9 (List.mem_of_getElem? (i := 218) (by decide +kernel))
theorem m9_219 : Cond.laysStatic RX11 "LENGTHEN" "LCourtCalendar$Token;" ∈ lw_tbl := in_l9 (List.mem_of_getElem? (i := 219) (by decide +kernel))
theorem m9_220 : Cond.laysStatic RX11 "CAP" "LCourtCalendar$Token;" ∈ lw_tbl := in_l9 (List.mem_of_getElem? (i := 220) (by decide +kernel))
theorem ms_0 : Cond.selects RX12 yX12_append yX12_append ∈ bt := in_ts (List.mem_of_getElem? (i := 0) (by decide +kernel)) rfl
theorem ms_1 : Cond.selects RX5 yX5_takesStatement yX5_takesStatement ∈ bt := in_ts (List.mem_of_getElem? (i := 1) (by decide +kernel)) rfl
theorem ms_2 : Cond.selects RX5 yX5_takesHoliday yX5_takesHoliday ∈ bt := in_ts (List.mem_of_getElem? (i := 2) (by decide +kernel)) rfl
theorem ms_3 : Cond.selects RX5 yX5_fail yX5_fail ∈ bt := in_ts (List.mem_of_getElem? (i := 3) (by decide +kernel)) rfl
theorem ms_4 : Cond.selects RX5 yX5_seesNumber yX5_seesNumber ∈ bt := in_ts (List.mem_of_getElem? (i := 4) (by decide +kernel)) rfl
theorem ms_5 : Cond.selects RX5 yX5_takesRoom yX5_takesRoom ∈ bt := in_ts (List.mem_of_getElem? (i := 5) (by decide +kernel)) rfl
theorem ms_6 : Cond.selects RX5 yX5_takesNewName yX5_takesNewName ∈ bt := in_ts (List.mem_of_getElem? (i := 6) (by decide +kernel)) rfl
theorem ms_7 : Cond.selects RX5 yX5_takes yX5_takes ∈ bt := in_ts (List.mem_of_getElem? (i := 7) (by decide +kernel)) rfl
theorem ms_8 : Cond.selects RX5 yX5_takesSpan yX5_takesSpan ∈ bt := in_ts (List.mem_of_getElem? (i := 8) (by decide +kernel)) rfl
theorem ms_9 : Cond.selects RX5 yX5_takesNumber yX5_takesNumber ∈ bt := in_ts (List.mem_of_getElem? (i := 9) (by decide +kernel)) rfl
theorem ms_10 : Cond.selects RX5 yX5_takesOfficer yX5_takesOfficer ∈ bt := in_ts (List.mem_of_getElem? (i := 10) (by decide +kernel)) rfl
theorem ms_11 : Cond.selects RX5 yX5_takesWitness yX5_takesWitness ∈ bt := in_ts (List.mem_of_getElem? (i := 11) (by decide +kernel)) rfl
theorem ms_12 : Cond.selects RX5 yX5_takesCase yX5_takesCase ∈ bt := in_ts (List.mem_of_getElem? (i := 12) (by decide +kernel)) rfl
theorem ms_13 : Cond.selects RX5 yX5_takesNeeds yX5_takesNeeds ∈ bt := in_ts (List.mem_of_getElem? (i := 13) (by decide +kernel)) rfl
theorem ms_14 : Cond.selects RX5 yX5_seesToldName yX5_seesToldName ∈ bt := in_ts (List.mem_of_getElem? (i := 14) (by decide +kernel)) rfl
theorem ms_15 : Cond.selects RX5 yX5_takesBar yX5_takesBar ∈ bt := in_ts (List.mem_of_getElem? (i := 15) (by decide +kernel)) rfl
theorem ms_16 : Cond.selects RX5 yX5_takesConflict yX5_takesConflict ∈ bt := in_ts (List.mem_of_getElem? (i := 16) (by decide +kernel)) rfl
theorem ms_17 : Cond.selects RX5 yX5_takesLengthen yX5_takesLengthen ∈ bt := in_ts (List.mem_of_getElem? (i := 17) (by decide +kernel)) rfl
theorem ms_18 : Cond.selects RX5 yX5_takesCap yX5_takesCap ∈ bt := in_ts (List.mem_of_getElem? (i := 18) (by decide +kernel)) rfl
theorem ms_19 : Cond.selects RX1 yX1_prepare yX1_prepare ∈ bt := in_ts (List.mem_of_getElem? (i := 19) (by decide +kernel)) rfl
theorem ms_20 : Cond.selects RX1 yX1_hardest yX1_hardest ∈ bt := in_ts (List.mem_of_getElem? (i := 20) (by decide +kernel)) rfl
theorem ms_21 : Cond.selects RX1 yX1_isSpare yX1_isSpare ∈ bt := in_ts (List.mem_of_getElem? (i := 21) (by decide +kernel)) rfl
theorem ms_22 : Cond.selects RX1 yX1_giveTo yX1_giveTo ∈ bt := in_ts (List.mem_of_getElem? (i := 22) (by decide +kernel)) rfl
theorem ms_23 : Cond.selects RX12 yX12_remember yX12_remember ∈ bt := in_ts (List.mem_of_getElem? (i := 23) (by decide +kernel)) rfl
theorem ms_24 : Cond.selects RX10 yX10_urgencyKey yX10_urgencyKey ∈ bt := in_ts (List.mem_of_getElem? (i := 24) (by decide +kernel)) rfl
theorem ms_25 : Cond.selects RX6 yX6_lookAtOfficers yX6_lookAtOfficers ∈ bt := in_ts (List.mem_of_getElem? (i := 25) (by decide +kernel)) rfl
theorem ms_26 : Cond.selects RX6 yX6_findOn yX6_findOn ∈ bt := in_ts (List.mem_of_getElem? (i := 26) (by decide +kernel)) rfl
theorem ms_27 : Cond.selects RX6 yX6_lookAtDay yX6_lookAtDay ∈ bt := in_ts (List.mem_of_getElem? (i := 27) (by decide +kernel)) rfl
theorem ms_28 : Cond.selects RX6 yX6_findIn yX6_findIn ∈ bt := in_ts (List.mem_of_getElem? (i := 28) (by decide +kernel)) rfl
theorem ms_29 : Cond.selects RX6 yX6_leastLoaded yX6_leastLoaded ∈ bt := in_ts (List.mem_of_getElem? (i := 29) (by decide +kernel)) rfl
theorem ms_30 : Cond.selects RX12 yX12_forecastPlanned yX12_forecastPlanned ∈ bt := in_ts (List.mem_of_getElem? (i := 30) (by decide +kernel)) rfl
theorem ms_32 : Cond.selects RX12 yX12_bufferedName yX12_bufferedName ∈ bt := in_ts (List.mem_of_getElem? (i := 32) (by decide +kernel)) rfl
theorem ms_33 : Cond.selects RX12 yX12_requireDay yX12_requireDay ∈ bt := in_ts (List.mem_of_getElem? (i := 33) (by decide +kernel)) rfl
theorem ms_34 : Cond.selects RX12 yX12_requireSpan yX12_requireSpan ∈ bt := in_ts (List.mem_of_getElem? (i := 34) (by decide +kernel)) rfl
theorem ms_35 : Cond.selects RX12 yX12_requireReason yX12_requireReason ∈ bt := in_ts (List.mem_of_getElem? (i := 35) (by decide +kernel)) rfl
theorem ms_36 : Cond.selects RX12 yX12_requireExisting yX12_requireExisting ∈ bt := in_ts (List.mem_of_getElem? (i := 36) (by decide +kernel)) rfl
theorem ms_37 : Cond.selects RX12 yX12_requireSlot yX12_requireSlot ∈ bt := in_ts (List.mem_of_getElem? (i := 37) (by decide +kernel)) rfl
theorem ms_38 : Cond.selects RX12 yX12_requireHearing yX12_requireHearing ∈ bt := in_ts (List.mem_of_getElem? (i := 38) (by decide +kernel)) rfl
theorem ms_39 : Cond.selects RX12 yX12_requireUnfinished yX12_requireUnfinished ∈ bt := in_ts (List.mem_of_getElem? (i := 39) (by decide +kernel)) rfl
theorem ms_40 : Cond.selects RX12 yX12_requirePassable yX12_requirePassable ∈ bt := in_ts (List.mem_of_getElem? (i := 40) (by decide +kernel)) rfl
theorem ms_41 : Cond.selects RX12 yX12_requireComingDay yX12_requireComingDay ∈ bt := in_ts (List.mem_of_getElem? (i := 41) (by decide +kernel)) rfl
theorem ms_42 : Cond.selects RX12 yX12_printHearing yX12_printHearing ∈ bt := in_ts (List.mem_of_getElem? (i := 42) (by decide +kernel)) rfl
theorem ms_43 : Cond.selects RX12 yX12_print yX12_print ∈ bt := in_ts (List.mem_of_getElem? (i := 43) (by decide +kernel)) rfl
theorem ms_44 : Cond.selects RX12 yX12_printName yX12_printName ∈ bt := in_ts (List.mem_of_getElem? (i := 44) (by decide +kernel)) rfl
theorem ms_45 : Cond.selects RX13 yX13_clears yX13_clears ∈ bt := in_ts (List.mem_of_getElem? (i := 45) (by decide +kernel)) rfl
theorem ms_46 : Cond.selects RX13 yX13_takesDraft yX13_takesDraft ∈ bt := in_ts (List.mem_of_getElem? (i := 46) (by decide +kernel)) rfl
theorem ms_47 : Cond.selects RX13 yX13_is yX13_is ∈ bt := in_ts (List.mem_of_getElem? (i := 47) (by decide +kernel)) rfl
theorem ms_48 : Cond.selects RX13 yX13_isWorking yX13_isWorking ∈ bt := in_ts (List.mem_of_getElem? (i := 48) (by decide +kernel)) rfl
theorem ms_49 : Cond.selects RX13 yX13_isHoliday yX13_isHoliday ∈ bt := in_ts (List.mem_of_getElem? (i := 49) (by decide +kernel)) rfl
theorem ms_50 : Cond.selects RX13 yX13_workingIn yX13_workingIn ∈ bt := in_ts (List.mem_of_getElem? (i := 50) (by decide +kernel)) rfl
theorem ms_51 : Cond.selects RX13 yX13_isCase yX13_isCase ∈ bt := in_ts (List.mem_of_getElem? (i := 51) (by decide +kernel)) rfl
theorem ms_52 : Cond.selects RX13 yX13_slackOf yX13_slackOf ∈ bt := in_ts (List.mem_of_getElem? (i := 52) (by decide +kernel)) rfl
theorem ms_53 : Cond.selects RX13 yX13_limitDay yX13_limitDay ∈ bt := in_ts (List.mem_of_getElem? (i := 53) (by decide +kernel)) rfl
theorem ms_54 : Cond.selects RX13 yX13_of yX13_of ∈ bt := in_ts (List.mem_of_getElem? (i := 54) (by decide +kernel)) rfl
theorem ms_55 : Cond.selects RX13 yX13_at yX13_at ∈ bt := in_ts (List.mem_of_getElem? (i := 55) (by decide +kernel)) rfl
theorem ms_56 : Cond.selects RX13 yX13_manyIn yX13_manyIn ∈ bt := in_ts (List.mem_of_getElem? (i := 56) (by decide +kernel)) rfl
theorem ms_57 : Cond.selects RX13 yX13_hasHearing yX13_hasHearing ∈ bt := in_ts (List.mem_of_getElem? (i := 57) (by decide +kernel)) rfl
theorem ms_58 : Cond.selects RX13 yX13_areThere yX13_areThere ∈ bt := in_ts (List.mem_of_getElem? (i := 58) (by decide +kernel)) rfl
theorem ms_59 : Cond.selects RX13 yX13_isRoom yX13_isRoom ∈ bt := in_ts (List.mem_of_getElem? (i := 59) (by decide +kernel)) rfl
theorem ms_60 : Cond.selects RX13 yX13_isOfficer yX13_isOfficer ∈ bt := in_ts (List.mem_of_getElem? (i := 60) (by decide +kernel)) rfl
theorem ms_61 : Cond.selects RX13 yX13_may yX13_may ∈ bt := in_ts (List.mem_of_getElem? (i := 61) (by decide +kernel)) rfl
theorem ms_62 : Cond.selects RX13 yX13_isOpen yX13_isOpen ∈ bt := in_ts (List.mem_of_getElem? (i := 62) (by decide +kernel)) rfl
theorem ms_63 : Cond.selects RX13 yX13_problemOf yX13_problemOf ∈ bt := in_ts (List.mem_of_getElem? (i := 63) (by decide +kernel)) rfl
theorem ms_64 : Cond.selects RX13 yX13_isDayOut yX13_isDayOut ∈ bt := in_ts (List.mem_of_getElem? (i := 64) (by decide +kernel)) rfl
theorem ms_65 : Cond.selects RX13 yX13_problemOn yX13_problemOn ∈ bt := in_ts (List.mem_of_getElem? (i := 65) (by decide +kernel)) rfl
theorem ms_66 : Cond.selects RX13 yX13_isRoomTaken yX13_isRoomTaken ∈ bt := in_ts (List.mem_of_getElem? (i := 66) (by decide +kernel)) rfl
theorem ms_67 : Cond.selects RX13 yX13_meets yX13_meets ∈ bt := in_ts (List.mem_of_getElem? (i := 67) (by decide +kernel)) rfl
theorem ms_68 : Cond.selects RX13 yX13_isOffOn yX13_isOffOn ∈ bt := in_ts (List.mem_of_getElem? (i := 68) (by decide +kernel)) rfl
theorem ms_69 : Cond.selects RX13 yX13_isOfficerTaken yX13_isOfficerTaken ∈ bt := in_ts (List.mem_of_getElem? (i := 69) (by decide +kernel)) rfl
theorem ms_70 : Cond.selects RX13 yX13_isBarredFrom yX13_isBarredFrom ∈ bt := in_ts (List.mem_of_getElem? (i := 70) (by decide +kernel)) rfl
theorem ms_71 : Cond.selects RX13 yX13_isOutOfWindows yX13_isOutOfWindows ∈ bt := in_ts (List.mem_of_getElem? (i := 71) (by decide +kernel)) rfl
theorem ms_72 : Cond.selects RX13 yX13_isWitnessTaken yX13_isWitnessTaken ∈ bt := in_ts (List.mem_of_getElem? (i := 72) (by decide +kernel)) rfl
theorem ms_73 : Cond.selects RX13 yX13_finds yX13_finds ∈ bt := in_ts (List.mem_of_getElem? (i := 73) (by decide +kernel)) rfl
theorem ms_74 : Cond.selects RX13 yX13_lastDay yX13_lastDay ∈ bt := in_ts (List.mem_of_getElem? (i := 74) (by decide +kernel)) rfl
theorem ms_75 : Cond.selects RX13 yX13_findsOn yX13_findsOn ∈ bt := in_ts (List.mem_of_getElem? (i := 75) (by decide +kernel)) rfl
theorem ms_76 : Cond.selects RX13 yX13_officerFor yX13_officerFor ∈ bt := in_ts (List.mem_of_getElem? (i := 76) (by decide +kernel)) rfl
theorem ms_77 : Cond.selects RX13 yX13_loadOf yX13_loadOf ∈ bt := in_ts (List.mem_of_getElem? (i := 77) (by decide +kernel)) rfl
theorem ms_78 : Cond.selects RX13 yX13_urgentAt yX13_urgentAt ∈ bt := in_ts (List.mem_of_getElem? (i := 78) (by decide +kernel)) rfl
theorem ms_79 : Cond.selects RX13 yX13_isUrgenter yX13_isUrgenter ∈ bt := in_ts (List.mem_of_getElem? (i := 79) (by decide +kernel)) rfl
theorem ms_80 : Cond.selects RX13 yX13_starts yX13_starts ∈ bt := in_ts (List.mem_of_getElem? (i := 80) (by decide +kernel)) rfl
theorem ms_81 : Cond.selects RX13 yX13_plans yX13_plans ∈ bt := in_ts (List.mem_of_getElem? (i := 81) (by decide +kernel)) rfl
theorem ms_82 : Cond.selects RX13 yX13_lays yX13_lays ∈ bt := in_ts (List.mem_of_getElem? (i := 82) (by decide +kernel)) rfl
theorem ms_83 : Cond.selects RX13 yX13_done yX13_done ∈ bt := in_ts (List.mem_of_getElem? (i := 83) (by decide +kernel)) rfl
theorem ms_84 : Cond.selects RX13 yX13_keeps yX13_keeps ∈ bt := in_ts (List.mem_of_getElem? (i := 84) (by decide +kernel)) rfl
theorem ms_85 : Cond.selects RX13 yX13_plansAll yX13_plansAll ∈ bt := in_ts (List.mem_of_getElem? (i := 85) (by decide +kernel)) rfl
theorem ms_86 : Cond.selects RX13 yX13_plansNext yX13_plansNext ∈ bt := in_ts (List.mem_of_getElem? (i := 86) (by decide +kernel)) rfl
theorem ms_87 : Cond.selects RX13 yX13_takesAway yX13_takesAway ∈ bt := in_ts (List.mem_of_getElem? (i := 87) (by decide +kernel)) rfl
theorem ms_88 : Cond.selects RX13 yX13_isWitness yX13_isWitness ∈ bt := in_ts (List.mem_of_getElem? (i := 88) (by decide +kernel)) rfl
theorem ms_89 : Cond.selects RX13 yX13_canPass yX13_canPass ∈ bt := in_ts (List.mem_of_getElem? (i := 89) (by decide +kernel)) rfl
theorem ms_90 : Cond.selects RX13 yX13_passesAll yX13_passesAll ∈ bt := in_ts (List.mem_of_getElem? (i := 90) (by decide +kernel)) rfl
theorem ms_91 : Cond.selects RX13 yX13_passes yX13_passes ∈ bt := in_ts (List.mem_of_getElem? (i := 91) (by decide +kernel)) rfl
theorem ms_92 : Cond.selects RX13 yX13_tries yX13_tries ∈ bt := in_ts (List.mem_of_getElem? (i := 92) (by decide +kernel)) rfl
theorem ms_93 : Cond.selects RX13 yX13_laysBack yX13_laysBack ∈ bt := in_ts (List.mem_of_getElem? (i := 93) (by decide +kernel)) rfl
theorem ms_94 : Cond.selects RX13 yX13_plannableNow yX13_plannableNow ∈ bt := in_ts (List.mem_of_getElem? (i := 94) (by decide +kernel)) rfl
theorem ms_95 : Cond.selects RX13 yX13_needing yX13_needing ∈ bt := in_ts (List.mem_of_getElem? (i := 95) (by decide +kernel)) rfl
theorem ms_96 : Cond.selects RX13 yX13_allBars yX13_allBars ∈ bt := in_ts (List.mem_of_getElem? (i := 96) (by decide +kernel)) rfl
theorem ms_97 : Cond.selects RX13 yX13_allConflicts yX13_allConflicts ∈ bt := in_ts (List.mem_of_getElem? (i := 97) (by decide +kernel)) rfl
theorem ms_98 : Cond.selects RX13 yX13_laysPeaceful yX13_laysPeaceful ∈ bt := in_ts (List.mem_of_getElem? (i := 98) (by decide +kernel)) rfl
theorem ms_99 : Cond.selects RX13 yX13_takesPart yX13_takesPart ∈ bt := in_ts (List.mem_of_getElem? (i := 99) (by decide +kernel)) rfl
theorem ms_100 : Cond.selects RX13 yX13_startsReading yX13_startsReading ∈ bt := in_ts (List.mem_of_getElem? (i := 100) (by decide +kernel)) rfl
theorem ms_101 : Cond.selects RX13 yX13_next yX13_next ∈ bt := in_ts (List.mem_of_getElem? (i := 101) (by decide +kernel)) rfl
theorem ms_102 : Cond.selects RX13 yX13_here yX13_here ∈ bt := in_ts (List.mem_of_getElem? (i := 102) (by decide +kernel)) rfl
theorem ms_103 : Cond.selects RX13 yX13_wordHere yX13_wordHere ∈ bt := in_ts (List.mem_of_getElem? (i := 103) (by decide +kernel)) rfl
theorem ms_104 : Cond.selects RX13 yX13_fine yX13_fine ∈ bt := in_ts (List.mem_of_getElem? (i := 104) (by decide +kernel)) rfl
theorem ms_105 : Cond.selects RX13 yX13_statement yX13_statement ∈ bt := in_ts (List.mem_of_getElem? (i := 105) (by decide +kernel)) rfl
theorem ms_106 : Cond.selects RX13 yX13_isWord yX13_isWord ∈ bt := in_ts (List.mem_of_getElem? (i := 106) (by decide +kernel)) rfl
theorem ms_107 : Cond.selects RX13 yX13_readsHoliday yX13_readsHoliday ∈ bt := in_ts (List.mem_of_getElem? (i := 107) (by decide +kernel)) rfl
theorem ms_108 : Cond.selects RX13 yX13_begins yX13_begins ∈ bt := in_ts (List.mem_of_getElem? (i := 108) (by decide +kernel)) rfl
theorem ms_109 : Cond.selects RX13 yX13_needs yX13_needs ∈ bt := in_ts (List.mem_of_getElem? (i := 109) (by decide +kernel)) rfl
theorem ms_110 : Cond.selects RX13 yX13_goOn yX13_goOn ∈ bt := in_ts (List.mem_of_getElem? (i := 110) (by decide +kernel)) rfl
theorem ms_111 : Cond.selects RX13 yX13_look yX13_look ∈ bt := in_ts (List.mem_of_getElem? (i := 111) (by decide +kernel)) rfl
theorem ms_112 : Cond.selects RX13 yX13_readsRoom yX13_readsRoom ∈ bt := in_ts (List.mem_of_getElem? (i := 112) (by decide +kernel)) rfl
theorem ms_113 : Cond.selects RX13 yX13_newName yX13_newName ∈ bt := in_ts (List.mem_of_getElem? (i := 113) (by decide +kernel)) rfl
theorem ms_114 : Cond.selects RX13 yX13_needsName yX13_needsName ∈ bt := in_ts (List.mem_of_getElem? (i := 114) (by decide +kernel)) rfl
theorem ms_115 : Cond.selects RX13 yX13_nameHere yX13_nameHere ∈ bt := in_ts (List.mem_of_getElem? (i := 115) (by decide +kernel)) rfl
theorem ms_116 : Cond.selects RX13 yX13_numberBehind yX13_numberBehind ∈ bt := in_ts (List.mem_of_getElem? (i := 116) (by decide +kernel)) rfl
theorem ms_117 : Cond.selects RX13 yX13_passesWord yX13_passesWord ∈ bt := in_ts (List.mem_of_getElem? (i := 117) (by decide +kernel)) rfl
theorem ms_118 : Cond.selects RX13 yX13_takes yX13_takes ∈ bt := in_ts (List.mem_of_getElem? (i := 118) (by decide +kernel)) rfl
theorem ms_119 : Cond.selects RX13 yX13_number yX13_number ∈ bt := in_ts (List.mem_of_getElem? (i := 119) (by decide +kernel)) rfl
theorem ms_120 : Cond.selects RX13 yX13_laysDraft yX13_laysDraft ∈ bt := in_ts (List.mem_of_getElem? (i := 120) (by decide +kernel)) rfl
theorem ms_121 : Cond.selects RX13 yX13_readsOfficer yX13_readsOfficer ∈ bt := in_ts (List.mem_of_getElem? (i := 121) (by decide +kernel)) rfl
theorem ms_122 : Cond.selects RX13 yX13_readsWitness yX13_readsWitness ∈ bt := in_ts (List.mem_of_getElem? (i := 122) (by decide +kernel)) rfl
theorem ms_123 : Cond.selects RX13 yX13_readsCase yX13_readsCase ∈ bt := in_ts (List.mem_of_getElem? (i := 123) (by decide +kernel)) rfl
theorem ms_124 : Cond.selects RX13 yX13_readsNeeds yX13_readsNeeds ∈ bt := in_ts (List.mem_of_getElem? (i := 124) (by decide +kernel)) rfl
theorem ms_125 : Cond.selects RX13 yX13_known yX13_known ∈ bt := in_ts (List.mem_of_getElem? (i := 125) (by decide +kernel)) rfl
theorem ms_126 : Cond.selects RX13 yX13_readsBar yX13_readsBar ∈ bt := in_ts (List.mem_of_getElem? (i := 126) (by decide +kernel)) rfl
theorem ms_127 : Cond.selects RX13 yX13_readsConflict yX13_readsConflict ∈ bt := in_ts (List.mem_of_getElem? (i := 127) (by decide +kernel)) rfl
theorem ms_128 : Cond.selects RX13 yX13_readsLengthen yX13_readsLengthen ∈ bt := in_ts (List.mem_of_getElem? (i := 128) (by decide +kernel)) rfl
theorem ms_129 : Cond.selects RX13 yX13_readsCap yX13_readsCap ∈ bt := in_ts (List.mem_of_getElem? (i := 129) (by decide +kernel)) rfl
theorem ms_130 : Cond.selects RX13 yX13_saysHearing yX13_saysHearing ∈ bt := in_ts (List.mem_of_getElem? (i := 130) (by decide +kernel)) rfl
theorem ms_131 : Cond.selects RX13 yX13_says yX13_says ∈ bt := in_ts (List.mem_of_getElem? (i := 131) (by decide +kernel)) rfl
theorem ms_132 : Cond.selects RX13 yX13_saysName yX13_saysName ∈ bt := in_ts (List.mem_of_getElem? (i := 132) (by decide +kernel)) rfl
